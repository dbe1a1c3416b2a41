/-! THE LAW, CALL BY CALL -/
theorem dL_law_492 : decode cL_law 492 = .ok (.aload_n 1, 1) := by decide +kernel
theorem dL_law_493 : decode cL_law 493 = .ok (.aload_n 0, 1) := by decide +kernel
theorem dL_law_494 : decode cL_law 494 = .ok (.iload 4, 2) := by decide +kernel
theorem dL_law_496 : decode cL_law 496 = .ok (.iconst 1, 1) := by decide +kernel
theorem dL_law_497 : decode cL_law 497 = .ok (.iadd, 1) := by decide +kernel
theorem dL_law_498 : decode cL_law 498 = .ok (.iaload, 1) := by decide +kernel
theorem dL_law_499 : decode cL_law 499 = .ok (.invokestatic 100, 3) := by decide +kernel
theorem dL_law_502 : decode cL_law 502 = .ok (.istore 5, 2) := by decide +kernel
theorem dL_law_504 : decode cL_law 504 = .ok (.aload_n 2, 1) := by decide +kernel
theorem dL_law_505 : decode cL_law 505 = .ok (.aload_n 0, 1) := by decide +kernel
theorem dL_law_506 : decode cL_law 506 = .ok (.iload 4, 2) := by decide +kernel
theorem dL_law_508 : decode cL_law 508 = .ok (.iconst 1, 1) := by decide +kernel
theorem dL_law_509 : decode cL_law 509 = .ok (.iadd, 1) := by decide +kernel
theorem dL_law_510 : decode cL_law 510 = .ok (.iaload, 1) := by decide +kernel
theorem dL_law_511 : decode cL_law 511 = .ok (.invokevirtual 103, 3) := by decide +kernel
theorem dL_law_514 : decode cL_law 514 = .ok (.aload_n 2, 1) := by decide +kernel
theorem dL_law_515 : decode cL_law 515 = .ok (.invokevirtual 77, 3) := by decide +kernel
theorem dL_law_518 : decode cL_law 518 = .ok (.iload 5, 2) := by decide +kernel
theorem dL_law_520 : decode cL_law 520 = .ok (.if_icmp .eq 5, 3) := by decide +kernel
theorem dL_law_523 : decode cL_law 523 = .ok (.iconst 0, 1) := by decide +kernel
theorem dL_law_524 : decode cL_law 524 = .ok (.ireturn, 1) := by decide +kernel
theorem dL_law_525 : decode cL_law 525 = .ok (.goto 493, 3) := by decide +kernel
set_option maxHeartbeats 4000000 in
set_option maxRecDepth 100000 in
theorem lw_carry {p : Program} {l : Launch} {e : Env} {R : Room} {s : State} {m : MethodId} {args : Array Value} {below : List Frame} {meth : Method} {c : Code} {D : va_G} {dA : Nat → ClassId} {bs b L : Nat} {xs : Nat → Int32} {x mo o : Option Nat} {Q : State → Prop} (hl : l.stackTraces = false) (C : h_C p m c code 7 s args RL D dA) (hE : h_EY bs s) (hF : 12 ≤ R.frames) (hLo : 464 ≤ R.locals) (hX : va_X b L xs s s.heap) (hbl : b < s.heap.size) (hbs : bs = s.heap.size) {i : Nat} (hi : i + 5 ≤ L) (hL : L ≤ 2560) {σ : HS} {K : HS → Prop} (h : lc_carry xs x mo o i σ K)
    (kk : ∀ τ, K τ → V p l e R s m args below meth c D dA bs 7 Q τ 1018 [(4, .int (nI i)), (3, va_rf o), (2, va_rf mo), (1, va_rf x), (0, va_rf (some b))] []) : V p l e R s m args below meth c D dA bs 7 Q σ 492 [(4, .int (nI i)), (3, va_rf o), (2, va_rf mo), (1, va_rf x), (0, va_rf (some b))] [] := by
  obtain ⟨q, r, σ1, hq, h1, hk, hn⟩ := h
  refine V_aload_n C 3 dL_law_492 rfl rfl ?_
  refine V_aload_n C 4 dL_law_493 rfl rfl ?_
  refine V_iload C 0 dL_law_494 rfl ?_
  refine V_iconst (v := 1) C dL_law_496 (by decide) ?_
  refine V_iadd C dL_law_497 ?_
  rw [lw_a1]
  refine V_sld C hX hbl hbs (j := i + 1) (by omega) (by omega) dL_law_498 ?_
  refine V_cH (As := [va_rf x, .int (xs (i + 1))]) (rest := []) C mh_100 (m_L_carry l hl D dA bs hq h1 hk) hE rfl rfl (Nat.le_trans h_w0 (by decide)) (Nat.le_trans (by decide) hF) (Nat.le_trans (by decide) hLo) dL_law_499 (fun k σ2 hp => ?_)
  obtain ⟨q2, hq2, σ3, h2, q3, hq3, σ4, h3, hK⟩ := hn k σ2 hp
  refine V_istore (lv' := [(5, .int k), (4, .int (nI i)), (3, va_rf o), (2, va_rf mo), (1, va_rf x), (0, va_rf (some b))]) C dL_law_502 (by decide) rfl ?_
  refine V_aload_n C 3 dL_law_504 rfl rfl ?_
  refine V_aload_n C 5 dL_law_505 rfl rfl ?_
  refine V_iload C 1 dL_law_506 rfl ?_
  refine V_iconst (v := 1) C dL_law_508 (by decide) ?_
  refine V_iadd C dL_law_509 ?_
  rw [lw_a1]
  refine V_sld C hX hbl hbs (j := i + 1) (by omega) (by omega) dL_law_510 ?_
  refine V_cV (As := [.int (xs (i + 1))]) (rest := []) C mv_RL_103 (m_X10_carry l D dA bs h2) hq2 rfl rfl (Nat.le_trans h_w0 (by decide)) (Nat.le_trans (by decide) hF) (Nat.le_trans (by decide) hLo) dL_law_511 ?_
  refine V_aload_n C 3 dL_law_514 rfl rfl ?_
  refine V_cV (As := []) (rest := []) C mv_RL_77 (m_X10_thrown l D dA bs h3) hq3 rfl rfl (Nat.le_trans h_w0 (by decide)) (Nat.le_trans (by decide) hF) (Nat.le_trans (by decide) hLo) dL_law_515 ?_
  refine V_iload C 0 dL_law_518 rfl ?_
  refine V_icmp_eq (tgt := 525) C dL_law_520 (by decide) (fun _ => ?_) (fun g => absurd rfl g)
  refine V_goto (tgt := 1018) C dL_law_525 (by decide) ?_
  exact V_sub [1, 2, 3, 4, 5] rfl (kk σ4 hK)
theorem dL_law_528 : decode cL_law 528 = .ok (.aload_n 1, 1) := by decide +kernel
theorem dL_law_529 : decode cL_law 529 = .ok (.aload_n 0, 1) := by decide +kernel
theorem dL_law_530 : decode cL_law 530 = .ok (.iload 4, 2) := by decide +kernel
theorem dL_law_532 : decode cL_law 532 = .ok (.iconst 1, 1) := by decide +kernel
theorem dL_law_533 : decode cL_law 533 = .ok (.iadd, 1) := by decide +kernel
theorem dL_law_534 : decode cL_law 534 = .ok (.iaload, 1) := by decide +kernel
theorem dL_law_535 : decode cL_law 535 = .ok (.invokestatic 104, 3) := by decide +kernel
theorem dL_law_538 : decode cL_law 538 = .ok (.istore 5, 2) := by decide +kernel
theorem dL_law_540 : decode cL_law 540 = .ok (.aload_n 2, 1) := by decide +kernel
theorem dL_law_541 : decode cL_law 541 = .ok (.aload_n 0, 1) := by decide +kernel
theorem dL_law_542 : decode cL_law 542 = .ok (.iload 4, 2) := by decide +kernel
theorem dL_law_544 : decode cL_law 544 = .ok (.iconst 1, 1) := by decide +kernel
theorem dL_law_545 : decode cL_law 545 = .ok (.iadd, 1) := by decide +kernel
theorem dL_law_546 : decode cL_law 546 = .ok (.iaload, 1) := by decide +kernel
theorem dL_law_547 : decode cL_law 547 = .ok (.invokevirtual 106, 3) := by decide +kernel
theorem dL_law_550 : decode cL_law 550 = .ok (.aload_n 2, 1) := by decide +kernel
theorem dL_law_551 : decode cL_law 551 = .ok (.invokevirtual 77, 3) := by decide +kernel
theorem dL_law_554 : decode cL_law 554 = .ok (.iload 5, 2) := by decide +kernel
theorem dL_law_556 : decode cL_law 556 = .ok (.if_icmp .eq 5, 3) := by decide +kernel
theorem dL_law_559 : decode cL_law 559 = .ok (.iconst 0, 1) := by decide +kernel
theorem dL_law_560 : decode cL_law 560 = .ok (.ireturn, 1) := by decide +kernel
theorem dL_law_561 : decode cL_law 561 = .ok (.goto 457, 3) := by decide +kernel
set_option maxHeartbeats 4000000 in
set_option maxRecDepth 100000 in
theorem lw_repeat {p : Program} {l : Launch} {e : Env} {R : Room} {s : State} {m : MethodId} {args : Array Value} {below : List Frame} {meth : Method} {c : Code} {D : va_G} {dA : Nat → ClassId} {bs b L : Nat} {xs : Nat → Int32} {x mo o : Option Nat} {Q : State → Prop} (hl : l.stackTraces = false) (C : h_C p m c code 7 s args RL D dA) (hE : h_EY bs s) (hF : 12 ≤ R.frames) (hLo : 464 ≤ R.locals) (hX : va_X b L xs s s.heap) (hbl : b < s.heap.size) (hbs : bs = s.heap.size) {i : Nat} (hi : i + 5 ≤ L) (hL : L ≤ 2560) {σ : HS} {K : HS → Prop} (h : lc_repeat xs x mo o i σ K)
    (kk : ∀ τ, K τ → V p l e R s m args below meth c D dA bs 7 Q τ 1018 [(4, .int (nI i)), (3, va_rf o), (2, va_rf mo), (1, va_rf x), (0, va_rf (some b))] []) : V p l e R s m args below meth c D dA bs 7 Q σ 528 [(4, .int (nI i)), (3, va_rf o), (2, va_rf mo), (1, va_rf x), (0, va_rf (some b))] [] := by
  obtain ⟨q, r, σ1, hq, h1, hk, hn⟩ := h
  refine V_aload_n C 3 dL_law_528 rfl rfl ?_
  refine V_aload_n C 4 dL_law_529 rfl rfl ?_
  refine V_iload C 0 dL_law_530 rfl ?_
  refine V_iconst (v := 1) C dL_law_532 (by decide) ?_
  refine V_iadd C dL_law_533 ?_
  rw [lw_a1]
  refine V_sld C hX hbl hbs (j := i + 1) (by omega) (by omega) dL_law_534 ?_
  refine V_cH (As := [va_rf x, .int (xs (i + 1))]) (rest := []) C mh_104 (m_L_repeat l hl D dA bs hq h1 hk) hE rfl rfl (Nat.le_trans h_w0 (by decide)) (Nat.le_trans (by decide) hF) (Nat.le_trans (by decide) hLo) dL_law_535 (fun k σ2 hp => ?_)
  obtain ⟨q2, hq2, σ3, h2, q3, hq3, σ4, h3, hK⟩ := hn k σ2 hp
  refine V_istore (lv' := [(5, .int k), (4, .int (nI i)), (3, va_rf o), (2, va_rf mo), (1, va_rf x), (0, va_rf (some b))]) C dL_law_538 (by decide) rfl ?_
  refine V_aload_n C 3 dL_law_540 rfl rfl ?_
  refine V_aload_n C 5 dL_law_541 rfl rfl ?_
  refine V_iload C 1 dL_law_542 rfl ?_
  refine V_iconst (v := 1) C dL_law_544 (by decide) ?_
  refine V_iadd C dL_law_545 ?_
  rw [lw_a1]
  refine V_sld C hX hbl hbs (j := i + 1) (by omega) (by omega) dL_law_546 ?_
  refine V_cV (As := [.int (xs (i + 1))]) (rest := []) C mv_RL_106 (m_X10_repeat l D dA bs h2) hq2 rfl rfl (Nat.le_trans h_w0 (by decide)) (Nat.le_trans (by decide) hF) (Nat.le_trans (by decide) hLo) dL_law_547 ?_
  refine V_aload_n C 3 dL_law_550 rfl rfl ?_
  refine V_cV (As := []) (rest := []) C mv_RL_77 (m_X10_thrown l D dA bs h3) hq3 rfl rfl (Nat.le_trans h_w0 (by decide)) (Nat.le_trans (by decide) hF) (Nat.le_trans (by decide) hLo) dL_law_551 ?_
  refine V_iload C 0 dL_law_554 rfl ?_
  refine V_icmp_eq (tgt := 561) C dL_law_556 (by decide) (fun _ => ?_) (fun g => absurd rfl g)
  refine V_goto (tgt := 1018) C dL_law_561 (by decide) ?_
  exact V_sub [1, 2, 3, 4, 5] rfl (kk σ4 hK)
theorem dL_law_564 : decode cL_law 564 = .ok (.aload_n 1, 1) := by decide +kernel
theorem dL_law_565 : decode cL_law 565 = .ok (.aload_n 0, 1) := by decide +kernel
theorem dL_law_566 : decode cL_law 566 = .ok (.iload 4, 2) := by decide +kernel
theorem dL_law_568 : decode cL_law 568 = .ok (.iconst 1, 1) := by decide +kernel
theorem dL_law_569 : decode cL_law 569 = .ok (.iadd, 1) := by decide +kernel
theorem dL_law_570 : decode cL_law 570 = .ok (.iaload, 1) := by decide +kernel
theorem dL_law_571 : decode cL_law 571 = .ok (.invokestatic 107, 3) := by decide +kernel
theorem dL_law_574 : decode cL_law 574 = .ok (.istore 5, 2) := by decide +kernel
theorem dL_law_576 : decode cL_law 576 = .ok (.aload_n 2, 1) := by decide +kernel
theorem dL_law_577 : decode cL_law 577 = .ok (.aload_n 0, 1) := by decide +kernel
theorem dL_law_578 : decode cL_law 578 = .ok (.iload 4, 2) := by decide +kernel
theorem dL_law_580 : decode cL_law 580 = .ok (.iconst 1, 1) := by decide +kernel
theorem dL_law_581 : decode cL_law 581 = .ok (.iadd, 1) := by decide +kernel
theorem dL_law_582 : decode cL_law 582 = .ok (.iaload, 1) := by decide +kernel
theorem dL_law_583 : decode cL_law 583 = .ok (.invokevirtual 109, 3) := by decide +kernel
theorem dL_law_586 : decode cL_law 586 = .ok (.aload_n 2, 1) := by decide +kernel
theorem dL_law_587 : decode cL_law 587 = .ok (.invokevirtual 77, 3) := by decide +kernel
theorem dL_law_590 : decode cL_law 590 = .ok (.iload 5, 2) := by decide +kernel
theorem dL_law_592 : decode cL_law 592 = .ok (.if_icmp .eq 5, 3) := by decide +kernel
theorem dL_law_595 : decode cL_law 595 = .ok (.iconst 0, 1) := by decide +kernel
theorem dL_law_596 : decode cL_law 596 = .ok (.ireturn, 1) := by decide +kernel
theorem dL_law_597 : decode cL_law 597 = .ok (.goto 421, 3) := by decide +kernel
set_option maxHeartbeats 4000000 in
set_option maxRecDepth 100000 in
theorem lw_drop {p : Program} {l : Launch} {e : Env} {R : Room} {s : State} {m : MethodId} {args : Array Value} {below : List Frame} {meth : Method} {c : Code} {D : va_G} {dA : Nat → ClassId} {bs b L : Nat} {xs : Nat → Int32} {x mo o : Option Nat} {Q : State → Prop} (hl : l.stackTraces = false) (C : h_C p m c code 7 s args RL D dA) (hE : h_EY bs s) (hF : 12 ≤ R.frames) (hLo : 464 ≤ R.locals) (hX : va_X b L xs s s.heap) (hbl : b < s.heap.size) (hbs : bs = s.heap.size) {i : Nat} (hi : i + 5 ≤ L) (hL : L ≤ 2560) {σ : HS} {K : HS → Prop} (h : lc_drop xs x mo o i σ K)
    (kk : ∀ τ, K τ → V p l e R s m args below meth c D dA bs 7 Q τ 1018 [(4, .int (nI i)), (3, va_rf o), (2, va_rf mo), (1, va_rf x), (0, va_rf (some b))] []) : V p l e R s m args below meth c D dA bs 7 Q σ 564 [(4, .int (nI i)), (3, va_rf o), (2, va_rf mo), (1, va_rf x), (0, va_rf (some b))] [] := by
  obtain ⟨q, r, σ1, hq, h1, hk, hn⟩ := h
  refine V_aload_n C 3 dL_law_564 rfl rfl ?_
  refine V_aload_n C 4 dL_law_565 rfl rfl ?_
  refine V_iload C 0 dL_law_566 rfl ?_
  refine V_iconst (v := 1) C dL_law_568 (by decide) ?_
  refine V_iadd C dL_law_569 ?_
  rw [lw_a1]
  refine V_sld C hX hbl hbs (j := i + 1) (by omega) (by omega) dL_law_570 ?_
  refine V_cH (As := [va_rf x, .int (xs (i + 1))]) (rest := []) C mh_107 (m_L_drop l hl D dA bs hq h1 hk) hE rfl rfl (Nat.le_trans h_w0 (by decide)) (Nat.le_trans (by decide) hF) (Nat.le_trans (by decide) hLo) dL_law_571 (fun k σ2 hp => ?_)
  obtain ⟨q2, hq2, σ3, h2, q3, hq3, σ4, h3, hK⟩ := hn k σ2 hp
  refine V_istore (lv' := [(5, .int k), (4, .int (nI i)), (3, va_rf o), (2, va_rf mo), (1, va_rf x), (0, va_rf (some b))]) C dL_law_574 (by decide) rfl ?_
  refine V_aload_n C 3 dL_law_576 rfl rfl ?_
  refine V_aload_n C 5 dL_law_577 rfl rfl ?_
  refine V_iload C 1 dL_law_578 rfl ?_
  refine V_iconst (v := 1) C dL_law_580 (by decide) ?_
  refine V_iadd C dL_law_581 ?_
  rw [lw_a1]
  refine V_sld C hX hbl hbs (j := i + 1) (by omega) (by omega) dL_law_582 ?_
  refine V_cV (As := [.int (xs (i + 1))]) (rest := []) C mv_RL_109 (m_X10_drop l D dA bs h2) hq2 rfl rfl (Nat.le_trans h_w0 (by decide)) (Nat.le_trans (by decide) hF) (Nat.le_trans (by decide) hLo) dL_law_583 ?_
  refine V_aload_n C 3 dL_law_586 rfl rfl ?_
  refine V_cV (As := []) (rest := []) C mv_RL_77 (m_X10_thrown l D dA bs h3) hq3 rfl rfl (Nat.le_trans h_w0 (by decide)) (Nat.le_trans (by decide) hF) (Nat.le_trans (by decide) hLo) dL_law_587 ?_
  refine V_iload C 0 dL_law_590 rfl ?_
  refine V_icmp_eq (tgt := 597) C dL_law_592 (by decide) (fun _ => ?_) (fun g => absurd rfl g)
  refine V_goto (tgt := 1018) C dL_law_597 (by decide) ?_
  exact V_sub [1, 2, 3, 4, 5] rfl (kk σ4 hK)
theorem dL_law_600 : decode cL_law 600 = .ok (.aload_n 1, 1) := by decide +kernel
theorem dL_law_601 : decode cL_law 601 = .ok (.aload_n 0, 1) := by decide +kernel
theorem dL_law_602 : decode cL_law 602 = .ok (.iload 4, 2) := by decide +kernel
theorem dL_law_604 : decode cL_law 604 = .ok (.iconst 1, 1) := by decide +kernel
theorem dL_law_605 : decode cL_law 605 = .ok (.iadd, 1) := by decide +kernel
theorem dL_law_606 : decode cL_law 606 = .ok (.iaload, 1) := by decide +kernel
theorem dL_law_607 : decode cL_law 607 = .ok (.aload_n 0, 1) := by decide +kernel
theorem dL_law_608 : decode cL_law 608 = .ok (.iload 4, 2) := by decide +kernel
theorem dL_law_610 : decode cL_law 610 = .ok (.iconst 2, 1) := by decide +kernel
theorem dL_law_611 : decode cL_law 611 = .ok (.iadd, 1) := by decide +kernel
theorem dL_law_612 : decode cL_law 612 = .ok (.iaload, 1) := by decide +kernel
theorem dL_law_613 : decode cL_law 613 = .ok (.aload_n 0, 1) := by decide +kernel
theorem dL_law_614 : decode cL_law 614 = .ok (.iload 4, 2) := by decide +kernel
theorem dL_law_616 : decode cL_law 616 = .ok (.iconst 3, 1) := by decide +kernel
theorem dL_law_617 : decode cL_law 617 = .ok (.iadd, 1) := by decide +kernel
theorem dL_law_618 : decode cL_law 618 = .ok (.iaload, 1) := by decide +kernel
theorem dL_law_619 : decode cL_law 619 = .ok (.invokestatic 110, 3) := by decide +kernel
theorem dL_law_622 : decode cL_law 622 = .ok (.istore 5, 2) := by decide +kernel
theorem dL_law_624 : decode cL_law 624 = .ok (.aload_n 2, 1) := by decide +kernel
theorem dL_law_625 : decode cL_law 625 = .ok (.aload_n 0, 1) := by decide +kernel
theorem dL_law_626 : decode cL_law 626 = .ok (.iload 4, 2) := by decide +kernel
theorem dL_law_628 : decode cL_law 628 = .ok (.iconst 1, 1) := by decide +kernel
theorem dL_law_629 : decode cL_law 629 = .ok (.iadd, 1) := by decide +kernel
theorem dL_law_630 : decode cL_law 630 = .ok (.iaload, 1) := by decide +kernel
theorem dL_law_631 : decode cL_law 631 = .ok (.aload_n 0, 1) := by decide +kernel
theorem dL_law_632 : decode cL_law 632 = .ok (.iload 4, 2) := by decide +kernel
theorem dL_law_634 : decode cL_law 634 = .ok (.iconst 2, 1) := by decide +kernel
theorem dL_law_635 : decode cL_law 635 = .ok (.iadd, 1) := by decide +kernel
theorem dL_law_636 : decode cL_law 636 = .ok (.iaload, 1) := by decide +kernel
theorem dL_law_637 : decode cL_law 637 = .ok (.aload_n 0, 1) := by decide +kernel
theorem dL_law_638 : decode cL_law 638 = .ok (.iload 4, 2) := by decide +kernel
theorem dL_law_640 : decode cL_law 640 = .ok (.iconst 3, 1) := by decide +kernel
theorem dL_law_641 : decode cL_law 641 = .ok (.iadd, 1) := by decide +kernel
theorem dL_law_642 : decode cL_law 642 = .ok (.iaload, 1) := by decide +kernel
theorem dL_law_643 : decode cL_law 643 = .ok (.invokevirtual 113, 3) := by decide +kernel
theorem dL_law_646 : decode cL_law 646 = .ok (.aload_n 2, 1) := by decide +kernel
theorem dL_law_647 : decode cL_law 647 = .ok (.invokevirtual 77, 3) := by decide +kernel
theorem dL_law_650 : decode cL_law 650 = .ok (.iload 5, 2) := by decide +kernel
theorem dL_law_652 : decode cL_law 652 = .ok (.if_icmp .eq 5, 3) := by decide +kernel
theorem dL_law_655 : decode cL_law 655 = .ok (.iconst 0, 1) := by decide +kernel
theorem dL_law_656 : decode cL_law 656 = .ok (.ireturn, 1) := by decide +kernel
theorem dL_law_657 : decode cL_law 657 = .ok (.goto 361, 3) := by decide +kernel
set_option maxHeartbeats 4000000 in
set_option maxRecDepth 100000 in
theorem lw_forge {p : Program} {l : Launch} {e : Env} {R : Room} {s : State} {m : MethodId} {args : Array Value} {below : List Frame} {meth : Method} {c : Code} {D : va_G} {dA : Nat → ClassId} {bs b L : Nat} {xs : Nat → Int32} {x mo o : Option Nat} {Q : State → Prop} (hl : l.stackTraces = false) (C : h_C p m c code 7 s args RL D dA) (hE : h_EY bs s) (hF : 12 ≤ R.frames) (hLo : 464 ≤ R.locals) (hX : va_X b L xs s s.heap) (hbl : b < s.heap.size) (hbs : bs = s.heap.size) {i : Nat} (hi : i + 5 ≤ L) (hL : L ≤ 2560) {σ : HS} {K : HS → Prop} (h : lc_forge xs x mo o i σ K)
    (kk : ∀ τ, K τ → V p l e R s m args below meth c D dA bs 7 Q τ 1018 [(4, .int (nI i)), (3, va_rf o), (2, va_rf mo), (1, va_rf x), (0, va_rf (some b))] []) : V p l e R s m args below meth c D dA bs 7 Q σ 600 [(4, .int (nI i)), (3, va_rf o), (2, va_rf mo), (1, va_rf x), (0, va_rf (some b))] [] := by
  obtain ⟨q, r, σ1, hq, h1, hk, hn⟩ := h
  refine V_aload_n C 3 dL_law_600 rfl rfl ?_
  refine V_aload_n C 4 dL_law_601 rfl rfl ?_
  refine V_iload C 0 dL_law_602 rfl ?_
  refine V_iconst (v := 1) C dL_law_604 (by decide) ?_
  refine V_iadd C dL_law_605 ?_
  rw [lw_a1]
  refine V_sld C hX hbl hbs (j := i + 1) (by omega) (by omega) dL_law_606 ?_
  refine V_aload_n C 4 dL_law_607 rfl rfl ?_
  refine V_iload C 0 dL_law_608 rfl ?_
  refine V_iconst (v := 2) C dL_law_610 (by decide) ?_
  refine V_iadd C dL_law_611 ?_
  rw [lw_a2]
  refine V_sld C hX hbl hbs (j := i + 2) (by omega) (by omega) dL_law_612 ?_
  refine V_aload_n C 4 dL_law_613 rfl rfl ?_
  refine V_iload C 0 dL_law_614 rfl ?_
  refine V_iconst (v := 3) C dL_law_616 (by decide) ?_
  refine V_iadd C dL_law_617 ?_
  rw [lw_a3]
  refine V_sld C hX hbl hbs (j := i + 3) (by omega) (by omega) dL_law_618 ?_
  refine V_cH (As := [va_rf x, .int (xs (i + 1)), .int (xs (i + 2)), .int (xs (i + 3))]) (rest := []) C mh_110 (m_L_forge l hl D dA bs hq h1 hk) hE rfl rfl (Nat.le_trans h_w0 (by decide)) (Nat.le_trans (by decide) hF) (Nat.le_trans (by decide) hLo) dL_law_619 (fun k σ2 hp => ?_)
  obtain ⟨q2, hq2, σ3, h2, q3, hq3, σ4, h3, hK⟩ := hn k σ2 hp
  refine V_istore (lv' := [(5, .int k), (4, .int (nI i)), (3, va_rf o), (2, va_rf mo), (1, va_rf x), (0, va_rf (some b))]) C dL_law_622 (by decide) rfl ?_
  refine V_aload_n C 3 dL_law_624 rfl rfl ?_
  refine V_aload_n C 5 dL_law_625 rfl rfl ?_
  refine V_iload C 1 dL_law_626 rfl ?_
  refine V_iconst (v := 1) C dL_law_628 (by decide) ?_
  refine V_iadd C dL_law_629 ?_
  rw [lw_a1]
  refine V_sld C hX hbl hbs (j := i + 1) (by omega) (by omega) dL_law_630 ?_
  refine V_aload_n C 5 dL_law_631 rfl rfl ?_
  refine V_iload C 1 dL_law_632 rfl ?_
  refine V_iconst (v := 2) C dL_law_634 (by decide) ?_
  refine V_iadd C dL_law_635 ?_
  rw [lw_a2]
  refine V_sld C hX hbl hbs (j := i + 2) (by omega) (by omega) dL_law_636 ?_
  refine V_aload_n C 5 dL_law_637 rfl rfl ?_
  refine V_iload C 1 dL_law_638 rfl ?_
  refine V_iconst (v := 3) C dL_law_640 (by decide) ?_
  refine V_iadd C dL_law_641 ?_
  rw [lw_a3]
  refine V_sld C hX hbl hbs (j := i + 3) (by omega) (by omega) dL_law_642 ?_
  refine V_cV (As := [.int (xs (i + 1)), .int (xs (i + 2)), .int (xs (i + 3))]) (rest := []) C mv_RL_113 (m_X10_forge l D dA bs h2) hq2 rfl rfl (Nat.le_trans h_w0 (by decide)) (Nat.le_trans (by decide) hF) (Nat.le_trans (by decide) hLo) dL_law_643 ?_
  refine V_aload_n C 3 dL_law_646 rfl rfl ?_
  refine V_cV (As := []) (rest := []) C mv_RL_77 (m_X10_thrown l D dA bs h3) hq3 rfl rfl (Nat.le_trans h_w0 (by decide)) (Nat.le_trans (by decide) hF) (Nat.le_trans (by decide) hLo) dL_law_647 ?_
  refine V_iload C 0 dL_law_650 rfl ?_
  refine V_icmp_eq (tgt := 657) C dL_law_652 (by decide) (fun _ => ?_) (fun g => absurd rfl g)
  refine V_goto (tgt := 1018) C dL_law_657 (by decide) ?_
  exact V_sub [1, 2, 3, 4, 5] rfl (kk σ4 hK)
theorem dL_law_660 : decode cL_law 660 = .ok (.aload_n 1, 1) := by decide +kernel
theorem dL_law_661 : decode cL_law 661 = .ok (.aload_n 0, 1) := by decide +kernel
theorem dL_law_662 : decode cL_law 662 = .ok (.iload 4, 2) := by decide +kernel
theorem dL_law_664 : decode cL_law 664 = .ok (.iconst 1, 1) := by decide +kernel
theorem dL_law_665 : decode cL_law 665 = .ok (.iadd, 1) := by decide +kernel
theorem dL_law_666 : decode cL_law 666 = .ok (.iaload, 1) := by decide +kernel
theorem dL_law_667 : decode cL_law 667 = .ok (.aload_n 0, 1) := by decide +kernel
theorem dL_law_668 : decode cL_law 668 = .ok (.iload 4, 2) := by decide +kernel
theorem dL_law_670 : decode cL_law 670 = .ok (.iconst 2, 1) := by decide +kernel
theorem dL_law_671 : decode cL_law 671 = .ok (.iadd, 1) := by decide +kernel
theorem dL_law_672 : decode cL_law 672 = .ok (.iaload, 1) := by decide +kernel
theorem dL_law_673 : decode cL_law 673 = .ok (.aload_n 3, 1) := by decide +kernel
theorem dL_law_674 : decode cL_law 674 = .ok (.invokestatic 114, 3) := by decide +kernel
theorem dL_law_677 : decode cL_law 677 = .ok (.istore 5, 2) := by decide +kernel
theorem dL_law_679 : decode cL_law 679 = .ok (.aload_n 2, 1) := by decide +kernel
theorem dL_law_680 : decode cL_law 680 = .ok (.aload_n 0, 1) := by decide +kernel
theorem dL_law_681 : decode cL_law 681 = .ok (.iload 4, 2) := by decide +kernel
theorem dL_law_683 : decode cL_law 683 = .ok (.iconst 1, 1) := by decide +kernel
theorem dL_law_684 : decode cL_law 684 = .ok (.iadd, 1) := by decide +kernel
theorem dL_law_685 : decode cL_law 685 = .ok (.iaload, 1) := by decide +kernel
theorem dL_law_686 : decode cL_law 686 = .ok (.aload_n 0, 1) := by decide +kernel
theorem dL_law_687 : decode cL_law 687 = .ok (.iload 4, 2) := by decide +kernel
theorem dL_law_689 : decode cL_law 689 = .ok (.iconst 2, 1) := by decide +kernel
theorem dL_law_690 : decode cL_law 690 = .ok (.iadd, 1) := by decide +kernel
theorem dL_law_691 : decode cL_law 691 = .ok (.iaload, 1) := by decide +kernel
theorem dL_law_692 : decode cL_law 692 = .ok (.invokevirtual 116, 3) := by decide +kernel
theorem dL_law_695 : decode cL_law 695 = .ok (.istore 6, 2) := by decide +kernel
theorem dL_law_697 : decode cL_law 697 = .ok (.aload_n 2, 1) := by decide +kernel
theorem dL_law_698 : decode cL_law 698 = .ok (.invokevirtual 77, 3) := by decide +kernel
theorem dL_law_701 : decode cL_law 701 = .ok (.iload 5, 2) := by decide +kernel
theorem dL_law_703 : decode cL_law 703 = .ok (.if_icmp .eq 5, 3) := by decide +kernel
theorem dL_law_706 : decode cL_law 706 = .ok (.iconst 0, 1) := by decide +kernel
theorem dL_law_707 : decode cL_law 707 = .ok (.ireturn, 1) := by decide +kernel
theorem dL_law_708 : decode cL_law 708 = .ok (.iload 5, 2) := by decide +kernel
theorem dL_law_710 : decode cL_law 710 = .ok (.ifCond .ne 15, 3) := by decide +kernel
theorem dL_law_713 : decode cL_law 713 = .ok (.aload_n 3, 1) := by decide +kernel
theorem dL_law_714 : decode cL_law 714 = .ok (.iconst 0, 1) := by decide +kernel
theorem dL_law_715 : decode cL_law 715 = .ok (.laload, 1) := by decide +kernel
theorem dL_law_716 : decode cL_law 716 = .ok (.iload 6, 2) := by decide +kernel
theorem dL_law_718 : decode cL_law 718 = .ok (.i2l, 1) := by decide +kernel
theorem dL_law_719 : decode cL_law 719 = .ok (.lcmp, 1) := by decide +kernel
theorem dL_law_720 : decode cL_law 720 = .ok (.ifCond .eq 5, 3) := by decide +kernel
theorem dL_law_723 : decode cL_law 723 = .ok (.iconst 0, 1) := by decide +kernel
theorem dL_law_724 : decode cL_law 724 = .ok (.ireturn, 1) := by decide +kernel
theorem dL_law_725 : decode cL_law 725 = .ok (.goto 293, 3) := by decide +kernel
set_option maxHeartbeats 4000000 in
set_option maxRecDepth 100000 in
theorem lw_message {p : Program} {l : Launch} {e : Env} {R : Room} {s : State} {m : MethodId} {args : Array Value} {below : List Frame} {meth : Method} {c : Code} {D : va_G} {dA : Nat → ClassId} {bs b L : Nat} {xs : Nat → Int32} {x mo o : Option Nat} {Q : State → Prop} (hl : l.stackTraces = false) (C : h_C p m c code 7 s args RL D dA) (hE : h_EY bs s) (hF : 12 ≤ R.frames) (hLo : 464 ≤ R.locals) (hX : va_X b L xs s s.heap) (hbl : b < s.heap.size) (hbs : bs = s.heap.size) {i : Nat} (hi : i + 5 ≤ L) (hL : L ≤ 2560) {σ : HS} {K : HS → Prop} (h : lc_message xs x mo o i σ K)
    (kk : ∀ τ, K τ → V p l e R s m args below meth c D dA bs 7 Q τ 1018 [(4, .int (nI i)), (3, va_rf o), (2, va_rf mo), (1, va_rf x), (0, va_rf (some b))] []) : V p l e R s m args below meth c D dA bs 7 Q σ 660 [(4, .int (nI i)), (3, va_rf o), (2, va_rf mo), (1, va_rf x), (0, va_rf (some b))] [] := by
  obtain ⟨q, r, σ1, hq, h1, hk, hw, hn⟩ := h
  refine V_aload_n C 3 dL_law_660 rfl rfl ?_
  refine V_aload_n C 4 dL_law_661 rfl rfl ?_
  refine V_iload C 0 dL_law_662 rfl ?_
  refine V_iconst (v := 1) C dL_law_664 (by decide) ?_
  refine V_iadd C dL_law_665 ?_
  rw [lw_a1]
  refine V_sld C hX hbl hbs (j := i + 1) (by omega) (by omega) dL_law_666 ?_
  refine V_aload_n C 4 dL_law_667 rfl rfl ?_
  refine V_iload C 0 dL_law_668 rfl ?_
  refine V_iconst (v := 2) C dL_law_670 (by decide) ?_
  refine V_iadd C dL_law_671 ?_
  rw [lw_a2]
  refine V_sld C hX hbl hbs (j := i + 2) (by omega) (by omega) dL_law_672 ?_
  refine V_aload_n C 1 dL_law_673 rfl rfl ?_
  refine V_cH (As := [va_rf x, .int (xs (i + 1)), .int (xs (i + 2)), va_rf o]) (rest := []) C mh_114 (m_L_message l hl D dA bs hq h1 hk hw) hE rfl rfl (Nat.le_trans h_w0 (by decide)) (Nat.le_trans (by decide) hF) (Nat.le_trans (by decide) hLo) dL_law_674 (fun k σ2 hp => ?_)
  obtain ⟨q2, hq2, v, σ3, h2, q3, hq3, σ4, h3, h4, hK⟩ := hn k σ2 hp
  refine V_istore (lv' := [(5, .int k), (4, .int (nI i)), (3, va_rf o), (2, va_rf mo), (1, va_rf x), (0, va_rf (some b))]) C dL_law_677 (by decide) rfl ?_
  refine V_aload_n C 3 dL_law_679 rfl rfl ?_
  refine V_aload_n C 5 dL_law_680 rfl rfl ?_
  refine V_iload C 1 dL_law_681 rfl ?_
  refine V_iconst (v := 1) C dL_law_683 (by decide) ?_
  refine V_iadd C dL_law_684 ?_
  rw [lw_a1]
  refine V_sld C hX hbl hbs (j := i + 1) (by omega) (by omega) dL_law_685 ?_
  refine V_aload_n C 5 dL_law_686 rfl rfl ?_
  refine V_iload C 1 dL_law_687 rfl ?_
  refine V_iconst (v := 2) C dL_law_689 (by decide) ?_
  refine V_iadd C dL_law_690 ?_
  rw [lw_a2]
  refine V_sld C hX hbl hbs (j := i + 2) (by omega) (by omega) dL_law_691 ?_
  refine V_cV (As := [.int (xs (i + 1)), .int (xs (i + 2))]) (rest := []) C mv_RL_116 (m_X10_message l D dA bs h2) hq2 rfl rfl (Nat.le_trans h_w0 (by decide)) (Nat.le_trans (by decide) hF) (Nat.le_trans (by decide) hLo) dL_law_692 ?_
  refine V_istore (lv' := [(6, .int v), (5, .int k), (4, .int (nI i)), (3, va_rf o), (2, va_rf mo), (1, va_rf x), (0, va_rf (some b))]) C dL_law_695 (by decide) rfl ?_
  refine V_aload_n C 4 dL_law_697 rfl rfl ?_
  refine V_cV (As := []) (rest := []) C mv_RL_77 (m_X10_thrown l D dA bs h3) hq3 rfl rfl (Nat.le_trans h_w0 (by decide)) (Nat.le_trans (by decide) hF) (Nat.le_trans (by decide) hLo) dL_law_698 ?_
  refine V_iload C 1 dL_law_701 rfl ?_
  refine V_icmp_eq (tgt := 708) C dL_law_703 (by decide) (fun _ => ?_) (fun g => absurd rfl g)
  refine V_iload C 1 dL_law_708 rfl ?_
  refine V_if_ne (tgt := 725) C dL_law_710 (by decide) (fun g => ?_) (fun g => ?_)
  · refine V_goto (tgt := 1018) C dL_law_725 (by decide) ?_
    exact V_sub [2, 3, 4, 5, 6] rfl (kk σ4 hK)
  refine V_aload_n C 3 dL_law_713 rfl rfl ?_
  refine V_iconst (v := 0) C dL_law_714 (by decide) ?_
  refine V_lald C dL_law_715 (h4 g) ?_
  refine V_iload C 0 dL_law_716 rfl ?_
  refine V_i2l C dL_law_718 ?_
  refine V_lcmp C dL_law_719 ?_
  refine V_if_eq (tgt := 725) C dL_law_720 (by decide) (fun _ => ?_) (fun g => absurd (lg_cmp_self _) g)
  refine V_goto (tgt := 1018) C dL_law_725 (by decide) ?_
  exact V_sub [2, 3, 4, 5, 6] rfl (kk σ4 hK)
theorem dL_law_728 : decode cL_law 728 = .ok (.aload_n 1, 1) := by decide +kernel
theorem dL_law_729 : decode cL_law 729 = .ok (.aload_n 0, 1) := by decide +kernel
theorem dL_law_730 : decode cL_law 730 = .ok (.iload 4, 2) := by decide +kernel
theorem dL_law_732 : decode cL_law 732 = .ok (.iconst 1, 1) := by decide +kernel
theorem dL_law_733 : decode cL_law 733 = .ok (.iadd, 1) := by decide +kernel
theorem dL_law_734 : decode cL_law 734 = .ok (.iaload, 1) := by decide +kernel
theorem dL_law_735 : decode cL_law 735 = .ok (.aload_n 3, 1) := by decide +kernel
theorem dL_law_736 : decode cL_law 736 = .ok (.invokestatic 117, 3) := by decide +kernel
theorem dL_law_739 : decode cL_law 739 = .ok (.istore 5, 2) := by decide +kernel
theorem dL_law_741 : decode cL_law 741 = .ok (.aload_n 2, 1) := by decide +kernel
theorem dL_law_742 : decode cL_law 742 = .ok (.aload_n 0, 1) := by decide +kernel
theorem dL_law_743 : decode cL_law 743 = .ok (.iload 4, 2) := by decide +kernel
theorem dL_law_745 : decode cL_law 745 = .ok (.iconst 1, 1) := by decide +kernel
theorem dL_law_746 : decode cL_law 746 = .ok (.iadd, 1) := by decide +kernel
theorem dL_law_747 : decode cL_law 747 = .ok (.iaload, 1) := by decide +kernel
theorem dL_law_748 : decode cL_law 748 = .ok (.invokevirtual 119, 3) := by decide +kernel
theorem dL_law_751 : decode cL_law 751 = .ok (.istore 6, 2) := by decide +kernel
theorem dL_law_753 : decode cL_law 753 = .ok (.aload_n 2, 1) := by decide +kernel
theorem dL_law_754 : decode cL_law 754 = .ok (.invokevirtual 77, 3) := by decide +kernel
theorem dL_law_757 : decode cL_law 757 = .ok (.iload 5, 2) := by decide +kernel
theorem dL_law_759 : decode cL_law 759 = .ok (.if_icmp .eq 5, 3) := by decide +kernel
theorem dL_law_762 : decode cL_law 762 = .ok (.iconst 0, 1) := by decide +kernel
theorem dL_law_763 : decode cL_law 763 = .ok (.ireturn, 1) := by decide +kernel
theorem dL_law_764 : decode cL_law 764 = .ok (.iload 5, 2) := by decide +kernel
theorem dL_law_766 : decode cL_law 766 = .ok (.ifCond .ne 15, 3) := by decide +kernel
theorem dL_law_769 : decode cL_law 769 = .ok (.aload_n 3, 1) := by decide +kernel
theorem dL_law_770 : decode cL_law 770 = .ok (.iconst 0, 1) := by decide +kernel
theorem dL_law_771 : decode cL_law 771 = .ok (.laload, 1) := by decide +kernel
theorem dL_law_772 : decode cL_law 772 = .ok (.iload 6, 2) := by decide +kernel
theorem dL_law_774 : decode cL_law 774 = .ok (.i2l, 1) := by decide +kernel
theorem dL_law_775 : decode cL_law 775 = .ok (.lcmp, 1) := by decide +kernel
theorem dL_law_776 : decode cL_law 776 = .ok (.ifCond .eq 5, 3) := by decide +kernel
theorem dL_law_779 : decode cL_law 779 = .ok (.iconst 0, 1) := by decide +kernel
theorem dL_law_780 : decode cL_law 780 = .ok (.ireturn, 1) := by decide +kernel
theorem dL_law_781 : decode cL_law 781 = .ok (.goto 237, 3) := by decide +kernel
set_option maxHeartbeats 4000000 in
set_option maxRecDepth 100000 in
theorem lw_run {p : Program} {l : Launch} {e : Env} {R : Room} {s : State} {m : MethodId} {args : Array Value} {below : List Frame} {meth : Method} {c : Code} {D : va_G} {dA : Nat → ClassId} {bs b L : Nat} {xs : Nat → Int32} {x mo o : Option Nat} {Q : State → Prop} (hl : l.stackTraces = false) (C : h_C p m c code 7 s args RL D dA) (hE : h_EY bs s) (hF : 12 ≤ R.frames) (hLo : 464 ≤ R.locals) (hX : va_X b L xs s s.heap) (hbl : b < s.heap.size) (hbs : bs = s.heap.size) {i : Nat} (hi : i + 5 ≤ L) (hL : L ≤ 2560) {σ : HS} {K : HS → Prop} (h : lc_run xs x mo o i σ K)
    (kk : ∀ τ, K τ → V p l e R s m args below meth c D dA bs 7 Q τ 1018 [(4, .int (nI i)), (3, va_rf o), (2, va_rf mo), (1, va_rf x), (0, va_rf (some b))] []) : V p l e R s m args below meth c D dA bs 7 Q σ 728 [(4, .int (nI i)), (3, va_rf o), (2, va_rf mo), (1, va_rf x), (0, va_rf (some b))] [] := by
  obtain ⟨q, r, σ1, hq, h1, hk, hw, hn⟩ := h
  refine V_aload_n C 3 dL_law_728 rfl rfl ?_
  refine V_aload_n C 4 dL_law_729 rfl rfl ?_
  refine V_iload C 0 dL_law_730 rfl ?_
  refine V_iconst (v := 1) C dL_law_732 (by decide) ?_
  refine V_iadd C dL_law_733 ?_
  rw [lw_a1]
  refine V_sld C hX hbl hbs (j := i + 1) (by omega) (by omega) dL_law_734 ?_
  refine V_aload_n C 1 dL_law_735 rfl rfl ?_
  refine V_cH (As := [va_rf x, .int (xs (i + 1)), va_rf o]) (rest := []) C mh_117 (m_L_run l hl D dA bs hq h1 hk hw) hE rfl rfl (Nat.le_trans h_w0 (by decide)) (Nat.le_trans (by decide) hF) (Nat.le_trans (by decide) hLo) dL_law_736 (fun k σ2 hp => ?_)
  obtain ⟨q2, hq2, v, σ3, h2, q3, hq3, σ4, h3, h4, hK⟩ := hn k σ2 hp
  refine V_istore (lv' := [(5, .int k), (4, .int (nI i)), (3, va_rf o), (2, va_rf mo), (1, va_rf x), (0, va_rf (some b))]) C dL_law_739 (by decide) rfl ?_
  refine V_aload_n C 3 dL_law_741 rfl rfl ?_
  refine V_aload_n C 5 dL_law_742 rfl rfl ?_
  refine V_iload C 1 dL_law_743 rfl ?_
  refine V_iconst (v := 1) C dL_law_745 (by decide) ?_
  refine V_iadd C dL_law_746 ?_
  rw [lw_a1]
  refine V_sld C hX hbl hbs (j := i + 1) (by omega) (by omega) dL_law_747 ?_
  refine V_cV (As := [.int (xs (i + 1))]) (rest := []) C mv_RL_119 (m_X10_run l D dA bs h2) hq2 rfl rfl (Nat.le_trans h_w0 (by decide)) (Nat.le_trans (by decide) hF) (Nat.le_trans (by decide) hLo) dL_law_748 ?_
  refine V_istore (lv' := [(6, .int v), (5, .int k), (4, .int (nI i)), (3, va_rf o), (2, va_rf mo), (1, va_rf x), (0, va_rf (some b))]) C dL_law_751 (by decide) rfl ?_
  refine V_aload_n C 4 dL_law_753 rfl rfl ?_
  refine V_cV (As := []) (rest := []) C mv_RL_77 (m_X10_thrown l D dA bs h3) hq3 rfl rfl (Nat.le_trans h_w0 (by decide)) (Nat.le_trans (by decide) hF) (Nat.le_trans (by decide) hLo) dL_law_754 ?_
  refine V_iload C 1 dL_law_757 rfl ?_
  refine V_icmp_eq (tgt := 764) C dL_law_759 (by decide) (fun _ => ?_) (fun g => absurd rfl g)
  refine V_iload C 1 dL_law_764 rfl ?_
  refine V_if_ne (tgt := 781) C dL_law_766 (by decide) (fun g => ?_) (fun g => ?_)
  · refine V_goto (tgt := 1018) C dL_law_781 (by decide) ?_
    exact V_sub [2, 3, 4, 5, 6] rfl (kk σ4 hK)
  refine V_aload_n C 3 dL_law_769 rfl rfl ?_
  refine V_iconst (v := 0) C dL_law_770 (by decide) ?_
  refine V_lald C dL_law_771 (h4 g) ?_
  refine V_iload C 0 dL_law_772 rfl ?_
  refine V_i2l C dL_law_774 ?_
  refine V_lcmp C dL_law_775 ?_
  refine V_if_eq (tgt := 781) C dL_law_776 (by decide) (fun _ => ?_) (fun g => absurd (lg_cmp_self _) g)
  refine V_goto (tgt := 1018) C dL_law_781 (by decide) ?_
  exact V_sub [2, 3, 4, 5, 6] rfl (kk σ4 hK)
