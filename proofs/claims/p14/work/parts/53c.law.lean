/-! THE LAW, CALL BY CALL -/
theorem dL_law_567 : decode cL_law 567 = .ok (.aload_n 1, 1) := by decide +kernel
theorem dL_law_568 : decode cL_law 568 = .ok (.aload_n 0, 1) := by decide +kernel
theorem dL_law_569 : decode cL_law 569 = .ok (.iload 4, 2) := by decide +kernel
theorem dL_law_571 : decode cL_law 571 = .ok (.iconst 1, 1) := by decide +kernel
theorem dL_law_572 : decode cL_law 572 = .ok (.iadd, 1) := by decide +kernel
theorem dL_law_573 : decode cL_law 573 = .ok (.iaload, 1) := by decide +kernel
theorem dL_law_574 : decode cL_law 574 = .ok (.invokestatic 116, 3) := by decide +kernel
theorem dL_law_577 : decode cL_law 577 = .ok (.istore 5, 2) := by decide +kernel
theorem dL_law_579 : decode cL_law 579 = .ok (.aload_n 2, 1) := by decide +kernel
theorem dL_law_580 : decode cL_law 580 = .ok (.aload_n 0, 1) := by decide +kernel
theorem dL_law_581 : decode cL_law 581 = .ok (.iload 4, 2) := by decide +kernel
theorem dL_law_583 : decode cL_law 583 = .ok (.iconst 1, 1) := by decide +kernel
theorem dL_law_584 : decode cL_law 584 = .ok (.iadd, 1) := by decide +kernel
theorem dL_law_585 : decode cL_law 585 = .ok (.iaload, 1) := by decide +kernel
theorem dL_law_586 : decode cL_law 586 = .ok (.invokevirtual 118, 3) := by decide +kernel
theorem dL_law_589 : decode cL_law 589 = .ok (.aload_n 2, 1) := by decide +kernel
theorem dL_law_590 : decode cL_law 590 = .ok (.invokevirtual 119, 3) := by decide +kernel
theorem dL_law_593 : decode cL_law 593 = .ok (.iload 5, 2) := by decide +kernel
theorem dL_law_595 : decode cL_law 595 = .ok (.if_icmp .eq 5, 3) := by decide +kernel
theorem dL_law_598 : decode cL_law 598 = .ok (.iconst 0, 1) := by decide +kernel
theorem dL_law_599 : decode cL_law 599 = .ok (.ireturn, 1) := by decide +kernel
theorem dL_law_600 : decode cL_law 600 = .ok (.goto 145, 3) := by decide +kernel
set_option maxHeartbeats 4000000 in
set_option maxRecDepth 100000 in
theorem lw_pass {p : Program} {l : Launch} {e : Env} {R : Room} {s : State} {m : MethodId} {args : Array Value} {below : List Frame} {meth : Method} {c : Code} {D : va_G} {dA : Nat → ClassId} {bs b L : Nat} {xs : Nat → Int32} {x mo o : Option Nat} {Q : State → Prop} (hl : l.stackTraces = false) (C : h_C p m c code 7 s args RL D dA) (hE : h_EY bs s) (hF : 11 ≤ R.frames) (hLo : 426 ≤ R.locals) (hX : va_X b L xs s s.heap) (hbl : b < s.heap.size) (hbs : bs = s.heap.size) {i : Nat} (hi : i + 5 ≤ L) (hL : L ≤ 2560) {σ : HS} {K : HS → Prop} (h : lc_pass xs x mo o i σ K)
    (kk : ∀ τ, K τ → V p l e R s m args below meth c D dA bs 7 Q τ 745 [(4, .int (nI i)), (3, va_rf o), (2, va_rf mo), (1, va_rf x), (0, va_rf (some b))] []) : V p l e R s m args below meth c D dA bs 7 Q σ 567 [(4, .int (nI i)), (3, va_rf o), (2, va_rf mo), (1, va_rf x), (0, va_rf (some b))] [] := by
  obtain ⟨q, r, σ1, hq, h1, hk, hn⟩ := h
  refine V_aload_n C 3 dL_law_567 rfl rfl ?_
  refine V_aload_n C 4 dL_law_568 rfl rfl ?_
  refine V_iload C 0 dL_law_569 rfl ?_
  refine V_iconst (v := 1) C dL_law_571 (by decide) ?_
  refine V_iadd C dL_law_572 ?_
  rw [lw_a1]
  refine V_sld C hX hbl hbs (j := i + 1) (by omega) (by omega) dL_law_573 ?_
  refine V_cH (As := [va_rf x, .int (xs (i + 1))]) (rest := []) C mh_116 (m_L_pass l hl D dA bs hq h1 hk) hE rfl rfl (Nat.le_trans h_w0 (by decide)) (Nat.le_trans (by decide) hF) (Nat.le_trans (by decide) hLo) dL_law_574 (fun k σ2 hp => ?_)
  obtain ⟨q2, hq2, σ3, h2, q3, hq3, σ4, h3, hK⟩ := hn k σ2 hp
  refine V_istore (lv' := [(5, .int k), (4, .int (nI i)), (3, va_rf o), (2, va_rf mo), (1, va_rf x), (0, va_rf (some b))]) C dL_law_577 (by decide) rfl ?_
  refine V_aload_n C 3 dL_law_579 rfl rfl ?_
  refine V_aload_n C 5 dL_law_580 rfl rfl ?_
  refine V_iload C 1 dL_law_581 rfl ?_
  refine V_iconst (v := 1) C dL_law_583 (by decide) ?_
  refine V_iadd C dL_law_584 ?_
  rw [lw_a1]
  refine V_sld C hX hbl hbs (j := i + 1) (by omega) (by omega) dL_law_585 ?_
  refine V_cV (As := [.int (xs (i + 1))]) (rest := []) C mv_RL_118 (m_X10_pass l D dA bs h2) hq2 rfl rfl (Nat.le_trans h_w0 (by decide)) (Nat.le_trans (by decide) hF) (Nat.le_trans (by decide) hLo) dL_law_586 ?_
  refine V_aload_n C 3 dL_law_589 rfl rfl ?_
  refine V_cV (As := []) (rest := []) C mv_RL_119 (m_X10_thrown l D dA bs h3) hq3 rfl rfl (Nat.le_trans h_w0 (by decide)) (Nat.le_trans (by decide) hF) (Nat.le_trans (by decide) hLo) dL_law_590 ?_
  refine V_iload C 0 dL_law_593 rfl ?_
  refine V_icmp_eq (tgt := 600) C dL_law_595 (by decide) (fun _ => ?_) (fun g => absurd rfl g)
  refine V_goto (tgt := 745) C dL_law_600 (by decide) ?_
  exact V_sub [1, 2, 3, 4, 5] rfl (kk σ4 hK)
theorem dL_law_603 : decode cL_law 603 = .ok (.aload_n 1, 1) := by decide +kernel
theorem dL_law_604 : decode cL_law 604 = .ok (.aload_n 0, 1) := by decide +kernel
theorem dL_law_605 : decode cL_law 605 = .ok (.iload 4, 2) := by decide +kernel
theorem dL_law_607 : decode cL_law 607 = .ok (.iconst 1, 1) := by decide +kernel
theorem dL_law_608 : decode cL_law 608 = .ok (.iadd, 1) := by decide +kernel
theorem dL_law_609 : decode cL_law 609 = .ok (.iaload, 1) := by decide +kernel
theorem dL_law_610 : decode cL_law 610 = .ok (.aload_n 0, 1) := by decide +kernel
theorem dL_law_611 : decode cL_law 611 = .ok (.iload 4, 2) := by decide +kernel
theorem dL_law_613 : decode cL_law 613 = .ok (.iconst 2, 1) := by decide +kernel
theorem dL_law_614 : decode cL_law 614 = .ok (.iadd, 1) := by decide +kernel
theorem dL_law_615 : decode cL_law 615 = .ok (.iaload, 1) := by decide +kernel
theorem dL_law_616 : decode cL_law 616 = .ok (.aload_n 3, 1) := by decide +kernel
theorem dL_law_617 : decode cL_law 617 = .ok (.invokestatic 123, 3) := by decide +kernel
theorem dL_law_620 : decode cL_law 620 = .ok (.istore 5, 2) := by decide +kernel
theorem dL_law_622 : decode cL_law 622 = .ok (.aload_n 2, 1) := by decide +kernel
theorem dL_law_623 : decode cL_law 623 = .ok (.aload_n 0, 1) := by decide +kernel
theorem dL_law_624 : decode cL_law 624 = .ok (.iload 4, 2) := by decide +kernel
theorem dL_law_626 : decode cL_law 626 = .ok (.iconst 1, 1) := by decide +kernel
theorem dL_law_627 : decode cL_law 627 = .ok (.iadd, 1) := by decide +kernel
theorem dL_law_628 : decode cL_law 628 = .ok (.iaload, 1) := by decide +kernel
theorem dL_law_629 : decode cL_law 629 = .ok (.aload_n 0, 1) := by decide +kernel
theorem dL_law_630 : decode cL_law 630 = .ok (.iload 4, 2) := by decide +kernel
theorem dL_law_632 : decode cL_law 632 = .ok (.iconst 2, 1) := by decide +kernel
theorem dL_law_633 : decode cL_law 633 = .ok (.iadd, 1) := by decide +kernel
theorem dL_law_634 : decode cL_law 634 = .ok (.iaload, 1) := by decide +kernel
theorem dL_law_635 : decode cL_law 635 = .ok (.invokevirtual 125, 3) := by decide +kernel
theorem dL_law_638 : decode cL_law 638 = .ok (.istore 6, 2) := by decide +kernel
theorem dL_law_640 : decode cL_law 640 = .ok (.goto 105, 3) := by decide +kernel
set_option maxHeartbeats 4000000 in
set_option maxRecDepth 100000 in
theorem lw_packet {p : Program} {l : Launch} {e : Env} {R : Room} {s : State} {m : MethodId} {args : Array Value} {below : List Frame} {meth : Method} {c : Code} {D : va_G} {dA : Nat → ClassId} {bs b L : Nat} {xs : Nat → Int32} {x mo o : Option Nat} {Q : State → Prop} (hl : l.stackTraces = false) (C : h_C p m c code 7 s args RL D dA) (hE : h_EY bs s) (hF : 11 ≤ R.frames) (hLo : 426 ≤ R.locals) (hX : va_X b L xs s s.heap) (hbl : b < s.heap.size) (hbs : bs = s.heap.size) {i : Nat} (hi : i + 5 ≤ L) (hL : L ≤ 2560) {σ : HS} {K : HS → Prop} (h : lc_packet xs x mo o i σ K)
    (kk : ∀ τ, K τ → V p l e R s m args below meth c D dA bs 7 Q τ 745 [(4, .int (nI i)), (3, va_rf o), (2, va_rf mo), (1, va_rf x), (0, va_rf (some b))] []) : V p l e R s m args below meth c D dA bs 7 Q σ 603 [(4, .int (nI i)), (3, va_rf o), (2, va_rf mo), (1, va_rf x), (0, va_rf (some b))] [] := by
  obtain ⟨q, r, σ1, hq, h1, hk, hw, hn⟩ := h
  refine V_aload_n C 3 dL_law_603 rfl rfl ?_
  refine V_aload_n C 4 dL_law_604 rfl rfl ?_
  refine V_iload C 0 dL_law_605 rfl ?_
  refine V_iconst (v := 1) C dL_law_607 (by decide) ?_
  refine V_iadd C dL_law_608 ?_
  rw [lw_a1]
  refine V_sld C hX hbl hbs (j := i + 1) (by omega) (by omega) dL_law_609 ?_
  refine V_aload_n C 4 dL_law_610 rfl rfl ?_
  refine V_iload C 0 dL_law_611 rfl ?_
  refine V_iconst (v := 2) C dL_law_613 (by decide) ?_
  refine V_iadd C dL_law_614 ?_
  rw [lw_a2]
  refine V_sld C hX hbl hbs (j := i + 2) (by omega) (by omega) dL_law_615 ?_
  refine V_aload_n C 1 dL_law_616 rfl rfl ?_
  refine V_cH (As := [va_rf x, .int (xs (i + 1)), .int (xs (i + 2)), va_rf o]) (rest := []) C mh_123 (m_L_packet l hl D dA bs hq h1 hk hw) hE rfl rfl (Nat.le_trans h_w0 (by decide)) (Nat.le_trans (by decide) hF) (Nat.le_trans (by decide) hLo) dL_law_617 (fun k σ2 hp => ?_)
  obtain ⟨q2, hq2, v, σ3, h2, hK⟩ := hn k σ2 hp
  refine V_istore (lv' := [(5, .int k), (4, .int (nI i)), (3, va_rf o), (2, va_rf mo), (1, va_rf x), (0, va_rf (some b))]) C dL_law_620 (by decide) rfl ?_
  refine V_aload_n C 3 dL_law_622 rfl rfl ?_
  refine V_aload_n C 5 dL_law_623 rfl rfl ?_
  refine V_iload C 1 dL_law_624 rfl ?_
  refine V_iconst (v := 1) C dL_law_626 (by decide) ?_
  refine V_iadd C dL_law_627 ?_
  rw [lw_a1]
  refine V_sld C hX hbl hbs (j := i + 1) (by omega) (by omega) dL_law_628 ?_
  refine V_aload_n C 5 dL_law_629 rfl rfl ?_
  refine V_iload C 1 dL_law_630 rfl ?_
  refine V_iconst (v := 2) C dL_law_632 (by decide) ?_
  refine V_iadd C dL_law_633 ?_
  rw [lw_a2]
  refine V_sld C hX hbl hbs (j := i + 2) (by omega) (by omega) dL_law_634 ?_
  refine V_cV (As := [.int (xs (i + 1)), .int (xs (i + 2))]) (rest := []) C mv_RL_125 (m_X10_packet l D dA bs h2) hq2 rfl rfl (Nat.le_trans h_w0 (by decide)) (Nat.le_trans (by decide) hF) (Nat.le_trans (by decide) hLo) dL_law_635 ?_
  refine V_istore (lv' := [(6, .int v), (5, .int k), (4, .int (nI i)), (3, va_rf o), (2, va_rf mo), (1, va_rf x), (0, va_rf (some b))]) C dL_law_638 (by decide) rfl ?_
  refine V_goto (tgt := 745) C dL_law_640 (by decide) ?_
  exact V_sub [2, 3, 4, 5, 6] rfl (kk σ3 hK)
theorem dL_law_643 : decode cL_law 643 = .ok (.aload_n 1, 1) := by decide +kernel
theorem dL_law_644 : decode cL_law 644 = .ok (.aload_n 0, 1) := by decide +kernel
theorem dL_law_645 : decode cL_law 645 = .ok (.iload 4, 2) := by decide +kernel
theorem dL_law_647 : decode cL_law 647 = .ok (.iconst 1, 1) := by decide +kernel
theorem dL_law_648 : decode cL_law 648 = .ok (.iadd, 1) := by decide +kernel
theorem dL_law_649 : decode cL_law 649 = .ok (.iaload, 1) := by decide +kernel
theorem dL_law_650 : decode cL_law 650 = .ok (.aload_n 0, 1) := by decide +kernel
theorem dL_law_651 : decode cL_law 651 = .ok (.iload 4, 2) := by decide +kernel
theorem dL_law_653 : decode cL_law 653 = .ok (.iconst 2, 1) := by decide +kernel
theorem dL_law_654 : decode cL_law 654 = .ok (.iadd, 1) := by decide +kernel
theorem dL_law_655 : decode cL_law 655 = .ok (.iaload, 1) := by decide +kernel
theorem dL_law_656 : decode cL_law 656 = .ok (.aload_n 0, 1) := by decide +kernel
theorem dL_law_657 : decode cL_law 657 = .ok (.iload 4, 2) := by decide +kernel
theorem dL_law_659 : decode cL_law 659 = .ok (.iconst 3, 1) := by decide +kernel
theorem dL_law_660 : decode cL_law 660 = .ok (.iadd, 1) := by decide +kernel
theorem dL_law_661 : decode cL_law 661 = .ok (.iaload, 1) := by decide +kernel
theorem dL_law_662 : decode cL_law 662 = .ok (.aload_n 3, 1) := by decide +kernel
theorem dL_law_663 : decode cL_law 663 = .ok (.invokestatic 126, 3) := by decide +kernel
theorem dL_law_666 : decode cL_law 666 = .ok (.istore 5, 2) := by decide +kernel
theorem dL_law_668 : decode cL_law 668 = .ok (.aload_n 2, 1) := by decide +kernel
theorem dL_law_669 : decode cL_law 669 = .ok (.aload_n 0, 1) := by decide +kernel
theorem dL_law_670 : decode cL_law 670 = .ok (.iload 4, 2) := by decide +kernel
theorem dL_law_672 : decode cL_law 672 = .ok (.iconst 1, 1) := by decide +kernel
theorem dL_law_673 : decode cL_law 673 = .ok (.iadd, 1) := by decide +kernel
theorem dL_law_674 : decode cL_law 674 = .ok (.iaload, 1) := by decide +kernel
theorem dL_law_675 : decode cL_law 675 = .ok (.aload_n 0, 1) := by decide +kernel
theorem dL_law_676 : decode cL_law 676 = .ok (.iload 4, 2) := by decide +kernel
theorem dL_law_678 : decode cL_law 678 = .ok (.iconst 2, 1) := by decide +kernel
theorem dL_law_679 : decode cL_law 679 = .ok (.iadd, 1) := by decide +kernel
theorem dL_law_680 : decode cL_law 680 = .ok (.iaload, 1) := by decide +kernel
theorem dL_law_681 : decode cL_law 681 = .ok (.aload_n 0, 1) := by decide +kernel
theorem dL_law_682 : decode cL_law 682 = .ok (.iload 4, 2) := by decide +kernel
theorem dL_law_684 : decode cL_law 684 = .ok (.iconst 3, 1) := by decide +kernel
theorem dL_law_685 : decode cL_law 685 = .ok (.iadd, 1) := by decide +kernel
theorem dL_law_686 : decode cL_law 686 = .ok (.iaload, 1) := by decide +kernel
theorem dL_law_687 : decode cL_law 687 = .ok (.invokevirtual 128, 3) := by decide +kernel
theorem dL_law_690 : decode cL_law 690 = .ok (.istore 6, 2) := by decide +kernel
theorem dL_law_692 : decode cL_law 692 = .ok (.goto 53, 3) := by decide +kernel
set_option maxHeartbeats 4000000 in
set_option maxRecDepth 100000 in
theorem lw_note {p : Program} {l : Launch} {e : Env} {R : Room} {s : State} {m : MethodId} {args : Array Value} {below : List Frame} {meth : Method} {c : Code} {D : va_G} {dA : Nat → ClassId} {bs b L : Nat} {xs : Nat → Int32} {x mo o : Option Nat} {Q : State → Prop} (hl : l.stackTraces = false) (C : h_C p m c code 7 s args RL D dA) (hE : h_EY bs s) (hF : 11 ≤ R.frames) (hLo : 426 ≤ R.locals) (hX : va_X b L xs s s.heap) (hbl : b < s.heap.size) (hbs : bs = s.heap.size) {i : Nat} (hi : i + 5 ≤ L) (hL : L ≤ 2560) {σ : HS} {K : HS → Prop} (h : lc_note xs x mo o i σ K)
    (kk : ∀ τ, K τ → V p l e R s m args below meth c D dA bs 7 Q τ 745 [(4, .int (nI i)), (3, va_rf o), (2, va_rf mo), (1, va_rf x), (0, va_rf (some b))] []) : V p l e R s m args below meth c D dA bs 7 Q σ 643 [(4, .int (nI i)), (3, va_rf o), (2, va_rf mo), (1, va_rf x), (0, va_rf (some b))] [] := by
  obtain ⟨q, r, σ1, hq, h1, hk, hw, hn⟩ := h
  refine V_aload_n C 3 dL_law_643 rfl rfl ?_
  refine V_aload_n C 4 dL_law_644 rfl rfl ?_
  refine V_iload C 0 dL_law_645 rfl ?_
  refine V_iconst (v := 1) C dL_law_647 (by decide) ?_
  refine V_iadd C dL_law_648 ?_
  rw [lw_a1]
  refine V_sld C hX hbl hbs (j := i + 1) (by omega) (by omega) dL_law_649 ?_
  refine V_aload_n C 4 dL_law_650 rfl rfl ?_
  refine V_iload C 0 dL_law_651 rfl ?_
  refine V_iconst (v := 2) C dL_law_653 (by decide) ?_
  refine V_iadd C dL_law_654 ?_
  rw [lw_a2]
  refine V_sld C hX hbl hbs (j := i + 2) (by omega) (by omega) dL_law_655 ?_
  refine V_aload_n C 4 dL_law_656 rfl rfl ?_
  refine V_iload C 0 dL_law_657 rfl ?_
  refine V_iconst (v := 3) C dL_law_659 (by decide) ?_
  refine V_iadd C dL_law_660 ?_
  rw [lw_a3]
  refine V_sld C hX hbl hbs (j := i + 3) (by omega) (by omega) dL_law_661 ?_
  refine V_aload_n C 1 dL_law_662 rfl rfl ?_
  refine V_cH (As := [va_rf x, .int (xs (i + 1)), .int (xs (i + 2)), .int (xs (i + 3)), va_rf o]) (rest := []) C mh_126 (m_L_note l hl D dA bs hq h1 hk hw) hE rfl rfl (Nat.le_trans h_w0 (by decide)) (Nat.le_trans (by decide) hF) (Nat.le_trans (by decide) hLo) dL_law_663 (fun k σ2 hp => ?_)
  obtain ⟨q2, hq2, v, σ3, h2, hK⟩ := hn k σ2 hp
  refine V_istore (lv' := [(5, .int k), (4, .int (nI i)), (3, va_rf o), (2, va_rf mo), (1, va_rf x), (0, va_rf (some b))]) C dL_law_666 (by decide) rfl ?_
  refine V_aload_n C 3 dL_law_668 rfl rfl ?_
  refine V_aload_n C 5 dL_law_669 rfl rfl ?_
  refine V_iload C 1 dL_law_670 rfl ?_
  refine V_iconst (v := 1) C dL_law_672 (by decide) ?_
  refine V_iadd C dL_law_673 ?_
  rw [lw_a1]
  refine V_sld C hX hbl hbs (j := i + 1) (by omega) (by omega) dL_law_674 ?_
  refine V_aload_n C 5 dL_law_675 rfl rfl ?_
  refine V_iload C 1 dL_law_676 rfl ?_
  refine V_iconst (v := 2) C dL_law_678 (by decide) ?_
  refine V_iadd C dL_law_679 ?_
  rw [lw_a2]
  refine V_sld C hX hbl hbs (j := i + 2) (by omega) (by omega) dL_law_680 ?_
  refine V_aload_n C 5 dL_law_681 rfl rfl ?_
  refine V_iload C 1 dL_law_682 rfl ?_
  refine V_iconst (v := 3) C dL_law_684 (by decide) ?_
  refine V_iadd C dL_law_685 ?_
  rw [lw_a3]
  refine V_sld C hX hbl hbs (j := i + 3) (by omega) (by omega) dL_law_686 ?_
  refine V_cV (As := [.int (xs (i + 1)), .int (xs (i + 2)), .int (xs (i + 3))]) (rest := []) C mv_RL_128 (m_X10_note l D dA bs h2) hq2 rfl rfl (Nat.le_trans h_w0 (by decide)) (Nat.le_trans (by decide) hF) (Nat.le_trans (by decide) hLo) dL_law_687 ?_
  refine V_istore (lv' := [(6, .int v), (5, .int k), (4, .int (nI i)), (3, va_rf o), (2, va_rf mo), (1, va_rf x), (0, va_rf (some b))]) C dL_law_690 (by decide) rfl ?_
  refine V_goto (tgt := 745) C dL_law_692 (by decide) ?_
  exact V_sub [2, 3, 4, 5, 6] rfl (kk σ3 hK)
theorem dL_law_695 : decode cL_law 695 = .ok (.aload_n 1, 1) := by decide +kernel
theorem dL_law_696 : decode cL_law 696 = .ok (.aload_n 0, 1) := by decide +kernel
theorem dL_law_697 : decode cL_law 697 = .ok (.iload 4, 2) := by decide +kernel
theorem dL_law_699 : decode cL_law 699 = .ok (.iconst 1, 1) := by decide +kernel
theorem dL_law_700 : decode cL_law 700 = .ok (.iadd, 1) := by decide +kernel
theorem dL_law_701 : decode cL_law 701 = .ok (.iaload, 1) := by decide +kernel
theorem dL_law_702 : decode cL_law 702 = .ok (.invokevirtual 129, 3) := by decide +kernel
theorem dL_law_705 : decode cL_law 705 = .ok (.pop, 1) := by decide +kernel
theorem dL_law_706 : decode cL_law 706 = .ok (.aload_n 2, 1) := by decide +kernel
theorem dL_law_707 : decode cL_law 707 = .ok (.aload_n 0, 1) := by decide +kernel
theorem dL_law_708 : decode cL_law 708 = .ok (.iload 4, 2) := by decide +kernel
theorem dL_law_710 : decode cL_law 710 = .ok (.iconst 1, 1) := by decide +kernel
theorem dL_law_711 : decode cL_law 711 = .ok (.iadd, 1) := by decide +kernel
theorem dL_law_712 : decode cL_law 712 = .ok (.iaload, 1) := by decide +kernel
theorem dL_law_713 : decode cL_law 713 = .ok (.invokevirtual 132, 3) := by decide +kernel
theorem dL_law_716 : decode cL_law 716 = .ok (.pop, 1) := by decide +kernel
theorem dL_law_717 : decode cL_law 717 = .ok (.goto 28, 3) := by decide +kernel
set_option maxHeartbeats 4000000 in
set_option maxRecDepth 100000 in
theorem lw_truth {p : Program} {l : Launch} {e : Env} {R : Room} {s : State} {m : MethodId} {args : Array Value} {below : List Frame} {meth : Method} {c : Code} {D : va_G} {dA : Nat → ClassId} {bs b L : Nat} {xs : Nat → Int32} {x mo o : Option Nat} {Q : State → Prop} (hl : l.stackTraces = false) (C : h_C p m c code 7 s args RL D dA) (hE : h_EY bs s) (hF : 11 ≤ R.frames) (hLo : 426 ≤ R.locals) (hX : va_X b L xs s s.heap) (hbl : b < s.heap.size) (hbs : bs = s.heap.size) {i : Nat} (hi : i + 5 ≤ L) (hL : L ≤ 2560) {σ : HS} {K : HS → Prop} (h : lc_truth xs x mo o i σ K)
    (kk : ∀ τ, K τ → V p l e R s m args below meth c D dA bs 7 Q τ 745 [(4, .int (nI i)), (3, va_rf o), (2, va_rf mo), (1, va_rf x), (0, va_rf (some b))] []) : V p l e R s m args below meth c D dA bs 7 Q σ 695 [(4, .int (nI i)), (3, va_rf o), (2, va_rf mo), (1, va_rf x), (0, va_rf (some b))] [] := by
  obtain ⟨q, v, σ1, hq, h1, q2, hq2, w, σ2, h2, hK⟩ := h
  refine V_aload_n C 3 dL_law_695 rfl rfl ?_
  refine V_aload_n C 4 dL_law_696 rfl rfl ?_
  refine V_iload C 0 dL_law_697 rfl ?_
  refine V_iconst (v := 1) C dL_law_699 (by decide) ?_
  refine V_iadd C dL_law_700 ?_
  rw [lw_a1]
  refine V_sld C hX hbl hbs (j := i + 1) (by omega) (by omega) dL_law_701 ?_
  refine V_cV (As := [.int (xs (i + 1))]) (rest := []) C mv_RL_129 (m_X9_truth l D dA bs h1) hq rfl rfl (Nat.le_trans h_w0 (by decide)) (Nat.le_trans (by decide) hF) (Nat.le_trans (by decide) hLo) dL_law_702 ?_
  refine V_popI C dL_law_705 ?_
  refine V_aload_n C 2 dL_law_706 rfl rfl ?_
  refine V_aload_n C 4 dL_law_707 rfl rfl ?_
  refine V_iload C 0 dL_law_708 rfl ?_
  refine V_iconst (v := 1) C dL_law_710 (by decide) ?_
  refine V_iadd C dL_law_711 ?_
  rw [lw_a1]
  refine V_sld C hX hbl hbs (j := i + 1) (by omega) (by omega) dL_law_712 ?_
  refine V_cV (As := [.int (xs (i + 1))]) (rest := []) C mv_RL_132 (m_X10_truth l D dA bs h2) hq2 rfl rfl (Nat.le_trans h_w0 (by decide)) (Nat.le_trans (by decide) hF) (Nat.le_trans (by decide) hLo) dL_law_713 ?_
  refine V_popI C dL_law_716 ?_
  refine V_goto (tgt := 745) C dL_law_717 (by decide) ?_
  exact V_sub [0, 1, 2, 3, 4] rfl (kk σ2 hK)
theorem dL_law_720 : decode cL_law 720 = .ok (.aload_n 1, 1) := by decide +kernel
theorem dL_law_721 : decode cL_law 721 = .ok (.aload_n 0, 1) := by decide +kernel
theorem dL_law_722 : decode cL_law 722 = .ok (.iload 4, 2) := by decide +kernel
theorem dL_law_724 : decode cL_law 724 = .ok (.iconst 1, 1) := by decide +kernel
theorem dL_law_725 : decode cL_law 725 = .ok (.iadd, 1) := by decide +kernel
theorem dL_law_726 : decode cL_law 726 = .ok (.iaload, 1) := by decide +kernel
theorem dL_law_727 : decode cL_law 727 = .ok (.invokevirtual 133, 3) := by decide +kernel
theorem dL_law_730 : decode cL_law 730 = .ok (.pop, 1) := by decide +kernel
theorem dL_law_731 : decode cL_law 731 = .ok (.aload_n 2, 1) := by decide +kernel
theorem dL_law_732 : decode cL_law 732 = .ok (.aload_n 0, 1) := by decide +kernel
theorem dL_law_733 : decode cL_law 733 = .ok (.iload 4, 2) := by decide +kernel
theorem dL_law_735 : decode cL_law 735 = .ok (.iconst 1, 1) := by decide +kernel
theorem dL_law_736 : decode cL_law 736 = .ok (.iadd, 1) := by decide +kernel
theorem dL_law_737 : decode cL_law 737 = .ok (.iaload, 1) := by decide +kernel
theorem dL_law_738 : decode cL_law 738 = .ok (.invokevirtual 136, 3) := by decide +kernel
theorem dL_law_741 : decode cL_law 741 = .ok (.pop, 1) := by decide +kernel
theorem dL_law_742 : decode cL_law 742 = .ok (.goto 3, 3) := by decide +kernel
set_option maxHeartbeats 4000000 in
set_option maxRecDepth 100000 in
theorem lw_count {p : Program} {l : Launch} {e : Env} {R : Room} {s : State} {m : MethodId} {args : Array Value} {below : List Frame} {meth : Method} {c : Code} {D : va_G} {dA : Nat → ClassId} {bs b L : Nat} {xs : Nat → Int32} {x mo o : Option Nat} {Q : State → Prop} (hl : l.stackTraces = false) (C : h_C p m c code 7 s args RL D dA) (hE : h_EY bs s) (hF : 11 ≤ R.frames) (hLo : 426 ≤ R.locals) (hX : va_X b L xs s s.heap) (hbl : b < s.heap.size) (hbs : bs = s.heap.size) {i : Nat} (hi : i + 5 ≤ L) (hL : L ≤ 2560) {σ : HS} {K : HS → Prop} (h : lc_count xs x mo o i σ K)
    (kk : ∀ τ, K τ → V p l e R s m args below meth c D dA bs 7 Q τ 745 [(4, .int (nI i)), (3, va_rf o), (2, va_rf mo), (1, va_rf x), (0, va_rf (some b))] []) : V p l e R s m args below meth c D dA bs 7 Q σ 720 [(4, .int (nI i)), (3, va_rf o), (2, va_rf mo), (1, va_rf x), (0, va_rf (some b))] [] := by
  obtain ⟨q, v, σ1, hq, h1, q2, hq2, w, σ2, h2, hK⟩ := h
  refine V_aload_n C 3 dL_law_720 rfl rfl ?_
  refine V_aload_n C 4 dL_law_721 rfl rfl ?_
  refine V_iload C 0 dL_law_722 rfl ?_
  refine V_iconst (v := 1) C dL_law_724 (by decide) ?_
  refine V_iadd C dL_law_725 ?_
  rw [lw_a1]
  refine V_sld C hX hbl hbs (j := i + 1) (by omega) (by omega) dL_law_726 ?_
  refine V_cV (As := [.int (xs (i + 1))]) (rest := []) C mv_RL_133 (m_X9_count l D dA bs h1) hq rfl rfl (Nat.le_trans h_w0 (by decide)) (Nat.le_trans (by decide) hF) (Nat.le_trans (by decide) hLo) dL_law_727 ?_
  refine V_popI C dL_law_730 ?_
  refine V_aload_n C 2 dL_law_731 rfl rfl ?_
  refine V_aload_n C 4 dL_law_732 rfl rfl ?_
  refine V_iload C 0 dL_law_733 rfl ?_
  refine V_iconst (v := 1) C dL_law_735 (by decide) ?_
  refine V_iadd C dL_law_736 ?_
  rw [lw_a1]
  refine V_sld C hX hbl hbs (j := i + 1) (by omega) (by omega) dL_law_737 ?_
  refine V_cV (As := [.int (xs (i + 1))]) (rest := []) C mv_RL_136 (m_X10_count l D dA bs h2) hq2 rfl rfl (Nat.le_trans h_w0 (by decide)) (Nat.le_trans (by decide) hF) (Nat.le_trans (by decide) hLo) dL_law_738 ?_
  refine V_popI C dL_law_741 ?_
  refine V_goto (tgt := 745) C dL_law_742 (by decide) ?_
  exact V_sub [0, 1, 2, 3, 4] rfl (kk σ2 hK)
