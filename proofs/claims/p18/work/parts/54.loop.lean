/-! THE LAW: its loop, over any invariant -/
theorem dL_law_0 : decode cL_law 0 = .ok (.new 8, 3) := by decide +kernel
theorem dL_law_3 : decode cL_law 3 = .ok (.dup, 1) := by decide +kernel
theorem dL_law_4 : decode cL_law 4 = .ok (.invokespecial 67, 3) := by decide +kernel
theorem dL_law_7 : decode cL_law 7 = .ok (.astore_n 1, 1) := by decide +kernel
theorem dL_law_8 : decode cL_law 8 = .ok (.new 68, 3) := by decide +kernel
theorem dL_law_11 : decode cL_law 11 = .ok (.dup, 1) := by decide +kernel
theorem dL_law_12 : decode cL_law 12 = .ok (.invokespecial 70, 3) := by decide +kernel
theorem dL_law_15 : decode cL_law 15 = .ok (.astore_n 2, 1) := by decide +kernel
theorem dL_law_16 : decode cL_law 16 = .ok (.iconst 1, 1) := by decide +kernel
theorem dL_law_17 : decode cL_law 17 = .ok (.newarray .long, 2) := by decide +kernel
theorem dL_law_19 : decode cL_law 19 = .ok (.astore_n 3, 1) := by decide +kernel
theorem dL_law_20 : decode cL_law 20 = .ok (.iconst 0, 1) := by decide +kernel
theorem dL_law_21 : decode cL_law 21 = .ok (.istore 4, 2) := by decide +kernel
theorem dL_law_23 : decode cL_law 23 = .ok (.iload 4, 2) := by decide +kernel
theorem dL_law_25 : decode cL_law 25 = .ok (.aload_n 0, 1) := by decide +kernel
theorem dL_law_26 : decode cL_law 26 = .ok (.arraylength, 1) := by decide +kernel
theorem dL_law_27 : decode cL_law 27 = .ok (.iconst 5, 1) := by decide +kernel
theorem dL_law_28 : decode cL_law 28 = .ok (.isub, 1) := by decide +kernel
theorem dL_law_29 : decode cL_law 29 = .ok (.if_icmp .gt 711, 3) := by decide +kernel
theorem dL_law_32 : decode cL_law 32 = .ok (.aload_n 0, 1) := by decide +kernel
theorem dL_law_33 : decode cL_law 33 = .ok (.iload 4, 2) := by decide +kernel
theorem dL_law_35 : decode cL_law 35 = .ok (.iaload, 1) := by decide +kernel
theorem dL_law_36 : decode cL_law 36 = .ok (.bipush 31, 2) := by decide +kernel
theorem dL_law_38 : decode cL_law 38 = .ok (.iand, 1) := by decide +kernel
theorem dL_law_39 : decode cL_law 39 = .ok (.tableswitch 695 0 16 #[81, 142, 179, 231, 268, 296, 336, 361, 386, 411, 460, 500, 528, 553, 593, 645, 670], 81) := by decide +kernel
theorem dL_law_732 : decode cL_law 732 = .ok (.iconst 0, 1) := by decide +kernel
theorem dL_law_733 : decode cL_law 733 = .ok (.ireturn, 1) := by decide +kernel
theorem dL_law_734 : decode cL_law 734 = .ok (.iinc 4 5, 3) := by decide +kernel
theorem dL_law_737 : decode cL_law 737 = .ok (.goto (-714), 3) := by decide +kernel
theorem dL_law_740 : decode cL_law 740 = .ok (.iconst 1, 1) := by decide +kernel
theorem dL_law_741 : decode cL_law 741 = .ok (.ireturn, 1) := by decide +kernel
def lc_all (xs : Nat → Int32) (x mo o : Option Nat) (i : Nat) (σ : HS) (K : HS → Prop) : Prop := if xs i &&& 31 = 0 then lc_delegate xs x mo o i σ K else if xs i &&& 31 = 1 then lc_site xs x mo o i σ K else if xs i &&& 31 = 2 then lc_prefix xs x mo o i σ K else if xs i &&& 31 = 3 then lc_move xs x mo o i σ K else if xs i &&& 31 = 4 then lc_register xs x mo o i σ K else if xs i &&& 31 = 5 then lc_send xs x mo o i σ K else if xs i &&& 31 = 6 then lc_carry xs x mo o i σ K else if xs i &&& 31 = 7 then lc_repeat xs x mo o i σ K else if xs i &&& 31 = 8 then lc_drop xs x mo o i σ K else if xs i &&& 31 = 9 then lc_forge xs x mo o i σ K else if xs i &&& 31 = 10 then lc_message xs x mo o i σ K else if xs i &&& 31 = 11 then lc_run xs x mo o i σ K else if xs i &&& 31 = 12 then lc_pass xs x mo o i σ K else if xs i &&& 31 = 13 then lc_packet xs x mo o i σ K else if xs i &&& 31 = 14 then lc_note xs x mo o i σ K else if xs i &&& 31 = 15 then lc_truth xs x mo o i σ K else if xs i &&& 31 = 16 then lc_count xs x mo o i σ K else K σ
theorem lw_cmp {L i : Nat} (hL : L ≤ 2560) (hi : i ≤ 2570) : nI L - 5 < nI i ↔ L < i + 5 := by
  rw [Int32.lt_iff_toInt_lt, show (5 : Int32) = nI 5 from rfl, pk_sub_toInt (by omega) (by omega), nI_toInt (by omega)]
  omega
set_option maxHeartbeats 4000000 in
set_option maxRecDepth 100000 in
theorem law_call {p : Program} {l : Launch} {e : Env} {R : Room} {s : State} {m : MethodId} {args : Array Value} {below : List Frame} {meth : Method} {c : Code} {D : va_G} {dA : Nat → ClassId} {bs b L : Nat} {xs : Nat → Int32} {x mo o : Option Nat} {Q : State → Prop} (hl : l.stackTraces = false) (C : h_C p m c code 7 s args RL D dA) (hE : h_EY bs s) (hF : 11 ≤ R.frames) (hLo : 426 ≤ R.locals) (hX : va_X b L xs s s.heap) (hbl : b < s.heap.size) (hbs : bs = s.heap.size) {i : Nat} (hi : i + 5 ≤ L) (hL : L ≤ 2560) {σ : HS} {K : HS → Prop} (h : lc_all xs x mo o i σ K)
    (kk : ∀ τ, K τ → V p l e R s m args below meth c D dA bs 7 Q τ 734 [(4, .int (nI i)), (3, va_rf o), (2, va_rf mo), (1, va_rf x), (0, va_rf (some b))] []) : V p l e R s m args below meth c D dA bs 7 Q σ 39 [(4, .int (nI i)), (3, va_rf o), (2, va_rf mo), (1, va_rf x), (0, va_rf (some b))] [.int (xs i &&& 31)] := by
  unfold lc_all at h
  by_cases c0 : xs i &&& 31 = 0
  · rw [if_pos c0] at h
    refine V_tabIn (tgt := 120) C dL_law_39 (by rw [c0]; decide) (by rw [c0]; decide) (by rw [c0]; rfl) (by decide) ?_
    exact lw_delegate hl C hE hF hLo hX hbl hbs hi hL h kk
  · rw [if_neg c0] at h
    by_cases c1 : xs i &&& 31 = 1
    · rw [if_pos c1] at h
      refine V_tabIn (tgt := 181) C dL_law_39 (by rw [c1]; decide) (by rw [c1]; decide) (by rw [c1]; rfl) (by decide) ?_
      exact lw_site hl C hE hF hLo hX hbl hbs hi hL h kk
    · rw [if_neg c1] at h
      by_cases c2 : xs i &&& 31 = 2
      · rw [if_pos c2] at h
        refine V_tabIn (tgt := 218) C dL_law_39 (by rw [c2]; decide) (by rw [c2]; decide) (by rw [c2]; rfl) (by decide) ?_
        exact lw_prefix hl C hE hF hLo hX hbl hbs hi hL h kk
      · rw [if_neg c2] at h
        by_cases c3 : xs i &&& 31 = 3
        · rw [if_pos c3] at h
          refine V_tabIn (tgt := 270) C dL_law_39 (by rw [c3]; decide) (by rw [c3]; decide) (by rw [c3]; rfl) (by decide) ?_
          exact lw_move hl C hE hF hLo hX hbl hbs hi hL h kk
        · rw [if_neg c3] at h
          by_cases c4 : xs i &&& 31 = 4
          · rw [if_pos c4] at h
            refine V_tabIn (tgt := 307) C dL_law_39 (by rw [c4]; decide) (by rw [c4]; decide) (by rw [c4]; rfl) (by decide) ?_
            exact lw_register hl C hE hF hLo hX hbl hbs hi hL h kk
          · rw [if_neg c4] at h
            by_cases c5 : xs i &&& 31 = 5
            · rw [if_pos c5] at h
              refine V_tabIn (tgt := 335) C dL_law_39 (by rw [c5]; decide) (by rw [c5]; decide) (by rw [c5]; rfl) (by decide) ?_
              exact lw_send hl C hE hF hLo hX hbl hbs hi hL h kk
            · rw [if_neg c5] at h
              by_cases c6 : xs i &&& 31 = 6
              · rw [if_pos c6] at h
                refine V_tabIn (tgt := 375) C dL_law_39 (by rw [c6]; decide) (by rw [c6]; decide) (by rw [c6]; rfl) (by decide) ?_
                exact lw_carry hl C hE hF hLo hX hbl hbs hi hL h kk
              · rw [if_neg c6] at h
                by_cases c7 : xs i &&& 31 = 7
                · rw [if_pos c7] at h
                  refine V_tabIn (tgt := 400) C dL_law_39 (by rw [c7]; decide) (by rw [c7]; decide) (by rw [c7]; rfl) (by decide) ?_
                  exact lw_repeat hl C hE hF hLo hX hbl hbs hi hL h kk
                · rw [if_neg c7] at h
                  by_cases c8 : xs i &&& 31 = 8
                  · rw [if_pos c8] at h
                    refine V_tabIn (tgt := 425) C dL_law_39 (by rw [c8]; decide) (by rw [c8]; decide) (by rw [c8]; rfl) (by decide) ?_
                    exact lw_drop hl C hE hF hLo hX hbl hbs hi hL h kk
                  · rw [if_neg c8] at h
                    by_cases c9 : xs i &&& 31 = 9
                    · rw [if_pos c9] at h
                      refine V_tabIn (tgt := 450) C dL_law_39 (by rw [c9]; decide) (by rw [c9]; decide) (by rw [c9]; rfl) (by decide) ?_
                      exact lw_forge hl C hE hF hLo hX hbl hbs hi hL h kk
                    · rw [if_neg c9] at h
                      by_cases c10 : xs i &&& 31 = 10
                      · rw [if_pos c10] at h
                        refine V_tabIn (tgt := 499) C dL_law_39 (by rw [c10]; decide) (by rw [c10]; decide) (by rw [c10]; rfl) (by decide) ?_
                        exact lw_message hl C hE hF hLo hX hbl hbs hi hL h kk
                      · rw [if_neg c10] at h
                        by_cases c11 : xs i &&& 31 = 11
                        · rw [if_pos c11] at h
                          refine V_tabIn (tgt := 539) C dL_law_39 (by rw [c11]; decide) (by rw [c11]; decide) (by rw [c11]; rfl) (by decide) ?_
                          exact lw_run hl C hE hF hLo hX hbl hbs hi hL h kk
                        · rw [if_neg c11] at h
                          by_cases c12 : xs i &&& 31 = 12
                          · rw [if_pos c12] at h
                            refine V_tabIn (tgt := 567) C dL_law_39 (by rw [c12]; decide) (by rw [c12]; decide) (by rw [c12]; rfl) (by decide) ?_
                            exact lw_pass hl C hE hF hLo hX hbl hbs hi hL h kk
                          · rw [if_neg c12] at h
                            by_cases c13 : xs i &&& 31 = 13
                            · rw [if_pos c13] at h
                              refine V_tabIn (tgt := 592) C dL_law_39 (by rw [c13]; decide) (by rw [c13]; decide) (by rw [c13]; rfl) (by decide) ?_
                              exact lw_packet hl C hE hF hLo hX hbl hbs hi hL h kk
                            · rw [if_neg c13] at h
                              by_cases c14 : xs i &&& 31 = 14
                              · rw [if_pos c14] at h
                                refine V_tabIn (tgt := 632) C dL_law_39 (by rw [c14]; decide) (by rw [c14]; decide) (by rw [c14]; rfl) (by decide) ?_
                                exact lw_note hl C hE hF hLo hX hbl hbs hi hL h kk
                              · rw [if_neg c14] at h
                                by_cases c15 : xs i &&& 31 = 15
                                · rw [if_pos c15] at h
                                  refine V_tabIn (tgt := 684) C dL_law_39 (by rw [c15]; decide) (by rw [c15]; decide) (by rw [c15]; rfl) (by decide) ?_
                                  exact lw_truth hl C hE hF hLo hX hbl hbs hi hL h kk
                                · rw [if_neg c15] at h
                                  by_cases c16 : xs i &&& 31 = 16
                                  · rw [if_pos c16] at h
                                    refine V_tabIn (tgt := 709) C dL_law_39 (by rw [c16]; decide) (by rw [c16]; decide) (by rw [c16]; rfl) (by decide) ?_
                                    exact lw_count hl C hE hF hLo hX hbl hbs hi hL h kk
                                  · rw [if_neg c16] at h
                                    refine V_tabOut (tgt := 734) C dL_law_39 (by have q0 := lv_neT c0 (show (0 : Int32).toInt = 0 by decide); have q1 := lv_neT c1 (show (1 : Int32).toInt = 1 by decide); have q2 := lv_neT c2 (show (2 : Int32).toInt = 2 by decide); have q3 := lv_neT c3 (show (3 : Int32).toInt = 3 by decide); have q4 := lv_neT c4 (show (4 : Int32).toInt = 4 by decide); have q5 := lv_neT c5 (show (5 : Int32).toInt = 5 by decide); have q6 := lv_neT c6 (show (6 : Int32).toInt = 6 by decide); have q7 := lv_neT c7 (show (7 : Int32).toInt = 7 by decide); have q8 := lv_neT c8 (show (8 : Int32).toInt = 8 by decide); have q9 := lv_neT c9 (show (9 : Int32).toInt = 9 by decide); have q10 := lv_neT c10 (show (10 : Int32).toInt = 10 by decide); have q11 := lv_neT c11 (show (11 : Int32).toInt = 11 by decide); have q12 := lv_neT c12 (show (12 : Int32).toInt = 12 by decide); have q13 := lv_neT c13 (show (13 : Int32).toInt = 13 by decide); have q14 := lv_neT c14 (show (14 : Int32).toInt = 14 by decide); have q15 := lv_neT c15 (show (15 : Int32).toInt = 15 by decide); have q16 := lv_neT c16 (show (16 : Int32).toInt = 16 by decide); omega) (by decide) ?_
                                    exact kk σ h
set_option maxHeartbeats 4000000 in
theorem law_loop {p : Program} {l : Launch} {e : Env} {R : Room} {s : State} {m : MethodId} {args : Array Value} {below : List Frame} {meth : Method} {c : Code} {D : va_G} {dA : Nat → ClassId} {bs b L : Nat} {xs : Nat → Int32} {x mo o : Option Nat} {Q : State → Prop} (hl : l.stackTraces = false) (C : h_C p m c code 7 s args RL D dA) (hE : h_EY bs s) (hF : 11 ≤ R.frames) (hLo : 426 ≤ R.locals) (hX : va_X b L xs s s.heap) (hbl : b < s.heap.size) (hbs : bs = s.heap.size) (hL : L ≤ 2560) {J : Nat → HS → Prop} (hJ : ∀ i σ, J i σ → i + 5 ≤ L → lc_all xs x mo o i σ (J (i + 5)))
    (kk : ∀ (lv : List (Nat × Value)) (τ : HS), V p l e R s m args below meth c D dA bs 7 Q τ 740 lv []) : ∀ (n i : Nat) (σ : HS), J i σ → L < i + 5 + n → i ≤ L + 5 → V p l e R s m args below meth c D dA bs 7 Q σ 23 [(4, .int (nI i)), (3, va_rf o), (2, va_rf mo), (1, va_rf x), (0, va_rf (some b))] [] := by
  intro n
  induction n with
  | zero =>
    intro i σ hj hn hi
    refine V_iload C 0 dL_law_23 rfl ?_
    refine V_aload_n C 4 dL_law_25 rfl rfl ?_
    refine V_slen C hX hbl hbs dL_law_26 ?_
    refine V_iconst (v := 5) C dL_law_27 (by decide) ?_
    refine V_isub C dL_law_28 ?_
    refine V_icmp_gt (tgt := 740) C dL_law_29 (by decide) (fun _ => kk _ σ) (fun g => absurd ((lw_cmp hL (by omega)).mpr (by omega)) g)
  | succ n ih =>
    intro i σ hj hn hi
    refine V_iload C 0 dL_law_23 rfl ?_
    refine V_aload_n C 4 dL_law_25 rfl rfl ?_
    refine V_slen C hX hbl hbs dL_law_26 ?_
    refine V_iconst (v := 5) C dL_law_27 (by decide) ?_
    refine V_isub C dL_law_28 ?_
    refine V_icmp_gt (tgt := 740) C dL_law_29 (by decide) (fun _ => kk _ σ) (fun g => ?_)
    have hi5 : i + 5 ≤ L := by
      by_cases h9 : i + 5 ≤ L
      · exact h9
      · exact absurd ((lw_cmp hL (by omega)).mpr (by omega)) g
    refine V_aload_n C 4 dL_law_32 rfl rfl ?_
    refine V_iload C 0 dL_law_33 rfl ?_
    refine V_sld C hX hbl hbs (j := i) (by omega) (by omega) dL_law_35 ?_
    refine V_bipush (v := 31) C dL_law_36 (by decide) ?_
    refine V_iand C dL_law_38 ?_
    refine law_call hl C hE hF hLo hX hbl hbs hi5 hL (hJ i σ hj hi5) (fun τ hτ => ?_)
    refine V_iinc (v := nI (i + 5)) (lv' := [(4, .int (nI (i + 5))), (3, va_rf o), (2, va_rf mo), (1, va_rf x), (0, va_rf (some b))]) C 0 dL_law_734 rfl (lw_a5 i) (by decide) rfl ?_
    refine V_goto (tgt := 23) C dL_law_737 (by decide) ?_
    exact ih (i + 5) τ hτ (by omega) (by omega)
