set_option maxRecDepth 100000 in
theorem cd_X9_delegate : Cond.code yX9_delegate cX9_delegate 7 none ∈ h_ws := h_in (List.mem_of_getElem? (i := 213) rfl) rfl
theorem mv_RL_7 : h_MV RL 7 10 yX9_delegate cX9_delegate 7 none 4 := ⟨⟨_, _, hcl_9⟩, ⟨by decide, by decide, by decide +kernel⟩, h_in (List.mem_of_getElem? (i := 210) (by decide +kernel)) rfl, h_in (List.mem_of_getElem? (i := 211) (by decide +kernel)) rfl, h_in (List.mem_of_getElem? (i := 212) (by decide +kernel)) rfl, cd_X9_delegate⟩
theorem lx_13 : Cond.classLink RL 13 (h_exn 1) ∈ h_ws := h_in (List.mem_of_getElem? (i := 209) (by decide +kernel)) rfl
set_option maxRecDepth 100000 in
theorem cd_X9_site : Cond.code yX9_site cX9_site 3 none ∈ h_ws := h_in (List.mem_of_getElem? (i := 325) rfl) rfl
theorem mv_RL_15 : h_MV RL 15 10 yX9_site cX9_site 3 none 2 := ⟨⟨_, _, hcl_9⟩, ⟨by decide, by decide, by decide +kernel⟩, h_in (List.mem_of_getElem? (i := 322) (by decide +kernel)) rfl, h_in (List.mem_of_getElem? (i := 323) (by decide +kernel)) rfl, h_in (List.mem_of_getElem? (i := 324) (by decide +kernel)) rfl, cd_X9_site⟩
set_option maxRecDepth 100000 in
theorem cd_X9_prefix : Cond.code yX9_prefix cX9_prefix 6 (some .int) ∈ h_ws := h_in (List.mem_of_getElem? (i := 383) rfl) rfl
theorem mv_RL_19 : h_MV RL 19 10 yX9_prefix cX9_prefix 6 (some .int) 3 := ⟨⟨_, _, hcl_9⟩, ⟨by decide, by decide, by decide +kernel⟩, h_in (List.mem_of_getElem? (i := 380) (by decide +kernel)) rfl, h_in (List.mem_of_getElem? (i := 381) (by decide +kernel)) rfl, h_in (List.mem_of_getElem? (i := 382) (by decide +kernel)) rfl, cd_X9_prefix⟩
set_option maxRecDepth 100000 in
theorem cd_X9_move : Cond.code yX9_move cX9_move 4 none ∈ h_ws := h_in (List.mem_of_getElem? (i := 418) rfl) rfl
theorem mv_RL_23 : h_MV RL 23 10 yX9_move cX9_move 4 none 2 := ⟨⟨_, _, hcl_9⟩, ⟨by decide, by decide, by decide +kernel⟩, h_in (List.mem_of_getElem? (i := 415) (by decide +kernel)) rfl, h_in (List.mem_of_getElem? (i := 416) (by decide +kernel)) rfl, h_in (List.mem_of_getElem? (i := 417) (by decide +kernel)) rfl, cd_X9_move⟩
set_option maxRecDepth 100000 in
theorem cd_X9_register : Cond.code yX9_register cX9_register 6 (some .int) ∈ h_ws := h_in (List.mem_of_getElem? (i := 426) rfl) rfl
theorem mv_RL_26 : h_MV RL 26 10 yX9_register cX9_register 6 (some .int) 1 := ⟨⟨_, _, hcl_9⟩, ⟨by decide, by decide, by decide +kernel⟩, h_in (List.mem_of_getElem? (i := 423) (by decide +kernel)) rfl, h_in (List.mem_of_getElem? (i := 424) (by decide +kernel)) rfl, h_in (List.mem_of_getElem? (i := 425) (by decide +kernel)) rfl, cd_X9_register⟩
set_option maxRecDepth 100000 in
theorem cd_X9_send : Cond.code yX9_send cX9_send 5 (some .int) ∈ h_ws := h_in (List.mem_of_getElem? (i := 458) rfl) rfl
theorem mv_RL_30 : h_MV RL 30 10 yX9_send cX9_send 5 (some .int) 2 := ⟨⟨_, _, hcl_9⟩, ⟨by decide, by decide, by decide +kernel⟩, h_in (List.mem_of_getElem? (i := 455) (by decide +kernel)) rfl, h_in (List.mem_of_getElem? (i := 456) (by decide +kernel)) rfl, h_in (List.mem_of_getElem? (i := 457) (by decide +kernel)) rfl, cd_X9_send⟩
theorem lx_34 : Cond.classLink RL 34 (h_exn 2) ∈ h_ws := h_in (List.mem_of_getElem? (i := 454) (by decide +kernel)) rfl
set_option maxRecDepth 100000 in
theorem cd_X9_carry : Cond.code yX9_carry cX9_carry 2 none ∈ h_ws := h_in (List.mem_of_getElem? (i := 556) rfl) rfl
theorem mv_RL_36 : h_MV RL 36 10 yX9_carry cX9_carry 2 none 1 := ⟨⟨_, _, hcl_9⟩, ⟨by decide, by decide, by decide +kernel⟩, h_in (List.mem_of_getElem? (i := 553) (by decide +kernel)) rfl, h_in (List.mem_of_getElem? (i := 554) (by decide +kernel)) rfl, h_in (List.mem_of_getElem? (i := 555) (by decide +kernel)) rfl, cd_X9_carry⟩
theorem lx_40 : Cond.classLink RL 40 (h_exn 3) ∈ h_ws := h_in (List.mem_of_getElem? (i := 552) (by decide +kernel)) rfl
set_option maxRecDepth 100000 in
theorem cd_X9_repeat : Cond.code yX9_repeat cX9_repeat 2 none ∈ h_ws := h_in (List.mem_of_getElem? (i := 756) rfl) rfl
theorem mv_RL_42 : h_MV RL 42 10 yX9_repeat cX9_repeat 2 none 1 := ⟨⟨_, _, hcl_9⟩, ⟨by decide, by decide, by decide +kernel⟩, h_in (List.mem_of_getElem? (i := 753) (by decide +kernel)) rfl, h_in (List.mem_of_getElem? (i := 754) (by decide +kernel)) rfl, h_in (List.mem_of_getElem? (i := 755) (by decide +kernel)) rfl, cd_X9_repeat⟩
set_option maxRecDepth 100000 in
theorem cd_X9_drop : Cond.code yX9_drop cX9_drop 2 none ∈ h_ws := h_in (List.mem_of_getElem? (i := 767) rfl) rfl
theorem mv_RL_45 : h_MV RL 45 10 yX9_drop cX9_drop 2 none 1 := ⟨⟨_, _, hcl_9⟩, ⟨by decide, by decide, by decide +kernel⟩, h_in (List.mem_of_getElem? (i := 764) (by decide +kernel)) rfl, h_in (List.mem_of_getElem? (i := 765) (by decide +kernel)) rfl, h_in (List.mem_of_getElem? (i := 766) (by decide +kernel)) rfl, cd_X9_drop⟩
set_option maxRecDepth 100000 in
theorem cd_X9_forge : Cond.code yX9_forge cX9_forge 4 none ∈ h_ws := h_in (List.mem_of_getElem? (i := 774) rfl) rfl
theorem mv_RL_48 : h_MV RL 48 10 yX9_forge cX9_forge 4 none 3 := ⟨⟨_, _, hcl_9⟩, ⟨by decide, by decide, by decide +kernel⟩, h_in (List.mem_of_getElem? (i := 771) (by decide +kernel)) rfl, h_in (List.mem_of_getElem? (i := 772) (by decide +kernel)) rfl, h_in (List.mem_of_getElem? (i := 773) (by decide +kernel)) rfl, cd_X9_forge⟩
set_option maxRecDepth 100000 in
theorem cd_X9_message : Cond.code yX9_message cX9_message 3 (some .int) ∈ h_ws := h_in (List.mem_of_getElem? (i := 786) rfl) rfl
theorem mv_RL_52 : h_MV RL 52 10 yX9_message cX9_message 3 (some .int) 2 := ⟨⟨_, _, hcl_9⟩, ⟨by decide, by decide, by decide +kernel⟩, h_in (List.mem_of_getElem? (i := 783) (by decide +kernel)) rfl, h_in (List.mem_of_getElem? (i := 784) (by decide +kernel)) rfl, h_in (List.mem_of_getElem? (i := 785) (by decide +kernel)) rfl, cd_X9_message⟩
set_option maxRecDepth 100000 in
theorem cd_X9_run : Cond.code yX9_run cX9_run 3 (some .int) ∈ h_ws := h_in (List.mem_of_getElem? (i := 798) rfl) rfl
theorem mv_RL_55 : h_MV RL 55 10 yX9_run cX9_run 3 (some .int) 1 := ⟨⟨_, _, hcl_9⟩, ⟨by decide, by decide, by decide +kernel⟩, h_in (List.mem_of_getElem? (i := 795) (by decide +kernel)) rfl, h_in (List.mem_of_getElem? (i := 796) (by decide +kernel)) rfl, h_in (List.mem_of_getElem? (i := 797) (by decide +kernel)) rfl, cd_X9_run⟩
set_option maxRecDepth 100000 in
theorem cd_X9_pass : Cond.code yX9_pass cX9_pass 2 none ∈ h_ws := h_in (List.mem_of_getElem? (i := 806) rfl) rfl
theorem mv_RL_58 : h_MV RL 58 10 yX9_pass cX9_pass 2 none 1 := ⟨⟨_, _, hcl_9⟩, ⟨by decide, by decide, by decide +kernel⟩, h_in (List.mem_of_getElem? (i := 803) (by decide +kernel)) rfl, h_in (List.mem_of_getElem? (i := 804) (by decide +kernel)) rfl, h_in (List.mem_of_getElem? (i := 805) (by decide +kernel)) rfl, cd_X9_pass⟩
set_option maxRecDepth 100000 in
theorem cd_X9_packet : Cond.code yX9_packet cX9_packet 4 (some .int) ∈ h_ws := h_in (List.mem_of_getElem? (i := 815) rfl) rfl
theorem mv_RL_61 : h_MV RL 61 10 yX9_packet cX9_packet 4 (some .int) 2 := ⟨⟨_, _, hcl_9⟩, ⟨by decide, by decide, by decide +kernel⟩, h_in (List.mem_of_getElem? (i := 812) (by decide +kernel)) rfl, h_in (List.mem_of_getElem? (i := 813) (by decide +kernel)) rfl, h_in (List.mem_of_getElem? (i := 814) (by decide +kernel)) rfl, cd_X9_packet⟩
set_option maxRecDepth 100000 in
theorem cd_X9_note : Cond.code yX9_note cX9_note 6 (some .int) ∈ h_ws := h_in (List.mem_of_getElem? (i := 823) rfl) rfl
theorem mv_RL_64 : h_MV RL 64 10 yX9_note cX9_note 6 (some .int) 3 := ⟨⟨_, _, hcl_9⟩, ⟨by decide, by decide, by decide +kernel⟩, h_in (List.mem_of_getElem? (i := 820) (by decide +kernel)) rfl, h_in (List.mem_of_getElem? (i := 821) (by decide +kernel)) rfl, h_in (List.mem_of_getElem? (i := 822) (by decide +kernel)) rfl, cd_X9_note⟩
/-! THE HELPERS: contracts -/
theorem dL_delegate_0 : decode cL_delegate 0 = .ok (.aload_n 0, 1) := by decide +kernel
theorem dL_delegate_1 : decode cL_delegate 1 = .ok (.iload_n 1, 1) := by decide +kernel
theorem dL_delegate_2 : decode cL_delegate 2 = .ok (.iload_n 2, 1) := by decide +kernel
theorem dL_delegate_3 : decode cL_delegate 3 = .ok (.iload_n 3, 1) := by decide +kernel
theorem dL_delegate_4 : decode cL_delegate 4 = .ok (.iload 4, 2) := by decide +kernel
theorem dL_delegate_6 : decode cL_delegate 6 = .ok (.invokevirtual 7, 3) := by decide +kernel
theorem dL_delegate_9 : decode cL_delegate 9 = .ok (.goto 7, 3) := by decide +kernel
theorem dL_delegate_12 : decode cL_delegate 12 = .ok (.astore 5, 2) := by decide +kernel
theorem dL_delegate_14 : decode cL_delegate 14 = .ok (.iconst 1, 1) := by decide +kernel
theorem dL_delegate_15 : decode cL_delegate 15 = .ok (.ireturn, 1) := by decide +kernel
theorem dL_delegate_16 : decode cL_delegate 16 = .ok (.iconst 0, 1) := by decide +kernel
theorem dL_delegate_17 : decode cL_delegate 17 = .ok (.ireturn, 1) := by decide +kernel
def cdL_delegate : Nat → Option Int32 := fun k => if k = 1 then some 1 else none
set_option maxHeartbeats 4000000 in
set_option maxRecDepth 100000 in
theorem m_L_delegate (l : Launch) (hl : l.stackTraces = false) (D : va_G) (dA : Nat → ClassId) (bs : Nat) {σ σ1 : HS} {a0 : Option Nat} {a1 : Int32} {a2 : Int32} {a3 : Int32} {a4 : Int32} {r : Except Nat Unit} {q : Nat} (hq : h_rcv σ a0 10 = some q) (h : f_X9_delegate σ a0 a1 a2 a3 a4 = some (r, σ1)) (hk : ∀ k, r = .error k → (cdL_delegate k).isSome = true) :
    MetH l yL_delegate cL_delegate 6 [(0, 9, 12, 13)] 7 111 D dA bs [va_rf a0, .int a1, .int a2, .int a3, .int a4] (h_hp cdL_delegate (fun _ τ => some τ) r σ1) σ := by
  refine MetH.of (by decide) (h_avR (h_avI (h_avI (h_avI (h_avI h_av0))))) (Nat.le_of_ble_eq_true rfl) ?_
  intro p e R s m args below meth c C B hE htb
  refine V_sub (lv' := [(0, va_rf a0), (1, .int a1), (2, .int a2), (3, .int a3), (4, .int a4)]) [0, 1, 2, 3, 4] rfl ?_
  refine V_aload_n C 0 dL_delegate_0 rfl rfl ?_
  refine V_iload_n C 1 dL_delegate_1 rfl rfl ?_
  refine V_iload_n C 2 dL_delegate_2 rfl rfl ?_
  refine V_iload_n C 3 dL_delegate_3 rfl rfl ?_
  refine V_iload C 4 dL_delegate_4 rfl ?_
  refine V_cX (As := [.int a1, .int a2, .int a3, .int a4]) (rest := []) C mv_RL_7 (m_X9_delegate l hl D dA bs h) hE.1 hq rfl rfl (Nat.le_trans h_w0 (by decide)) (h_fr B (by decide)) (h_lo B (by decide)) dL_delegate_6 ?_ ?_
  · intro rv hrv
    cases r with
    | error k => cases hrv
    | ok v =>
      cases hrv
      refine V_goto (tgt := 16) C dL_delegate_9 (by decide) ?_
      refine V_iconst (v := 0) C dL_delegate_16 (by decide) ?_
      exact V_hret (x := 0) (σ2 := σ1) ⟨rfl, rfl⟩ (V_iret C B dL_delegate_17)
  · intro k hrk
    cases r with
    | ok v => cases hrk
    | error k9 =>
      cases hrk
      have hk9 := hk _ rfl
      have hk8 : k = 1 := by
        unfold cdL_delegate at hk9
        by_cases g1 : k = 1
        · exact g1
        · rw [if_neg g1] at hk9; cases hk9
      subst hk8
      refine ⟨[], ⟨0, 9, 12, 13⟩, [], h_exn 1, htb, (fun z hz => nomatch hz), by decide, by decide, C.1.2.2.2.2 _ lx_13, va_Nw.use (h_bad_ot _ (by decide)) (hE.1.2.2.2 _ (by decide)), ?_⟩
      intro z w q8 b1 b2 b3
      refine V_astore (lv' := [(5, va_rf (some q8)), (0, va_rf a0), (1, .int a1), (2, .int a2), (3, .int a3), (4, .int a4)]) C dL_delegate_12 (by decide) rfl ?_
      refine V_iconst (v := 1) C dL_delegate_14 (by decide) ?_
      exact V_hret (x := 1) (σ2 := h_bump σ1 z w) ⟨by decide, z, w, b1, b2, b3, rfl⟩ (V_iret C B dL_delegate_15)
theorem dL_site_0 : decode cL_site 0 = .ok (.aload_n 0, 1) := by decide +kernel
theorem dL_site_1 : decode cL_site 1 = .ok (.iload_n 1, 1) := by decide +kernel
theorem dL_site_2 : decode cL_site 2 = .ok (.iload_n 2, 1) := by decide +kernel
theorem dL_site_3 : decode cL_site 3 = .ok (.invokevirtual 15, 3) := by decide +kernel
theorem dL_site_6 : decode cL_site 6 = .ok (.goto 6, 3) := by decide +kernel
theorem dL_site_9 : decode cL_site 9 = .ok (.astore_n 3, 1) := by decide +kernel
theorem dL_site_10 : decode cL_site 10 = .ok (.iconst 1, 1) := by decide +kernel
theorem dL_site_11 : decode cL_site 11 = .ok (.ireturn, 1) := by decide +kernel
theorem dL_site_12 : decode cL_site 12 = .ok (.iconst 0, 1) := by decide +kernel
theorem dL_site_13 : decode cL_site 13 = .ok (.ireturn, 1) := by decide +kernel
def cdL_site : Nat → Option Int32 := fun k => if k = 1 then some 1 else none
set_option maxHeartbeats 4000000 in
set_option maxRecDepth 100000 in
theorem m_L_site (l : Launch) (hl : l.stackTraces = false) (D : va_G) (dA : Nat → ClassId) (bs : Nat) {σ σ1 : HS} {a0 : Option Nat} {a1 : Int32} {a2 : Int32} {r : Except Nat Unit} {q : Nat} (hq : h_rcv σ a0 10 = some q) (h : f_X9_site σ a0 a1 a2 = some (r, σ1)) (hk : ∀ k, r = .error k → (cdL_site k).isSome = true) :
    MetH l yL_site cL_site 4 [(0, 6, 9, 13)] 7 104 D dA bs [va_rf a0, .int a1, .int a2] (h_hp cdL_site (fun _ τ => some τ) r σ1) σ := by
  refine MetH.of (by decide) (h_avR (h_avI (h_avI h_av0))) (Nat.le_of_ble_eq_true rfl) ?_
  intro p e R s m args below meth c C B hE htb
  refine V_sub (lv' := [(0, va_rf a0), (1, .int a1), (2, .int a2)]) [0, 1, 2] rfl ?_
  refine V_aload_n C 0 dL_site_0 rfl rfl ?_
  refine V_iload_n C 1 dL_site_1 rfl rfl ?_
  refine V_iload_n C 2 dL_site_2 rfl rfl ?_
  refine V_cX (As := [.int a1, .int a2]) (rest := []) C mv_RL_15 (m_X9_site l hl D dA bs h) hE.1 hq rfl rfl (Nat.le_trans h_w0 (by decide)) (h_fr B (by decide)) (h_lo B (by decide)) dL_site_3 ?_ ?_
  · intro rv hrv
    cases r with
    | error k => cases hrv
    | ok v =>
      cases hrv
      refine V_goto (tgt := 12) C dL_site_6 (by decide) ?_
      refine V_iconst (v := 0) C dL_site_12 (by decide) ?_
      exact V_hret (x := 0) (σ2 := σ1) ⟨rfl, rfl⟩ (V_iret C B dL_site_13)
  · intro k hrk
    cases r with
    | ok v => cases hrk
    | error k9 =>
      cases hrk
      have hk9 := hk _ rfl
      have hk8 : k = 1 := by
        unfold cdL_site at hk9
        by_cases g1 : k = 1
        · exact g1
        · rw [if_neg g1] at hk9; cases hk9
      subst hk8
      refine ⟨[], ⟨0, 6, 9, 13⟩, [], h_exn 1, htb, (fun z hz => nomatch hz), by decide, by decide, C.1.2.2.2.2 _ lx_13, va_Nw.use (h_bad_ot _ (by decide)) (hE.1.2.2.2 _ (by decide)), ?_⟩
      intro z w q8 b1 b2 b3
      refine V_astore_n (lv' := [(3, va_rf (some q8)), (0, va_rf a0), (1, .int a1), (2, .int a2)]) C dL_site_9 rfl (by decide) rfl ?_
      refine V_iconst (v := 1) C dL_site_10 (by decide) ?_
      exact V_hret (x := 1) (σ2 := h_bump σ1 z w) ⟨by decide, z, w, b1, b2, b3, rfl⟩ (V_iret C B dL_site_11)
theorem dL_prefix_0 : decode cL_prefix 0 = .ok (.aload 4, 2) := by decide +kernel
theorem dL_prefix_2 : decode cL_prefix 2 = .ok (.iconst 0, 1) := by decide +kernel
theorem dL_prefix_3 : decode cL_prefix 3 = .ok (.aload_n 0, 1) := by decide +kernel
theorem dL_prefix_4 : decode cL_prefix 4 = .ok (.iload_n 1, 1) := by decide +kernel
theorem dL_prefix_5 : decode cL_prefix 5 = .ok (.iload_n 2, 1) := by decide +kernel
theorem dL_prefix_6 : decode cL_prefix 6 = .ok (.iload_n 3, 1) := by decide +kernel
theorem dL_prefix_7 : decode cL_prefix 7 = .ok (.invokevirtual 19, 3) := by decide +kernel
theorem dL_prefix_10 : decode cL_prefix 10 = .ok (.i2l, 1) := by decide +kernel
theorem dL_prefix_11 : decode cL_prefix 11 = .ok (.lastore, 1) := by decide +kernel
theorem dL_prefix_12 : decode cL_prefix 12 = .ok (.goto 7, 3) := by decide +kernel
theorem dL_prefix_15 : decode cL_prefix 15 = .ok (.astore 5, 2) := by decide +kernel
theorem dL_prefix_17 : decode cL_prefix 17 = .ok (.iconst 1, 1) := by decide +kernel
theorem dL_prefix_18 : decode cL_prefix 18 = .ok (.ireturn, 1) := by decide +kernel
theorem dL_prefix_19 : decode cL_prefix 19 = .ok (.iconst 0, 1) := by decide +kernel
theorem dL_prefix_20 : decode cL_prefix 20 = .ok (.ireturn, 1) := by decide +kernel
def cdL_prefix : Nat → Option Int32 := fun k => if k = 1 then some 1 else none
set_option maxHeartbeats 4000000 in
set_option maxRecDepth 100000 in
theorem m_L_prefix (l : Launch) (hl : l.stackTraces = false) (D : va_G) (dA : Nat → ClassId) (bs : Nat) {σ σ1 : HS} {a0 : Option Nat} {a1 : Int32} {a2 : Int32} {a3 : Int32} {a4 : Option Nat} {r : Except Nat Int32} {q : Nat} (hq : h_rcv σ a0 10 = some q) (h : f_X9_prefix σ a0 a1 a2 a3 = some (r, σ1)) (hk : ∀ k, r = .error k → (cdL_prefix k).isSome = true) (hw : ∀ v, r = .ok v → (h_sL σ1 a4 101 0 (Int32.toInt64 v)).isSome = true) :
    MetH l yL_prefix cL_prefix 6 [(0, 12, 15, 13)] 7 132 D dA bs [va_rf a0, .int a1, .int a2, .int a3, va_rf a4] (h_hp cdL_prefix (fun v τ => h_sL τ a4 101 0 (Int32.toInt64 v)) r σ1) σ := by
  refine MetH.of (by decide) (h_avR (h_avI (h_avI (h_avI (h_avR h_av0))))) (Nat.le_of_ble_eq_true rfl) ?_
  intro p e R s m args below meth c C B hE htb
  refine V_sub (lv' := [(0, va_rf a0), (1, .int a1), (2, .int a2), (3, .int a3), (4, va_rf a4)]) [0, 1, 2, 3, 4] rfl ?_
  refine V_aload C 4 dL_prefix_0 rfl ?_
  refine V_iconst (v := 0) C dL_prefix_2 (by decide) ?_
  refine V_aload_n C 0 dL_prefix_3 rfl rfl ?_
  refine V_iload_n C 1 dL_prefix_4 rfl rfl ?_
  refine V_iload_n C 2 dL_prefix_5 rfl rfl ?_
  refine V_iload_n C 3 dL_prefix_6 rfl rfl ?_
  refine V_cX (As := [.int a1, .int a2, .int a3]) (rest := [.int 0, va_rf a4]) C mv_RL_19 (m_X9_prefix l hl D dA bs h) hE.1 hq rfl rfl (Nat.le_trans (h_wI (h_wR h_w0)) (by decide)) (h_fr B (by decide)) (h_lo B (by decide)) dL_prefix_7 ?_ ?_
  · intro rv hrv
    cases r with
    | error k => cases hrv
    | ok v =>
      cases hrv
      obtain ⟨σ2, e2⟩ := Option.isSome_iff_exists.mp (hw v rfl)
      refine V_i2l C dL_prefix_10 ?_
      refine V_last C dL_prefix_11 e2 ?_
      refine V_goto (tgt := 19) C dL_prefix_12 (by decide) ?_
      refine V_iconst (v := 0) C dL_prefix_19 (by decide) ?_
      exact V_hret (x := 0) (σ2 := σ2) ⟨rfl, e2⟩ (V_iret C B dL_prefix_20)
  · intro k hrk
    cases r with
    | ok v => cases hrk
    | error k9 =>
      cases hrk
      have hk9 := hk _ rfl
      have hk8 : k = 1 := by
        unfold cdL_prefix at hk9
        by_cases g1 : k = 1
        · exact g1
        · rw [if_neg g1] at hk9; cases hk9
      subst hk8
      refine ⟨[], ⟨0, 12, 15, 13⟩, [], h_exn 1, htb, (fun z hz => nomatch hz), by decide, by decide, C.1.2.2.2.2 _ lx_13, va_Nw.use (h_bad_ot _ (by decide)) (hE.1.2.2.2 _ (by decide)), ?_⟩
      intro z w q8 b1 b2 b3
      refine V_astore (lv' := [(5, va_rf (some q8)), (0, va_rf a0), (1, .int a1), (2, .int a2), (3, .int a3), (4, va_rf a4)]) C dL_prefix_15 (by decide) rfl ?_
      refine V_iconst (v := 1) C dL_prefix_17 (by decide) ?_
      exact V_hret (x := 1) (σ2 := h_bump σ1 z w) ⟨by decide, z, w, b1, b2, b3, rfl⟩ (V_iret C B dL_prefix_18)
theorem dL_move_0 : decode cL_move 0 = .ok (.aload_n 0, 1) := by decide +kernel
theorem dL_move_1 : decode cL_move 1 = .ok (.iload_n 1, 1) := by decide +kernel
theorem dL_move_2 : decode cL_move 2 = .ok (.iload_n 2, 1) := by decide +kernel
theorem dL_move_3 : decode cL_move 3 = .ok (.invokevirtual 23, 3) := by decide +kernel
theorem dL_move_6 : decode cL_move 6 = .ok (.goto 6, 3) := by decide +kernel
theorem dL_move_9 : decode cL_move 9 = .ok (.astore_n 3, 1) := by decide +kernel
theorem dL_move_10 : decode cL_move 10 = .ok (.iconst 1, 1) := by decide +kernel
theorem dL_move_11 : decode cL_move 11 = .ok (.ireturn, 1) := by decide +kernel
theorem dL_move_12 : decode cL_move 12 = .ok (.iconst 0, 1) := by decide +kernel
theorem dL_move_13 : decode cL_move 13 = .ok (.ireturn, 1) := by decide +kernel
def cdL_move : Nat → Option Int32 := fun k => if k = 1 then some 1 else none
set_option maxHeartbeats 4000000 in
set_option maxRecDepth 100000 in
theorem m_L_move (l : Launch) (hl : l.stackTraces = false) (D : va_G) (dA : Nat → ClassId) (bs : Nat) {σ σ1 : HS} {a0 : Option Nat} {a1 : Int32} {a2 : Int32} {r : Except Nat Unit} {q : Nat} (hq : h_rcv σ a0 10 = some q) (h : f_X9_move σ a0 a1 a2 = some (r, σ1)) (hk : ∀ k, r = .error k → (cdL_move k).isSome = true) :
    MetH l yL_move cL_move 4 [(0, 6, 9, 13)] 7 105 D dA bs [va_rf a0, .int a1, .int a2] (h_hp cdL_move (fun _ τ => some τ) r σ1) σ := by
  refine MetH.of (by decide) (h_avR (h_avI (h_avI h_av0))) (Nat.le_of_ble_eq_true rfl) ?_
  intro p e R s m args below meth c C B hE htb
  refine V_sub (lv' := [(0, va_rf a0), (1, .int a1), (2, .int a2)]) [0, 1, 2] rfl ?_
  refine V_aload_n C 0 dL_move_0 rfl rfl ?_
  refine V_iload_n C 1 dL_move_1 rfl rfl ?_
  refine V_iload_n C 2 dL_move_2 rfl rfl ?_
  refine V_cX (As := [.int a1, .int a2]) (rest := []) C mv_RL_23 (m_X9_move l hl D dA bs h) hE.1 hq rfl rfl (Nat.le_trans h_w0 (by decide)) (h_fr B (by decide)) (h_lo B (by decide)) dL_move_3 ?_ ?_
  · intro rv hrv
    cases r with
    | error k => cases hrv
    | ok v =>
      cases hrv
      refine V_goto (tgt := 12) C dL_move_6 (by decide) ?_
      refine V_iconst (v := 0) C dL_move_12 (by decide) ?_
      exact V_hret (x := 0) (σ2 := σ1) ⟨rfl, rfl⟩ (V_iret C B dL_move_13)
  · intro k hrk
    cases r with
    | ok v => cases hrk
    | error k9 =>
      cases hrk
      have hk9 := hk _ rfl
      have hk8 : k = 1 := by
        unfold cdL_move at hk9
        by_cases g1 : k = 1
        · exact g1
        · rw [if_neg g1] at hk9; cases hk9
      subst hk8
      refine ⟨[], ⟨0, 6, 9, 13⟩, [], h_exn 1, htb, (fun z hz => nomatch hz), by decide, by decide, C.1.2.2.2.2 _ lx_13, va_Nw.use (h_bad_ot _ (by decide)) (hE.1.2.2.2 _ (by decide)), ?_⟩
      intro z w q8 b1 b2 b3
      refine V_astore_n (lv' := [(3, va_rf (some q8)), (0, va_rf a0), (1, .int a1), (2, .int a2)]) C dL_move_9 rfl (by decide) rfl ?_
      refine V_iconst (v := 1) C dL_move_10 (by decide) ?_
      exact V_hret (x := 1) (σ2 := h_bump σ1 z w) ⟨by decide, z, w, b1, b2, b3, rfl⟩ (V_iret C B dL_move_11)
theorem dL_register_0 : decode cL_register 0 = .ok (.aload_n 2, 1) := by decide +kernel
theorem dL_register_1 : decode cL_register 1 = .ok (.iconst 0, 1) := by decide +kernel
theorem dL_register_2 : decode cL_register 2 = .ok (.aload_n 0, 1) := by decide +kernel
theorem dL_register_3 : decode cL_register 3 = .ok (.iload_n 1, 1) := by decide +kernel
theorem dL_register_4 : decode cL_register 4 = .ok (.invokevirtual 26, 3) := by decide +kernel
theorem dL_register_7 : decode cL_register 7 = .ok (.i2l, 1) := by decide +kernel
theorem dL_register_8 : decode cL_register 8 = .ok (.lastore, 1) := by decide +kernel
theorem dL_register_9 : decode cL_register 9 = .ok (.goto 6, 3) := by decide +kernel
theorem dL_register_12 : decode cL_register 12 = .ok (.astore_n 3, 1) := by decide +kernel
theorem dL_register_13 : decode cL_register 13 = .ok (.iconst 1, 1) := by decide +kernel
theorem dL_register_14 : decode cL_register 14 = .ok (.ireturn, 1) := by decide +kernel
theorem dL_register_15 : decode cL_register 15 = .ok (.iconst 0, 1) := by decide +kernel
theorem dL_register_16 : decode cL_register 16 = .ok (.ireturn, 1) := by decide +kernel
def cdL_register : Nat → Option Int32 := fun k => if k = 1 then some 1 else none
set_option maxHeartbeats 4000000 in
set_option maxRecDepth 100000 in
theorem m_L_register (l : Launch) (hl : l.stackTraces = false) (D : va_G) (dA : Nat → ClassId) (bs : Nat) {σ σ1 : HS} {a0 : Option Nat} {a1 : Int32} {a2 : Option Nat} {r : Except Nat Int32} {q : Nat} (hq : h_rcv σ a0 10 = some q) (h : f_X9_register σ a0 a1 = some (r, σ1)) (hk : ∀ k, r = .error k → (cdL_register k).isSome = true) (hw : ∀ v, r = .ok v → (h_sL σ1 a2 101 0 (Int32.toInt64 v)).isSome = true) :
    MetH l yL_register cL_register 4 [(0, 9, 12, 13)] 7 138 D dA bs [va_rf a0, .int a1, va_rf a2] (h_hp cdL_register (fun v τ => h_sL τ a2 101 0 (Int32.toInt64 v)) r σ1) σ := by
  refine MetH.of (by decide) (h_avR (h_avI (h_avR h_av0))) (Nat.le_of_ble_eq_true rfl) ?_
  intro p e R s m args below meth c C B hE htb
  refine V_sub (lv' := [(0, va_rf a0), (1, .int a1), (2, va_rf a2)]) [0, 1, 2] rfl ?_
  refine V_aload_n C 2 dL_register_0 rfl rfl ?_
  refine V_iconst (v := 0) C dL_register_1 (by decide) ?_
  refine V_aload_n C 0 dL_register_2 rfl rfl ?_
  refine V_iload_n C 1 dL_register_3 rfl rfl ?_
  refine V_cX (As := [.int a1]) (rest := [.int 0, va_rf a2]) C mv_RL_26 (m_X9_register l hl D dA bs h) hE.1 hq rfl rfl (Nat.le_trans (h_wI (h_wR h_w0)) (by decide)) (h_fr B (by decide)) (h_lo B (by decide)) dL_register_4 ?_ ?_
  · intro rv hrv
    cases r with
    | error k => cases hrv
    | ok v =>
      cases hrv
      obtain ⟨σ2, e2⟩ := Option.isSome_iff_exists.mp (hw v rfl)
      refine V_i2l C dL_register_7 ?_
      refine V_last C dL_register_8 e2 ?_
      refine V_goto (tgt := 15) C dL_register_9 (by decide) ?_
      refine V_iconst (v := 0) C dL_register_15 (by decide) ?_
      exact V_hret (x := 0) (σ2 := σ2) ⟨rfl, e2⟩ (V_iret C B dL_register_16)
  · intro k hrk
    cases r with
    | ok v => cases hrk
    | error k9 =>
      cases hrk
      have hk9 := hk _ rfl
      have hk8 : k = 1 := by
        unfold cdL_register at hk9
        by_cases g1 : k = 1
        · exact g1
        · rw [if_neg g1] at hk9; cases hk9
      subst hk8
      refine ⟨[], ⟨0, 9, 12, 13⟩, [], h_exn 1, htb, (fun z hz => nomatch hz), by decide, by decide, C.1.2.2.2.2 _ lx_13, va_Nw.use (h_bad_ot _ (by decide)) (hE.1.2.2.2 _ (by decide)), ?_⟩
      intro z w q8 b1 b2 b3
      refine V_astore_n (lv' := [(3, va_rf (some q8)), (0, va_rf a0), (1, .int a1), (2, va_rf a2)]) C dL_register_12 rfl (by decide) rfl ?_
      refine V_iconst (v := 1) C dL_register_13 (by decide) ?_
      exact V_hret (x := 1) (σ2 := h_bump σ1 z w) ⟨by decide, z, w, b1, b2, b3, rfl⟩ (V_iret C B dL_register_14)
theorem dL_send_0 : decode cL_send 0 = .ok (.aload_n 3, 1) := by decide +kernel
theorem dL_send_1 : decode cL_send 1 = .ok (.iconst 0, 1) := by decide +kernel
theorem dL_send_2 : decode cL_send 2 = .ok (.aload_n 0, 1) := by decide +kernel
theorem dL_send_3 : decode cL_send 3 = .ok (.iload_n 1, 1) := by decide +kernel
theorem dL_send_4 : decode cL_send 4 = .ok (.iload_n 2, 1) := by decide +kernel
theorem dL_send_5 : decode cL_send 5 = .ok (.invokevirtual 30, 3) := by decide +kernel
theorem dL_send_8 : decode cL_send 8 = .ok (.i2l, 1) := by decide +kernel
theorem dL_send_9 : decode cL_send 9 = .ok (.lastore, 1) := by decide +kernel
theorem dL_send_10 : decode cL_send 10 = .ok (.goto 11, 3) := by decide +kernel
theorem dL_send_13 : decode cL_send 13 = .ok (.astore 4, 2) := by decide +kernel
theorem dL_send_15 : decode cL_send 15 = .ok (.iconst 1, 1) := by decide +kernel
theorem dL_send_16 : decode cL_send 16 = .ok (.ireturn, 1) := by decide +kernel
theorem dL_send_17 : decode cL_send 17 = .ok (.astore 4, 2) := by decide +kernel
theorem dL_send_19 : decode cL_send 19 = .ok (.iconst 2, 1) := by decide +kernel
theorem dL_send_20 : decode cL_send 20 = .ok (.ireturn, 1) := by decide +kernel
theorem dL_send_21 : decode cL_send 21 = .ok (.iconst 0, 1) := by decide +kernel
theorem dL_send_22 : decode cL_send 22 = .ok (.ireturn, 1) := by decide +kernel
def cdL_send : Nat → Option Int32 := fun k => if k = 2 then some 1 else if k = 1 then some 2 else none
set_option maxHeartbeats 4000000 in
set_option maxRecDepth 100000 in
theorem m_L_send (l : Launch) (hl : l.stackTraces = false) (D : va_G) (dA : Nat → ClassId) (bs : Nat) {σ σ1 : HS} {a0 : Option Nat} {a1 : Int32} {a2 : Int32} {a3 : Option Nat} {r : Except Nat Int32} {q : Nat} (hq : h_rcv σ a0 10 = some q) (h : f_X9_send σ a0 a1 a2 = some (r, σ1)) (hk : ∀ k, r = .error k → (cdL_send k).isSome = true) (hw : ∀ v, r = .ok v → (h_sL σ1 a3 101 0 (Int32.toInt64 v)).isSome = true) :
    MetH l yL_send cL_send 5 [(0, 10, 13, 34), (0, 10, 17, 13)] 7 182 D dA bs [va_rf a0, .int a1, .int a2, va_rf a3] (h_hp cdL_send (fun v τ => h_sL τ a3 101 0 (Int32.toInt64 v)) r σ1) σ := by
  refine MetH.of (by decide) (h_avR (h_avI (h_avI (h_avR h_av0)))) (Nat.le_of_ble_eq_true rfl) ?_
  intro p e R s m args below meth c C B hE htb
  refine V_sub (lv' := [(0, va_rf a0), (1, .int a1), (2, .int a2), (3, va_rf a3)]) [0, 1, 2, 3] rfl ?_
  refine V_aload_n C 3 dL_send_0 rfl rfl ?_
  refine V_iconst (v := 0) C dL_send_1 (by decide) ?_
  refine V_aload_n C 0 dL_send_2 rfl rfl ?_
  refine V_iload_n C 1 dL_send_3 rfl rfl ?_
  refine V_iload_n C 2 dL_send_4 rfl rfl ?_
  refine V_cX (As := [.int a1, .int a2]) (rest := [.int 0, va_rf a3]) C mv_RL_30 (m_X9_send l hl D dA bs h) hE.1 hq rfl rfl (Nat.le_trans (h_wI (h_wR h_w0)) (by decide)) (h_fr B (by decide)) (h_lo B (by decide)) dL_send_5 ?_ ?_
  · intro rv hrv
    cases r with
    | error k => cases hrv
    | ok v =>
      cases hrv
      obtain ⟨σ2, e2⟩ := Option.isSome_iff_exists.mp (hw v rfl)
      refine V_i2l C dL_send_8 ?_
      refine V_last C dL_send_9 e2 ?_
      refine V_goto (tgt := 21) C dL_send_10 (by decide) ?_
      refine V_iconst (v := 0) C dL_send_21 (by decide) ?_
      exact V_hret (x := 0) (σ2 := σ2) ⟨rfl, e2⟩ (V_iret C B dL_send_22)
  · intro k hrk
    cases r with
    | ok v => cases hrk
    | error k9 =>
      cases hrk
      have hk9 := hk _ rfl
      have hk8 : k = 2 ∨ k = 1 := by
        unfold cdL_send at hk9
        by_cases g1 : k = 2
        · exact Or.inl g1
        · rw [if_neg g1] at hk9
          by_cases g2 : k = 1
          · exact Or.inr g2
          · rw [if_neg g2] at hk9; cases hk9
      rcases hk8 with rfl | rfl
      · refine ⟨[], ⟨0, 10, 13, 34⟩, [⟨0, 10, 17, 13⟩], h_exn 2, htb, (fun z hz => nomatch hz), by decide, by decide, C.1.2.2.2.2 _ lx_34, va_Nw.use (h_bad_ot _ (by decide)) (hE.1.2.2.2 _ (by decide)), ?_⟩
        intro z w q8 b1 b2 b3
        refine V_astore (lv' := [(4, va_rf (some q8)), (0, va_rf a0), (1, .int a1), (2, .int a2), (3, va_rf a3)]) C dL_send_13 (by decide) rfl ?_
        refine V_iconst (v := 1) C dL_send_15 (by decide) ?_
        exact V_hret (x := 1) (σ2 := h_bump σ1 z w) ⟨by decide, z, w, b1, b2, b3, rfl⟩ (V_iret C B dL_send_16)
      · refine ⟨[⟨0, 10, 13, 34⟩], ⟨0, 10, 17, 13⟩, [], h_exn 1, htb, (fun z hz => by rw [List.mem_singleton] at hz; subst hz; exact Or.inr ⟨by decide, h_exn 2, C.1.2.2.2.2 _ lx_34, hE.2⟩), by decide, by decide, C.1.2.2.2.2 _ lx_13, va_Nw.use (h_bad_ot _ (by decide)) (hE.1.2.2.2 _ (by decide)), ?_⟩
        intro z w q8 b1 b2 b3
        refine V_astore (lv' := [(4, va_rf (some q8)), (0, va_rf a0), (1, .int a1), (2, .int a2), (3, va_rf a3)]) C dL_send_17 (by decide) rfl ?_
        refine V_iconst (v := 2) C dL_send_19 (by decide) ?_
        exact V_hret (x := 2) (σ2 := h_bump σ1 z w) ⟨by decide, z, w, b1, b2, b3, rfl⟩ (V_iret C B dL_send_20)
theorem dL_carry_0 : decode cL_carry 0 = .ok (.aload_n 0, 1) := by decide +kernel
theorem dL_carry_1 : decode cL_carry 1 = .ok (.iload_n 1, 1) := by decide +kernel
theorem dL_carry_2 : decode cL_carry 2 = .ok (.invokevirtual 36, 3) := by decide +kernel
theorem dL_carry_5 : decode cL_carry 5 = .ok (.goto 6, 3) := by decide +kernel
theorem dL_carry_8 : decode cL_carry 8 = .ok (.astore_n 2, 1) := by decide +kernel
theorem dL_carry_9 : decode cL_carry 9 = .ok (.iconst 1, 1) := by decide +kernel
theorem dL_carry_10 : decode cL_carry 10 = .ok (.ireturn, 1) := by decide +kernel
theorem dL_carry_11 : decode cL_carry 11 = .ok (.iconst 0, 1) := by decide +kernel
theorem dL_carry_12 : decode cL_carry 12 = .ok (.ireturn, 1) := by decide +kernel
def cdL_carry : Nat → Option Int32 := fun k => if k = 3 then some 1 else none
set_option maxHeartbeats 4000000 in
set_option maxRecDepth 100000 in
theorem m_L_carry (l : Launch) (hl : l.stackTraces = false) (D : va_G) (dA : Nat → ClassId) (bs : Nat) {σ σ1 : HS} {a0 : Option Nat} {a1 : Int32} {r : Except Nat Unit} {q : Nat} (hq : h_rcv σ a0 10 = some q) (h : f_X9_carry σ a0 a1 = some (r, σ1)) (hk : ∀ k, r = .error k → (cdL_carry k).isSome = true) :
    MetH l yL_carry cL_carry 3 [(0, 5, 8, 40)] 8 229 D dA bs [va_rf a0, .int a1] (h_hp cdL_carry (fun _ τ => some τ) r σ1) σ := by
  refine MetH.of (by decide) (h_avR (h_avI h_av0)) (Nat.le_of_ble_eq_true rfl) ?_
  intro p e R s m args below meth c C B hE htb
  refine V_sub (lv' := [(0, va_rf a0), (1, .int a1)]) [0, 1] rfl ?_
  refine V_aload_n C 0 dL_carry_0 rfl rfl ?_
  refine V_iload_n C 1 dL_carry_1 rfl rfl ?_
  refine V_cX (As := [.int a1]) (rest := []) C mv_RL_36 (m_X9_carry l hl D dA bs h) hE.1 hq rfl rfl (Nat.le_trans h_w0 (by decide)) (h_fr B (by decide)) (h_lo B (by decide)) dL_carry_2 ?_ ?_
  · intro rv hrv
    cases r with
    | error k => cases hrv
    | ok v =>
      cases hrv
      refine V_goto (tgt := 11) C dL_carry_5 (by decide) ?_
      refine V_iconst (v := 0) C dL_carry_11 (by decide) ?_
      exact V_hret (x := 0) (σ2 := σ1) ⟨rfl, rfl⟩ (V_iret C B dL_carry_12)
  · intro k hrk
    cases r with
    | ok v => cases hrk
    | error k9 =>
      cases hrk
      have hk9 := hk _ rfl
      have hk8 : k = 3 := by
        unfold cdL_carry at hk9
        by_cases g1 : k = 3
        · exact g1
        · rw [if_neg g1] at hk9; cases hk9
      subst hk8
      refine ⟨[], ⟨0, 5, 8, 40⟩, [], h_exn 3, htb, (fun z hz => nomatch hz), by decide, by decide, C.1.2.2.2.2 _ lx_40, va_Nw.use (h_bad_ot _ (by decide)) (hE.1.2.2.2 _ (by decide)), ?_⟩
      intro z w q8 b1 b2 b3
      refine V_astore_n (lv' := [(2, va_rf (some q8)), (0, va_rf a0), (1, .int a1)]) C dL_carry_8 rfl (by decide) rfl ?_
      refine V_iconst (v := 1) C dL_carry_9 (by decide) ?_
      exact V_hret (x := 1) (σ2 := h_bump σ1 z w) ⟨by decide, z, w, b1, b2, b3, rfl⟩ (V_iret C B dL_carry_10)
theorem dL_repeat_0 : decode cL_repeat 0 = .ok (.aload_n 0, 1) := by decide +kernel
theorem dL_repeat_1 : decode cL_repeat 1 = .ok (.iload_n 1, 1) := by decide +kernel
theorem dL_repeat_2 : decode cL_repeat 2 = .ok (.invokevirtual 42, 3) := by decide +kernel
theorem dL_repeat_5 : decode cL_repeat 5 = .ok (.goto 6, 3) := by decide +kernel
theorem dL_repeat_8 : decode cL_repeat 8 = .ok (.astore_n 2, 1) := by decide +kernel
theorem dL_repeat_9 : decode cL_repeat 9 = .ok (.iconst 1, 1) := by decide +kernel
theorem dL_repeat_10 : decode cL_repeat 10 = .ok (.ireturn, 1) := by decide +kernel
theorem dL_repeat_11 : decode cL_repeat 11 = .ok (.iconst 0, 1) := by decide +kernel
theorem dL_repeat_12 : decode cL_repeat 12 = .ok (.ireturn, 1) := by decide +kernel
def cdL_repeat : Nat → Option Int32 := fun k => if k = 3 then some 1 else none
set_option maxHeartbeats 4000000 in
set_option maxRecDepth 100000 in
theorem m_L_repeat (l : Launch) (hl : l.stackTraces = false) (D : va_G) (dA : Nat → ClassId) (bs : Nat) {σ σ1 : HS} {a0 : Option Nat} {a1 : Int32} {r : Except Nat Unit} {q : Nat} (hq : h_rcv σ a0 10 = some q) (h : f_X9_repeat σ a0 a1 = some (r, σ1)) (hk : ∀ k, r = .error k → (cdL_repeat k).isSome = true) :
    MetH l yL_repeat cL_repeat 3 [(0, 5, 8, 40)] 7 106 D dA bs [va_rf a0, .int a1] (h_hp cdL_repeat (fun _ τ => some τ) r σ1) σ := by
  refine MetH.of (by decide) (h_avR (h_avI h_av0)) (Nat.le_of_ble_eq_true rfl) ?_
  intro p e R s m args below meth c C B hE htb
  refine V_sub (lv' := [(0, va_rf a0), (1, .int a1)]) [0, 1] rfl ?_
  refine V_aload_n C 0 dL_repeat_0 rfl rfl ?_
  refine V_iload_n C 1 dL_repeat_1 rfl rfl ?_
  refine V_cX (As := [.int a1]) (rest := []) C mv_RL_42 (m_X9_repeat l hl D dA bs h) hE.1 hq rfl rfl (Nat.le_trans h_w0 (by decide)) (h_fr B (by decide)) (h_lo B (by decide)) dL_repeat_2 ?_ ?_
  · intro rv hrv
    cases r with
    | error k => cases hrv
    | ok v =>
      cases hrv
      refine V_goto (tgt := 11) C dL_repeat_5 (by decide) ?_
      refine V_iconst (v := 0) C dL_repeat_11 (by decide) ?_
      exact V_hret (x := 0) (σ2 := σ1) ⟨rfl, rfl⟩ (V_iret C B dL_repeat_12)
  · intro k hrk
    cases r with
    | ok v => cases hrk
    | error k9 =>
      cases hrk
      have hk9 := hk _ rfl
      have hk8 : k = 3 := by
        unfold cdL_repeat at hk9
        by_cases g1 : k = 3
        · exact g1
        · rw [if_neg g1] at hk9; cases hk9
      subst hk8
      refine ⟨[], ⟨0, 5, 8, 40⟩, [], h_exn 3, htb, (fun z hz => nomatch hz), by decide, by decide, C.1.2.2.2.2 _ lx_40, va_Nw.use (h_bad_ot _ (by decide)) (hE.1.2.2.2 _ (by decide)), ?_⟩
      intro z w q8 b1 b2 b3
      refine V_astore_n (lv' := [(2, va_rf (some q8)), (0, va_rf a0), (1, .int a1)]) C dL_repeat_8 rfl (by decide) rfl ?_
      refine V_iconst (v := 1) C dL_repeat_9 (by decide) ?_
      exact V_hret (x := 1) (σ2 := h_bump σ1 z w) ⟨by decide, z, w, b1, b2, b3, rfl⟩ (V_iret C B dL_repeat_10)
theorem dL_drop_0 : decode cL_drop 0 = .ok (.aload_n 0, 1) := by decide +kernel
theorem dL_drop_1 : decode cL_drop 1 = .ok (.iload_n 1, 1) := by decide +kernel
theorem dL_drop_2 : decode cL_drop 2 = .ok (.invokevirtual 45, 3) := by decide +kernel
theorem dL_drop_5 : decode cL_drop 5 = .ok (.goto 6, 3) := by decide +kernel
theorem dL_drop_8 : decode cL_drop 8 = .ok (.astore_n 2, 1) := by decide +kernel
theorem dL_drop_9 : decode cL_drop 9 = .ok (.iconst 1, 1) := by decide +kernel
theorem dL_drop_10 : decode cL_drop 10 = .ok (.ireturn, 1) := by decide +kernel
theorem dL_drop_11 : decode cL_drop 11 = .ok (.iconst 0, 1) := by decide +kernel
theorem dL_drop_12 : decode cL_drop 12 = .ok (.ireturn, 1) := by decide +kernel
def cdL_drop : Nat → Option Int32 := fun k => if k = 3 then some 1 else none
set_option maxHeartbeats 4000000 in
set_option maxRecDepth 100000 in
theorem m_L_drop (l : Launch) (hl : l.stackTraces = false) (D : va_G) (dA : Nat → ClassId) (bs : Nat) {σ σ1 : HS} {a0 : Option Nat} {a1 : Int32} {r : Except Nat Unit} {q : Nat} (hq : h_rcv σ a0 10 = some q) (h : f_X9_drop σ a0 a1 = some (r, σ1)) (hk : ∀ k, r = .error k → (cdL_drop k).isSome = true) :
    MetH l yL_drop cL_drop 3 [(0, 5, 8, 40)] 7 107 D dA bs [va_rf a0, .int a1] (h_hp cdL_drop (fun _ τ => some τ) r σ1) σ := by
  refine MetH.of (by decide) (h_avR (h_avI h_av0)) (Nat.le_of_ble_eq_true rfl) ?_
  intro p e R s m args below meth c C B hE htb
  refine V_sub (lv' := [(0, va_rf a0), (1, .int a1)]) [0, 1] rfl ?_
  refine V_aload_n C 0 dL_drop_0 rfl rfl ?_
  refine V_iload_n C 1 dL_drop_1 rfl rfl ?_
  refine V_cX (As := [.int a1]) (rest := []) C mv_RL_45 (m_X9_drop l hl D dA bs h) hE.1 hq rfl rfl (Nat.le_trans h_w0 (by decide)) (h_fr B (by decide)) (h_lo B (by decide)) dL_drop_2 ?_ ?_
  · intro rv hrv
    cases r with
    | error k => cases hrv
    | ok v =>
      cases hrv
      refine V_goto (tgt := 11) C dL_drop_5 (by decide) ?_
      refine V_iconst (v := 0) C dL_drop_11 (by decide) ?_
      exact V_hret (x := 0) (σ2 := σ1) ⟨rfl, rfl⟩ (V_iret C B dL_drop_12)
  · intro k hrk
    cases r with
    | ok v => cases hrk
    | error k9 =>
      cases hrk
      have hk9 := hk _ rfl
      have hk8 : k = 3 := by
        unfold cdL_drop at hk9
        by_cases g1 : k = 3
        · exact g1
        · rw [if_neg g1] at hk9; cases hk9
      subst hk8
      refine ⟨[], ⟨0, 5, 8, 40⟩, [], h_exn 3, htb, (fun z hz => nomatch hz), by decide, by decide, C.1.2.2.2.2 _ lx_40, va_Nw.use (h_bad_ot _ (by decide)) (hE.1.2.2.2 _ (by decide)), ?_⟩
      intro z w q8 b1 b2 b3
      refine V_astore_n (lv' := [(2, va_rf (some q8)), (0, va_rf a0), (1, .int a1)]) C dL_drop_8 rfl (by decide) rfl ?_
      refine V_iconst (v := 1) C dL_drop_9 (by decide) ?_
      exact V_hret (x := 1) (σ2 := h_bump σ1 z w) ⟨by decide, z, w, b1, b2, b3, rfl⟩ (V_iret C B dL_drop_10)
theorem dL_forge_0 : decode cL_forge 0 = .ok (.aload_n 0, 1) := by decide +kernel
theorem dL_forge_1 : decode cL_forge 1 = .ok (.iload_n 1, 1) := by decide +kernel
theorem dL_forge_2 : decode cL_forge 2 = .ok (.iload_n 2, 1) := by decide +kernel
theorem dL_forge_3 : decode cL_forge 3 = .ok (.iload_n 3, 1) := by decide +kernel
theorem dL_forge_4 : decode cL_forge 4 = .ok (.invokevirtual 48, 3) := by decide +kernel
theorem dL_forge_7 : decode cL_forge 7 = .ok (.goto 7, 3) := by decide +kernel
theorem dL_forge_10 : decode cL_forge 10 = .ok (.astore 4, 2) := by decide +kernel
theorem dL_forge_12 : decode cL_forge 12 = .ok (.iconst 1, 1) := by decide +kernel
theorem dL_forge_13 : decode cL_forge 13 = .ok (.ireturn, 1) := by decide +kernel
theorem dL_forge_14 : decode cL_forge 14 = .ok (.iconst 0, 1) := by decide +kernel
theorem dL_forge_15 : decode cL_forge 15 = .ok (.ireturn, 1) := by decide +kernel
def cdL_forge : Nat → Option Int32 := fun k => if k = 3 then some 1 else none
set_option maxHeartbeats 4000000 in
set_option maxRecDepth 100000 in
theorem m_L_forge (l : Launch) (hl : l.stackTraces = false) (D : va_G) (dA : Nat → ClassId) (bs : Nat) {σ σ1 : HS} {a0 : Option Nat} {a1 : Int32} {a2 : Int32} {a3 : Int32} {r : Except Nat Unit} {q : Nat} (hq : h_rcv σ a0 10 = some q) (h : f_X9_forge σ a0 a1 a2 a3 = some (r, σ1)) (hk : ∀ k, r = .error k → (cdL_forge k).isSome = true) :
    MetH l yL_forge cL_forge 5 [(0, 7, 10, 40)] 7 105 D dA bs [va_rf a0, .int a1, .int a2, .int a3] (h_hp cdL_forge (fun _ τ => some τ) r σ1) σ := by
  refine MetH.of (by decide) (h_avR (h_avI (h_avI (h_avI h_av0)))) (Nat.le_of_ble_eq_true rfl) ?_
  intro p e R s m args below meth c C B hE htb
  refine V_sub (lv' := [(0, va_rf a0), (1, .int a1), (2, .int a2), (3, .int a3)]) [0, 1, 2, 3] rfl ?_
  refine V_aload_n C 0 dL_forge_0 rfl rfl ?_
  refine V_iload_n C 1 dL_forge_1 rfl rfl ?_
  refine V_iload_n C 2 dL_forge_2 rfl rfl ?_
  refine V_iload_n C 3 dL_forge_3 rfl rfl ?_
  refine V_cX (As := [.int a1, .int a2, .int a3]) (rest := []) C mv_RL_48 (m_X9_forge l hl D dA bs h) hE.1 hq rfl rfl (Nat.le_trans h_w0 (by decide)) (h_fr B (by decide)) (h_lo B (by decide)) dL_forge_4 ?_ ?_
  · intro rv hrv
    cases r with
    | error k => cases hrv
    | ok v =>
      cases hrv
      refine V_goto (tgt := 14) C dL_forge_7 (by decide) ?_
      refine V_iconst (v := 0) C dL_forge_14 (by decide) ?_
      exact V_hret (x := 0) (σ2 := σ1) ⟨rfl, rfl⟩ (V_iret C B dL_forge_15)
  · intro k hrk
    cases r with
    | ok v => cases hrk
    | error k9 =>
      cases hrk
      have hk9 := hk _ rfl
      have hk8 : k = 3 := by
        unfold cdL_forge at hk9
        by_cases g1 : k = 3
        · exact g1
        · rw [if_neg g1] at hk9; cases hk9
      subst hk8
      refine ⟨[], ⟨0, 7, 10, 40⟩, [], h_exn 3, htb, (fun z hz => nomatch hz), by decide, by decide, C.1.2.2.2.2 _ lx_40, va_Nw.use (h_bad_ot _ (by decide)) (hE.1.2.2.2 _ (by decide)), ?_⟩
      intro z w q8 b1 b2 b3
      refine V_astore (lv' := [(4, va_rf (some q8)), (0, va_rf a0), (1, .int a1), (2, .int a2), (3, .int a3)]) C dL_forge_10 (by decide) rfl ?_
      refine V_iconst (v := 1) C dL_forge_12 (by decide) ?_
      exact V_hret (x := 1) (σ2 := h_bump σ1 z w) ⟨by decide, z, w, b1, b2, b3, rfl⟩ (V_iret C B dL_forge_13)
theorem dL_message_0 : decode cL_message 0 = .ok (.aload_n 3, 1) := by decide +kernel
theorem dL_message_1 : decode cL_message 1 = .ok (.iconst 0, 1) := by decide +kernel
theorem dL_message_2 : decode cL_message 2 = .ok (.aload_n 0, 1) := by decide +kernel
theorem dL_message_3 : decode cL_message 3 = .ok (.iload_n 1, 1) := by decide +kernel
theorem dL_message_4 : decode cL_message 4 = .ok (.iload_n 2, 1) := by decide +kernel
theorem dL_message_5 : decode cL_message 5 = .ok (.invokevirtual 52, 3) := by decide +kernel
theorem dL_message_8 : decode cL_message 8 = .ok (.i2l, 1) := by decide +kernel
theorem dL_message_9 : decode cL_message 9 = .ok (.lastore, 1) := by decide +kernel
theorem dL_message_10 : decode cL_message 10 = .ok (.goto 7, 3) := by decide +kernel
theorem dL_message_13 : decode cL_message 13 = .ok (.astore 4, 2) := by decide +kernel
theorem dL_message_15 : decode cL_message 15 = .ok (.iconst 1, 1) := by decide +kernel
theorem dL_message_16 : decode cL_message 16 = .ok (.ireturn, 1) := by decide +kernel
theorem dL_message_17 : decode cL_message 17 = .ok (.iconst 0, 1) := by decide +kernel
theorem dL_message_18 : decode cL_message 18 = .ok (.ireturn, 1) := by decide +kernel
def cdL_message : Nat → Option Int32 := fun k => if k = 3 then some 1 else none
set_option maxHeartbeats 4000000 in
set_option maxRecDepth 100000 in
theorem m_L_message (l : Launch) (hl : l.stackTraces = false) (D : va_G) (dA : Nat → ClassId) (bs : Nat) {σ σ1 : HS} {a0 : Option Nat} {a1 : Int32} {a2 : Int32} {a3 : Option Nat} {r : Except Nat Int32} {q : Nat} (hq : h_rcv σ a0 10 = some q) (h : f_X9_message σ a0 a1 a2 = some (r, σ1)) (hk : ∀ k, r = .error k → (cdL_message k).isSome = true) (hw : ∀ v, r = .ok v → (h_sL σ1 a3 101 0 (Int32.toInt64 v)).isSome = true) :
    MetH l yL_message cL_message 5 [(0, 10, 13, 40)] 7 104 D dA bs [va_rf a0, .int a1, .int a2, va_rf a3] (h_hp cdL_message (fun v τ => h_sL τ a3 101 0 (Int32.toInt64 v)) r σ1) σ := by
  refine MetH.of (by decide) (h_avR (h_avI (h_avI (h_avR h_av0)))) (Nat.le_of_ble_eq_true rfl) ?_
  intro p e R s m args below meth c C B hE htb
  refine V_sub (lv' := [(0, va_rf a0), (1, .int a1), (2, .int a2), (3, va_rf a3)]) [0, 1, 2, 3] rfl ?_
  refine V_aload_n C 3 dL_message_0 rfl rfl ?_
  refine V_iconst (v := 0) C dL_message_1 (by decide) ?_
  refine V_aload_n C 0 dL_message_2 rfl rfl ?_
  refine V_iload_n C 1 dL_message_3 rfl rfl ?_
  refine V_iload_n C 2 dL_message_4 rfl rfl ?_
  refine V_cX (As := [.int a1, .int a2]) (rest := [.int 0, va_rf a3]) C mv_RL_52 (m_X9_message l hl D dA bs h) hE.1 hq rfl rfl (Nat.le_trans (h_wI (h_wR h_w0)) (by decide)) (h_fr B (by decide)) (h_lo B (by decide)) dL_message_5 ?_ ?_
  · intro rv hrv
    cases r with
    | error k => cases hrv
    | ok v =>
      cases hrv
      obtain ⟨σ2, e2⟩ := Option.isSome_iff_exists.mp (hw v rfl)
      refine V_i2l C dL_message_8 ?_
      refine V_last C dL_message_9 e2 ?_
      refine V_goto (tgt := 17) C dL_message_10 (by decide) ?_
      refine V_iconst (v := 0) C dL_message_17 (by decide) ?_
      exact V_hret (x := 0) (σ2 := σ2) ⟨rfl, e2⟩ (V_iret C B dL_message_18)
  · intro k hrk
    cases r with
    | ok v => cases hrk
    | error k9 =>
      cases hrk
      have hk9 := hk _ rfl
      have hk8 : k = 3 := by
        unfold cdL_message at hk9
        by_cases g1 : k = 3
        · exact g1
        · rw [if_neg g1] at hk9; cases hk9
      subst hk8
      refine ⟨[], ⟨0, 10, 13, 40⟩, [], h_exn 3, htb, (fun z hz => nomatch hz), by decide, by decide, C.1.2.2.2.2 _ lx_40, va_Nw.use (h_bad_ot _ (by decide)) (hE.1.2.2.2 _ (by decide)), ?_⟩
      intro z w q8 b1 b2 b3
      refine V_astore (lv' := [(4, va_rf (some q8)), (0, va_rf a0), (1, .int a1), (2, .int a2), (3, va_rf a3)]) C dL_message_13 (by decide) rfl ?_
      refine V_iconst (v := 1) C dL_message_15 (by decide) ?_
      exact V_hret (x := 1) (σ2 := h_bump σ1 z w) ⟨by decide, z, w, b1, b2, b3, rfl⟩ (V_iret C B dL_message_16)
theorem dL_run_0 : decode cL_run 0 = .ok (.aload_n 2, 1) := by decide +kernel
theorem dL_run_1 : decode cL_run 1 = .ok (.iconst 0, 1) := by decide +kernel
theorem dL_run_2 : decode cL_run 2 = .ok (.aload_n 0, 1) := by decide +kernel
theorem dL_run_3 : decode cL_run 3 = .ok (.iload_n 1, 1) := by decide +kernel
theorem dL_run_4 : decode cL_run 4 = .ok (.invokevirtual 55, 3) := by decide +kernel
theorem dL_run_7 : decode cL_run 7 = .ok (.i2l, 1) := by decide +kernel
theorem dL_run_8 : decode cL_run 8 = .ok (.lastore, 1) := by decide +kernel
theorem dL_run_9 : decode cL_run 9 = .ok (.goto 6, 3) := by decide +kernel
theorem dL_run_12 : decode cL_run 12 = .ok (.astore_n 3, 1) := by decide +kernel
theorem dL_run_13 : decode cL_run 13 = .ok (.iconst 1, 1) := by decide +kernel
theorem dL_run_14 : decode cL_run 14 = .ok (.ireturn, 1) := by decide +kernel
theorem dL_run_15 : decode cL_run 15 = .ok (.iconst 0, 1) := by decide +kernel
theorem dL_run_16 : decode cL_run 16 = .ok (.ireturn, 1) := by decide +kernel
def cdL_run : Nat → Option Int32 := fun k => if k = 1 then some 1 else none
set_option maxHeartbeats 4000000 in
set_option maxRecDepth 100000 in
theorem m_L_run (l : Launch) (hl : l.stackTraces = false) (D : va_G) (dA : Nat → ClassId) (bs : Nat) {σ σ1 : HS} {a0 : Option Nat} {a1 : Int32} {a2 : Option Nat} {r : Except Nat Int32} {q : Nat} (hq : h_rcv σ a0 10 = some q) (h : f_X9_run σ a0 a1 = some (r, σ1)) (hk : ∀ k, r = .error k → (cdL_run k).isSome = true) (hw : ∀ v, r = .ok v → (h_sL σ1 a2 101 0 (Int32.toInt64 v)).isSome = true) :
    MetH l yL_run cL_run 4 [(0, 9, 12, 13)] 8 230 D dA bs [va_rf a0, .int a1, va_rf a2] (h_hp cdL_run (fun v τ => h_sL τ a2 101 0 (Int32.toInt64 v)) r σ1) σ := by
  refine MetH.of (by decide) (h_avR (h_avI (h_avR h_av0))) (Nat.le_of_ble_eq_true rfl) ?_
  intro p e R s m args below meth c C B hE htb
  refine V_sub (lv' := [(0, va_rf a0), (1, .int a1), (2, va_rf a2)]) [0, 1, 2] rfl ?_
  refine V_aload_n C 2 dL_run_0 rfl rfl ?_
  refine V_iconst (v := 0) C dL_run_1 (by decide) ?_
  refine V_aload_n C 0 dL_run_2 rfl rfl ?_
  refine V_iload_n C 1 dL_run_3 rfl rfl ?_
  refine V_cX (As := [.int a1]) (rest := [.int 0, va_rf a2]) C mv_RL_55 (m_X9_run l hl D dA bs h) hE.1 hq rfl rfl (Nat.le_trans (h_wI (h_wR h_w0)) (by decide)) (h_fr B (by decide)) (h_lo B (by decide)) dL_run_4 ?_ ?_
  · intro rv hrv
    cases r with
    | error k => cases hrv
    | ok v =>
      cases hrv
      obtain ⟨σ2, e2⟩ := Option.isSome_iff_exists.mp (hw v rfl)
      refine V_i2l C dL_run_7 ?_
      refine V_last C dL_run_8 e2 ?_
      refine V_goto (tgt := 15) C dL_run_9 (by decide) ?_
      refine V_iconst (v := 0) C dL_run_15 (by decide) ?_
      exact V_hret (x := 0) (σ2 := σ2) ⟨rfl, e2⟩ (V_iret C B dL_run_16)
  · intro k hrk
    cases r with
    | ok v => cases hrk
    | error k9 =>
      cases hrk
      have hk9 := hk _ rfl
      have hk8 : k = 1 := by
        unfold cdL_run at hk9
        by_cases g1 : k = 1
        · exact g1
        · rw [if_neg g1] at hk9; cases hk9
      subst hk8
      refine ⟨[], ⟨0, 9, 12, 13⟩, [], h_exn 1, htb, (fun z hz => nomatch hz), by decide, by decide, C.1.2.2.2.2 _ lx_13, va_Nw.use (h_bad_ot _ (by decide)) (hE.1.2.2.2 _ (by decide)), ?_⟩
      intro z w q8 b1 b2 b3
      refine V_astore_n (lv' := [(3, va_rf (some q8)), (0, va_rf a0), (1, .int a1), (2, va_rf a2)]) C dL_run_12 rfl (by decide) rfl ?_
      refine V_iconst (v := 1) C dL_run_13 (by decide) ?_
      exact V_hret (x := 1) (σ2 := h_bump σ1 z w) ⟨by decide, z, w, b1, b2, b3, rfl⟩ (V_iret C B dL_run_14)
theorem dL_pass_0 : decode cL_pass 0 = .ok (.aload_n 0, 1) := by decide +kernel
theorem dL_pass_1 : decode cL_pass 1 = .ok (.iload_n 1, 1) := by decide +kernel
theorem dL_pass_2 : decode cL_pass 2 = .ok (.invokevirtual 58, 3) := by decide +kernel
theorem dL_pass_5 : decode cL_pass 5 = .ok (.goto 6, 3) := by decide +kernel
theorem dL_pass_8 : decode cL_pass 8 = .ok (.astore_n 2, 1) := by decide +kernel
theorem dL_pass_9 : decode cL_pass 9 = .ok (.iconst 1, 1) := by decide +kernel
theorem dL_pass_10 : decode cL_pass 10 = .ok (.ireturn, 1) := by decide +kernel
theorem dL_pass_11 : decode cL_pass 11 = .ok (.iconst 0, 1) := by decide +kernel
theorem dL_pass_12 : decode cL_pass 12 = .ok (.ireturn, 1) := by decide +kernel
def cdL_pass : Nat → Option Int32 := fun k => if k = 1 then some 1 else none
set_option maxHeartbeats 4000000 in
set_option maxRecDepth 100000 in
theorem m_L_pass (l : Launch) (hl : l.stackTraces = false) (D : va_G) (dA : Nat → ClassId) (bs : Nat) {σ σ1 : HS} {a0 : Option Nat} {a1 : Int32} {r : Except Nat Unit} {q : Nat} (hq : h_rcv σ a0 10 = some q) (h : f_X9_pass σ a0 a1 = some (r, σ1)) (hk : ∀ k, r = .error k → (cdL_pass k).isSome = true) :
    MetH l yL_pass cL_pass 3 [(0, 5, 8, 13)] 7 103 D dA bs [va_rf a0, .int a1] (h_hp cdL_pass (fun _ τ => some τ) r σ1) σ := by
  refine MetH.of (by decide) (h_avR (h_avI h_av0)) (Nat.le_of_ble_eq_true rfl) ?_
  intro p e R s m args below meth c C B hE htb
  refine V_sub (lv' := [(0, va_rf a0), (1, .int a1)]) [0, 1] rfl ?_
  refine V_aload_n C 0 dL_pass_0 rfl rfl ?_
  refine V_iload_n C 1 dL_pass_1 rfl rfl ?_
  refine V_cX (As := [.int a1]) (rest := []) C mv_RL_58 (m_X9_pass l hl D dA bs h) hE.1 hq rfl rfl (Nat.le_trans h_w0 (by decide)) (h_fr B (by decide)) (h_lo B (by decide)) dL_pass_2 ?_ ?_
  · intro rv hrv
    cases r with
    | error k => cases hrv
    | ok v =>
      cases hrv
      refine V_goto (tgt := 11) C dL_pass_5 (by decide) ?_
      refine V_iconst (v := 0) C dL_pass_11 (by decide) ?_
      exact V_hret (x := 0) (σ2 := σ1) ⟨rfl, rfl⟩ (V_iret C B dL_pass_12)
  · intro k hrk
    cases r with
    | ok v => cases hrk
    | error k9 =>
      cases hrk
      have hk9 := hk _ rfl
      have hk8 : k = 1 := by
        unfold cdL_pass at hk9
        by_cases g1 : k = 1
        · exact g1
        · rw [if_neg g1] at hk9; cases hk9
      subst hk8
      refine ⟨[], ⟨0, 5, 8, 13⟩, [], h_exn 1, htb, (fun z hz => nomatch hz), by decide, by decide, C.1.2.2.2.2 _ lx_13, va_Nw.use (h_bad_ot _ (by decide)) (hE.1.2.2.2 _ (by decide)), ?_⟩
      intro z w q8 b1 b2 b3
      refine V_astore_n (lv' := [(2, va_rf (some q8)), (0, va_rf a0), (1, .int a1)]) C dL_pass_8 rfl (by decide) rfl ?_
      refine V_iconst (v := 1) C dL_pass_9 (by decide) ?_
      exact V_hret (x := 1) (σ2 := h_bump σ1 z w) ⟨by decide, z, w, b1, b2, b3, rfl⟩ (V_iret C B dL_pass_10)
theorem dL_packet_0 : decode cL_packet 0 = .ok (.aload_n 3, 1) := by decide +kernel
theorem dL_packet_1 : decode cL_packet 1 = .ok (.iconst 0, 1) := by decide +kernel
theorem dL_packet_2 : decode cL_packet 2 = .ok (.aload_n 0, 1) := by decide +kernel
theorem dL_packet_3 : decode cL_packet 3 = .ok (.iload_n 1, 1) := by decide +kernel
theorem dL_packet_4 : decode cL_packet 4 = .ok (.iload_n 2, 1) := by decide +kernel
theorem dL_packet_5 : decode cL_packet 5 = .ok (.invokevirtual 61, 3) := by decide +kernel
theorem dL_packet_8 : decode cL_packet 8 = .ok (.i2l, 1) := by decide +kernel
theorem dL_packet_9 : decode cL_packet 9 = .ok (.lastore, 1) := by decide +kernel
theorem dL_packet_10 : decode cL_packet 10 = .ok (.goto 7, 3) := by decide +kernel
theorem dL_packet_13 : decode cL_packet 13 = .ok (.astore 4, 2) := by decide +kernel
theorem dL_packet_15 : decode cL_packet 15 = .ok (.iconst 1, 1) := by decide +kernel
theorem dL_packet_16 : decode cL_packet 16 = .ok (.ireturn, 1) := by decide +kernel
theorem dL_packet_17 : decode cL_packet 17 = .ok (.iconst 0, 1) := by decide +kernel
theorem dL_packet_18 : decode cL_packet 18 = .ok (.ireturn, 1) := by decide +kernel
def cdL_packet : Nat → Option Int32 := fun k => if k = 1 then some 1 else none
set_option maxHeartbeats 4000000 in
set_option maxRecDepth 100000 in
theorem m_L_packet (l : Launch) (hl : l.stackTraces = false) (D : va_G) (dA : Nat → ClassId) (bs : Nat) {σ σ1 : HS} {a0 : Option Nat} {a1 : Int32} {a2 : Int32} {a3 : Option Nat} {r : Except Nat Int32} {q : Nat} (hq : h_rcv σ a0 10 = some q) (h : f_X9_packet σ a0 a1 a2 = some (r, σ1)) (hk : ∀ k, r = .error k → (cdL_packet k).isSome = true) (hw : ∀ v, r = .ok v → (h_sL σ1 a3 101 0 (Int32.toInt64 v)).isSome = true) :
    MetH l yL_packet cL_packet 5 [(0, 10, 13, 13)] 7 105 D dA bs [va_rf a0, .int a1, .int a2, va_rf a3] (h_hp cdL_packet (fun v τ => h_sL τ a3 101 0 (Int32.toInt64 v)) r σ1) σ := by
  refine MetH.of (by decide) (h_avR (h_avI (h_avI (h_avR h_av0)))) (Nat.le_of_ble_eq_true rfl) ?_
  intro p e R s m args below meth c C B hE htb
  refine V_sub (lv' := [(0, va_rf a0), (1, .int a1), (2, .int a2), (3, va_rf a3)]) [0, 1, 2, 3] rfl ?_
  refine V_aload_n C 3 dL_packet_0 rfl rfl ?_
  refine V_iconst (v := 0) C dL_packet_1 (by decide) ?_
  refine V_aload_n C 0 dL_packet_2 rfl rfl ?_
  refine V_iload_n C 1 dL_packet_3 rfl rfl ?_
  refine V_iload_n C 2 dL_packet_4 rfl rfl ?_
  refine V_cX (As := [.int a1, .int a2]) (rest := [.int 0, va_rf a3]) C mv_RL_61 (m_X9_packet l hl D dA bs h) hE.1 hq rfl rfl (Nat.le_trans (h_wI (h_wR h_w0)) (by decide)) (h_fr B (by decide)) (h_lo B (by decide)) dL_packet_5 ?_ ?_
  · intro rv hrv
    cases r with
    | error k => cases hrv
    | ok v =>
      cases hrv
      obtain ⟨σ2, e2⟩ := Option.isSome_iff_exists.mp (hw v rfl)
      refine V_i2l C dL_packet_8 ?_
      refine V_last C dL_packet_9 e2 ?_
      refine V_goto (tgt := 17) C dL_packet_10 (by decide) ?_
      refine V_iconst (v := 0) C dL_packet_17 (by decide) ?_
      exact V_hret (x := 0) (σ2 := σ2) ⟨rfl, e2⟩ (V_iret C B dL_packet_18)
  · intro k hrk
    cases r with
    | ok v => cases hrk
    | error k9 =>
      cases hrk
      have hk9 := hk _ rfl
      have hk8 : k = 1 := by
        unfold cdL_packet at hk9
        by_cases g1 : k = 1
        · exact g1
        · rw [if_neg g1] at hk9; cases hk9
      subst hk8
      refine ⟨[], ⟨0, 10, 13, 13⟩, [], h_exn 1, htb, (fun z hz => nomatch hz), by decide, by decide, C.1.2.2.2.2 _ lx_13, va_Nw.use (h_bad_ot _ (by decide)) (hE.1.2.2.2 _ (by decide)), ?_⟩
      intro z w q8 b1 b2 b3
      refine V_astore (lv' := [(4, va_rf (some q8)), (0, va_rf a0), (1, .int a1), (2, .int a2), (3, va_rf a3)]) C dL_packet_13 (by decide) rfl ?_
      refine V_iconst (v := 1) C dL_packet_15 (by decide) ?_
      exact V_hret (x := 1) (σ2 := h_bump σ1 z w) ⟨by decide, z, w, b1, b2, b3, rfl⟩ (V_iret C B dL_packet_16)
theorem dL_note_0 : decode cL_note 0 = .ok (.aload 4, 2) := by decide +kernel
theorem dL_note_2 : decode cL_note 2 = .ok (.iconst 0, 1) := by decide +kernel
theorem dL_note_3 : decode cL_note 3 = .ok (.aload_n 0, 1) := by decide +kernel
theorem dL_note_4 : decode cL_note 4 = .ok (.iload_n 1, 1) := by decide +kernel
theorem dL_note_5 : decode cL_note 5 = .ok (.iload_n 2, 1) := by decide +kernel
theorem dL_note_6 : decode cL_note 6 = .ok (.iload_n 3, 1) := by decide +kernel
theorem dL_note_7 : decode cL_note 7 = .ok (.invokevirtual 64, 3) := by decide +kernel
theorem dL_note_10 : decode cL_note 10 = .ok (.i2l, 1) := by decide +kernel
theorem dL_note_11 : decode cL_note 11 = .ok (.lastore, 1) := by decide +kernel
theorem dL_note_12 : decode cL_note 12 = .ok (.goto 7, 3) := by decide +kernel
theorem dL_note_15 : decode cL_note 15 = .ok (.astore 5, 2) := by decide +kernel
theorem dL_note_17 : decode cL_note 17 = .ok (.iconst 1, 1) := by decide +kernel
theorem dL_note_18 : decode cL_note 18 = .ok (.ireturn, 1) := by decide +kernel
theorem dL_note_19 : decode cL_note 19 = .ok (.iconst 0, 1) := by decide +kernel
theorem dL_note_20 : decode cL_note 20 = .ok (.ireturn, 1) := by decide +kernel
def cdL_note : Nat → Option Int32 := fun k => if k = 1 then some 1 else none
set_option maxHeartbeats 4000000 in
set_option maxRecDepth 100000 in
theorem m_L_note (l : Launch) (hl : l.stackTraces = false) (D : va_G) (dA : Nat → ClassId) (bs : Nat) {σ σ1 : HS} {a0 : Option Nat} {a1 : Int32} {a2 : Int32} {a3 : Int32} {a4 : Option Nat} {r : Except Nat Int32} {q : Nat} (hq : h_rcv σ a0 10 = some q) (h : f_X9_note σ a0 a1 a2 a3 = some (r, σ1)) (hk : ∀ k, r = .error k → (cdL_note k).isSome = true) (hw : ∀ v, r = .ok v → (h_sL σ1 a4 101 0 (Int32.toInt64 v)).isSome = true) :
    MetH l yL_note cL_note 6 [(0, 12, 15, 13)] 7 107 D dA bs [va_rf a0, .int a1, .int a2, .int a3, va_rf a4] (h_hp cdL_note (fun v τ => h_sL τ a4 101 0 (Int32.toInt64 v)) r σ1) σ := by
  refine MetH.of (by decide) (h_avR (h_avI (h_avI (h_avI (h_avR h_av0))))) (Nat.le_of_ble_eq_true rfl) ?_
  intro p e R s m args below meth c C B hE htb
  refine V_sub (lv' := [(0, va_rf a0), (1, .int a1), (2, .int a2), (3, .int a3), (4, va_rf a4)]) [0, 1, 2, 3, 4] rfl ?_
  refine V_aload C 4 dL_note_0 rfl ?_
  refine V_iconst (v := 0) C dL_note_2 (by decide) ?_
  refine V_aload_n C 0 dL_note_3 rfl rfl ?_
  refine V_iload_n C 1 dL_note_4 rfl rfl ?_
  refine V_iload_n C 2 dL_note_5 rfl rfl ?_
  refine V_iload_n C 3 dL_note_6 rfl rfl ?_
  refine V_cX (As := [.int a1, .int a2, .int a3]) (rest := [.int 0, va_rf a4]) C mv_RL_64 (m_X9_note l hl D dA bs h) hE.1 hq rfl rfl (Nat.le_trans (h_wI (h_wR h_w0)) (by decide)) (h_fr B (by decide)) (h_lo B (by decide)) dL_note_7 ?_ ?_
  · intro rv hrv
    cases r with
    | error k => cases hrv
    | ok v =>
      cases hrv
      obtain ⟨σ2, e2⟩ := Option.isSome_iff_exists.mp (hw v rfl)
      refine V_i2l C dL_note_10 ?_
      refine V_last C dL_note_11 e2 ?_
      refine V_goto (tgt := 19) C dL_note_12 (by decide) ?_
      refine V_iconst (v := 0) C dL_note_19 (by decide) ?_
      exact V_hret (x := 0) (σ2 := σ2) ⟨rfl, e2⟩ (V_iret C B dL_note_20)
  · intro k hrk
    cases r with
    | ok v => cases hrk
    | error k9 =>
      cases hrk
      have hk9 := hk _ rfl
      have hk8 : k = 1 := by
        unfold cdL_note at hk9
        by_cases g1 : k = 1
        · exact g1
        · rw [if_neg g1] at hk9; cases hk9
      subst hk8
      refine ⟨[], ⟨0, 12, 15, 13⟩, [], h_exn 1, htb, (fun z hz => nomatch hz), by decide, by decide, C.1.2.2.2.2 _ lx_13, va_Nw.use (h_bad_ot _ (by decide)) (hE.1.2.2.2 _ (by decide)), ?_⟩
      intro z w q8 b1 b2 b3
      refine V_astore (lv' := [(5, va_rf (some q8)), (0, va_rf a0), (1, .int a1), (2, .int a2), (3, .int a3), (4, va_rf a4)]) C dL_note_15 (by decide) rfl ?_
      refine V_iconst (v := 1) C dL_note_17 (by decide) ?_
      exact V_hret (x := 1) (σ2 := h_bump σ1 z w) ⟨by decide, z, w, b1, b2, b3, rfl⟩ (V_iret C B dL_note_18)
