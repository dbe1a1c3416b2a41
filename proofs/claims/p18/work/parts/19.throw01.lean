/-! X9_delegate -/
theorem dX9_delegate_0 : decode cX9_delegate 0 = .ok (.aload_n 0, 1) := by decide +kernel
theorem dX9_delegate_1 : decode cX9_delegate 1 = .ok (.getfield 10, 3) := by decide +kernel
theorem dX9_delegate_4 : decode cX9_delegate 4 = .ok (.iload_n 1, 1) := by decide +kernel
theorem dX9_delegate_5 : decode cX9_delegate 5 = .ok (.invokevirtual 52, 3) := by decide +kernel
theorem dX9_delegate_8 : decode cX9_delegate 8 = .ok (.astore 5, 2) := by decide +kernel
theorem dX9_delegate_10 : decode cX9_delegate 10 = .ok (.aload 5, 2) := by decide +kernel
theorem dX9_delegate_12 : decode cX9_delegate 12 = .ok (.ifnull 24, 3) := by decide +kernel
theorem dX9_delegate_15 : decode cX9_delegate 15 = .ok (.iload_n 2, 1) := by decide +kernel
theorem dX9_delegate_16 : decode cX9_delegate 16 = .ok (.ifCond .lt 20, 3) := by decide +kernel
theorem dX9_delegate_19 : decode cX9_delegate 19 = .ok (.iload_n 2, 1) := by decide +kernel
theorem dX9_delegate_20 : decode cX9_delegate 20 = .ok (.bipush 8, 2) := by decide +kernel
theorem dX9_delegate_22 : decode cX9_delegate 22 = .ok (.if_icmp .ge 14, 3) := by decide +kernel
theorem dX9_delegate_25 : decode cX9_delegate 25 = .ok (.aload_n 0, 1) := by decide +kernel
theorem dX9_delegate_26 : decode cX9_delegate 26 = .ok (.getfield 10, 3) := by decide +kernel
theorem dX9_delegate_29 : decode cX9_delegate 29 = .ok (.iload_n 2, 1) := by decide +kernel
theorem dX9_delegate_30 : decode cX9_delegate 30 = .ok (.invokevirtual 52, 3) := by decide +kernel
theorem dX9_delegate_33 : decode cX9_delegate 33 = .ok (.ifnull 13, 3) := by decide +kernel
theorem dX9_delegate_36 : decode cX9_delegate 36 = .ok (.new 56, 3) := by decide +kernel
theorem dX9_delegate_39 : decode cX9_delegate 39 = .ok (.dup, 1) := by decide +kernel
theorem dX9_delegate_40 : decode cX9_delegate 40 = .ok (.ldc 58, 2) := by decide +kernel
theorem dX9_delegate_42 : decode cX9_delegate 42 = .ok (.invokespecial 60, 3) := by decide +kernel
theorem dX9_delegate_45 : decode cX9_delegate 45 = .ok (.athrow, 1) := by decide +kernel
theorem dX9_delegate_46 : decode cX9_delegate 46 = .ok (.iload_n 3, 1) := by decide +kernel
theorem dX9_delegate_47 : decode cX9_delegate 47 = .ok (.iload 4, 2) := by decide +kernel
theorem dX9_delegate_49 : decode cX9_delegate 49 = .ok (.invokestatic 63, 3) := by decide +kernel
theorem dX9_delegate_52 : decode cX9_delegate 52 = .ok (.astore 6, 2) := by decide +kernel
theorem dX9_delegate_54 : decode cX9_delegate 54 = .ok (.aload 6, 2) := by decide +kernel
theorem dX9_delegate_56 : decode cX9_delegate 56 = .ok (.ifnull 30, 3) := by decide +kernel
theorem dX9_delegate_59 : decode cX9_delegate 59 = .ok (.aload 6, 2) := by decide +kernel
theorem dX9_delegate_61 : decode cX9_delegate 61 = .ok (.aload 5, 2) := by decide +kernel
theorem dX9_delegate_63 : decode cX9_delegate 63 = .ok (.getfield 69, 3) := by decide +kernel
theorem dX9_delegate_66 : decode cX9_delegate 66 = .ok (.invokevirtual 75, 3) := by decide +kernel
theorem dX9_delegate_69 : decode cX9_delegate 69 = .ok (.ifCond .ne 17, 3) := by decide +kernel
theorem dX9_delegate_72 : decode cX9_delegate 72 = .ok (.aload_n 0, 1) := by decide +kernel
theorem dX9_delegate_73 : decode cX9_delegate 73 = .ok (.getfield 10, 3) := by decide +kernel
theorem dX9_delegate_76 : decode cX9_delegate 76 = .ok (.aload 5, 2) := by decide +kernel
theorem dX9_delegate_78 : decode cX9_delegate 78 = .ok (.aload 6, 2) := by decide +kernel
theorem dX9_delegate_80 : decode cX9_delegate 80 = .ok (.invokevirtual 79, 3) := by decide +kernel
theorem dX9_delegate_83 : decode cX9_delegate 83 = .ok (.ifCond .ne 13, 3) := by decide +kernel
theorem dX9_delegate_86 : decode cX9_delegate 86 = .ok (.new 56, 3) := by decide +kernel
theorem dX9_delegate_89 : decode cX9_delegate 89 = .ok (.dup, 1) := by decide +kernel
theorem dX9_delegate_90 : decode cX9_delegate 90 = .ok (.ldc 83, 2) := by decide +kernel
theorem dX9_delegate_92 : decode cX9_delegate 92 = .ok (.invokespecial 60, 3) := by decide +kernel
theorem dX9_delegate_95 : decode cX9_delegate 95 = .ok (.athrow, 1) := by decide +kernel
theorem dX9_delegate_96 : decode cX9_delegate 96 = .ok (.aload_n 0, 1) := by decide +kernel
theorem dX9_delegate_97 : decode cX9_delegate 97 = .ok (.getfield 10, 3) := by decide +kernel
theorem dX9_delegate_100 : decode cX9_delegate 100 = .ok (.new 70, 3) := by decide +kernel
theorem dX9_delegate_103 : decode cX9_delegate 103 = .ok (.dup, 1) := by decide +kernel
theorem dX9_delegate_104 : decode cX9_delegate 104 = .ok (.iload_n 2, 1) := by decide +kernel
theorem dX9_delegate_105 : decode cX9_delegate 105 = .ok (.iload_n 1, 1) := by decide +kernel
theorem dX9_delegate_106 : decode cX9_delegate 106 = .ok (.aload 6, 2) := by decide +kernel
theorem dX9_delegate_108 : decode cX9_delegate 108 = .ok (.invokespecial 85, 3) := by decide +kernel
theorem dX9_delegate_111 : decode cX9_delegate 111 = .ok (.invokevirtual 88, 3) := by decide +kernel
theorem dX9_delegate_114 : decode cX9_delegate 114 = .ok (.return_, 1) := by decide +kernel
def f_X9_delegate (σ : HS) (a0 : Option Nat) (a1 : Int32) (a2 : Int32) (a3 : Int32) (a4 : Int32) : Option (Except Nat Unit × HS) :=
  h_b1 (h_gR σ a0 10 0) fun x1 =>
  h_b1 (h_rcv σ x1 9) fun y6 =>
  h_bd (f_X8_at σ x1 a1) fun r3 s4 =>
  if r3 = none then
    h_thr 1 s4
  else
    if a2 < 0 then
      h_thr 1 s4
    else
      if 8 ≤ a2 then
        h_thr 1 s4
      else
        h_b1 (h_gR s4 a0 10 0) fun x14 =>
        h_b1 (h_rcv s4 x14 9) fun y19 =>
        h_bd (f_X8_at s4 x14 a2) fun r16 s17 =>
        if r16 = none then
          h_bd (f_X4_of s17 a3 a4) fun r22 s23 =>
          if r22 = none then
            h_thr 1 s23
          else
            h_b1 (h_gR s23 r3 7 2) fun x27 =>
            h_b1 (h_rcv s23 r22 5) fun y32 =>
            h_bd (f_X4_same s23 r22 x27) fun r29 s30 =>
            if r29 = 0 then
              h_b1 (h_gR s30 a0 10 0) fun x36 =>
              h_b1 (h_rcv s30 x36 9) fun y41 =>
              h_bd (f_X8_owns s30 x36 r3 r22) fun r38 s39 =>
              if r38 = 0 then
                h_thr 1 s39
              else
                h_b1 (h_gR s39 a0 10 0) fun x44 =>
                h_bd (h_mk s39 7 5) fun x46 s47 =>
                h_b1 (h_rcv s47 x46 7) fun y52 =>
                h_bd (f_X6_init s47 x46 a2 a1 r22) fun _ s50 =>
                h_b1 (h_rcv s50 x44 9) fun y57 =>
                h_bd (f_X8_plant s50 x44 x46) fun _ s55 =>
                some (.ok (), s55)
            else
              h_thr 1 s30
        else
          h_thr 1 s17
set_option maxHeartbeats 4000000 in
set_option maxRecDepth 100000 in
theorem m_X9_delegate (l : Launch) (hl : l.stackTraces = false) (D : va_G) (dA : Nat → ClassId) (bs : Nat) {σ σ' : HS} {a0 : Option Nat} {a1 : Int32} {a2 : Int32} {a3 : Int32} {a4 : Int32} {r : Except Nat Unit} (h : f_X9_delegate σ a0 a1 a2 a3 a4 = some (r, σ')) : MetX l yX9_delegate cX9_delegate 7 none 6 85 D dA bs [va_rf a0, .int a1, .int a2, .int a3, .int a4] (h_rV r) σ σ' := by
  refine MetX.of (by decide) (h_avR (h_avI (h_avI (h_avI (h_avI h_av0))))) (Nat.le_of_ble_eq_true rfl) ?_
  intro p e R s m args below meth c C B hE hno
  unfold f_X9_delegate at h
  refine V_sub (lv' := [(0, va_rf a0), (1, .int a1), (2, .int a2), (3, .int a3), (4, .int a4)]) [0, 1, 2, 3, 4] rfl ?_
  refine V_aload_n C 0 dX9_delegate_0 rfl rfl ?_
  obtain ⟨x1, e2, h⟩ := h_b1_some h
  refine V_getR C fl_RX9_10 dX9_delegate_1 e2 ?_
  refine V_iload_n C 1 dX9_delegate_4 rfl rfl ?_
  obtain ⟨y6, e7, h⟩ := h_b1_some h
  obtain ⟨r3, s4, e5, h⟩ := h_bd_some h
  refine V_cV (As := [.int a1]) (rest := []) C mv_RX9_52 (m_X8_at l D dA bs e5) e7 rfl rfl (Nat.le_trans h_w0 (by decide)) (h_fr B (by decide)) (h_lo B (by decide)) dX9_delegate_5 ?_
  refine V_astore (lv' := [(5, va_rf r3), (0, va_rf a0), (1, .int a1), (2, .int a2), (3, .int a3), (4, .int a4)]) C dX9_delegate_8 (by decide) rfl ?_
  refine V_aload C 0 dX9_delegate_10 rfl ?_
  refine V_ifnull (tgt := 36) C dX9_delegate_12 (by decide) (fun c8 => ?_) (fun c8 => ?_)
  · rw [if_pos c8] at h
    obtain ⟨m9, e8, e9⟩ := h_thr_some h
    subst e8; subst e9
    exact V_throw C B hl hE hno (k := 1) (by decide) xl_1 xi_1 xg_1 xb_1 xo_1 xt_58 dX9_delegate_36 dX9_delegate_39 dX9_delegate_40 dX9_delegate_42 dX9_delegate_45 (h_fr B (by decide)) (h_lo B (by decide)) m9
  · rw [if_neg c8] at h
    refine V_iload_n C 3 dX9_delegate_15 rfl rfl ?_
    refine V_if_lt (tgt := 36) C dX9_delegate_16 (by decide) (fun c10 => ?_) (fun c10 => ?_)
    · rw [if_pos c10] at h
      obtain ⟨m11, e8, e9⟩ := h_thr_some h
      subst e8; subst e9
      exact V_throw C B hl hE hno (k := 1) (by decide) xl_1 xi_1 xg_1 xb_1 xo_1 xt_58 dX9_delegate_36 dX9_delegate_39 dX9_delegate_40 dX9_delegate_42 dX9_delegate_45 (h_fr B (by decide)) (h_lo B (by decide)) m11
    · rw [if_neg c10] at h
      refine V_iload_n C 3 dX9_delegate_19 rfl rfl ?_
      refine V_bipush (v := 8) C dX9_delegate_20 (by decide) ?_
      refine V_icmp_ge (tgt := 36) C dX9_delegate_22 (by decide) (fun c12 => ?_) (fun c12 => ?_)
      · rw [if_pos c12] at h
        obtain ⟨m13, e8, e9⟩ := h_thr_some h
        subst e8; subst e9
        exact V_throw C B hl hE hno (k := 1) (by decide) xl_1 xi_1 xg_1 xb_1 xo_1 xt_58 dX9_delegate_36 dX9_delegate_39 dX9_delegate_40 dX9_delegate_42 dX9_delegate_45 (h_fr B (by decide)) (h_lo B (by decide)) m13
      · rw [if_neg c12] at h
        refine V_aload_n C 1 dX9_delegate_25 rfl rfl ?_
        obtain ⟨x14, e15, h⟩ := h_b1_some h
        refine V_getR C fl_RX9_10 dX9_delegate_26 e15 ?_
        refine V_iload_n C 3 dX9_delegate_29 rfl rfl ?_
        obtain ⟨y19, e20, h⟩ := h_b1_some h
        obtain ⟨r16, s17, e18, h⟩ := h_bd_some h
        refine V_cV (As := [.int a2]) (rest := []) C mv_RX9_52 (m_X8_at l D dA bs e18) e20 rfl rfl (Nat.le_trans h_w0 (by decide)) (h_fr B (by decide)) (h_lo B (by decide)) dX9_delegate_30 ?_
        refine V_ifnull (tgt := 46) C dX9_delegate_33 (by decide) (fun c21 => ?_) (fun c21 => ?_)
        · rw [if_pos c21] at h
          refine V_iload_n C 4 dX9_delegate_46 rfl rfl ?_
          refine V_iload C 5 dX9_delegate_47 rfl ?_
          obtain ⟨r22, s23, e24, h⟩ := h_bd_some h
          refine V_cS (As := [.int a3, .int a4]) (rest := []) C ms_RX9_63 (m_X4_of l D dA bs e24) rfl rfl (Nat.le_trans h_w0 (by decide)) (h_fr B (by decide)) (h_lo B (by decide)) dX9_delegate_49 ?_
          refine V_astore (lv' := [(6, va_rf r22), (5, va_rf r3), (0, va_rf a0), (1, .int a1), (2, .int a2), (3, .int a3), (4, .int a4)]) C dX9_delegate_52 (by decide) rfl ?_
          refine V_aload C 0 dX9_delegate_54 rfl ?_
          refine V_ifnull (tgt := 86) C dX9_delegate_56 (by decide) (fun c25 => ?_) (fun c25 => ?_)
          · rw [if_pos c25] at h
            obtain ⟨m26, e8, e9⟩ := h_thr_some h
            subst e8; subst e9
            exact V_throw C B hl hE hno (k := 1) (by decide) xl_1 xi_1 xg_1 xb_1 xo_1 xt_83 dX9_delegate_86 dX9_delegate_89 dX9_delegate_90 dX9_delegate_92 dX9_delegate_95 (h_fr B (by decide)) (h_lo B (by decide)) m26
          · rw [if_neg c25] at h
            refine V_aload C 0 dX9_delegate_59 rfl ?_
            refine V_aload C 1 dX9_delegate_61 rfl ?_
            obtain ⟨x27, e28, h⟩ := h_b1_some h
            refine V_getR C fl_RX9_69 dX9_delegate_63 e28 ?_
            obtain ⟨y32, e33, h⟩ := h_b1_some h
            obtain ⟨r29, s30, e31, h⟩ := h_bd_some h
            refine V_cV (As := [va_rf x27]) (rest := []) C mv_RX9_75 (m_X4_same l D dA bs e31) e33 rfl rfl (Nat.le_trans h_w0 (by decide)) (h_fr B (by decide)) (h_lo B (by decide)) dX9_delegate_66 ?_
            refine V_if_ne (tgt := 86) C dX9_delegate_69 (by decide) (fun c34 => ?_) (fun c34 => ?_)
            · rw [if_neg c34] at h
              obtain ⟨m35, e8, e9⟩ := h_thr_some h
              subst e8; subst e9
              exact V_throw C B hl hE hno (k := 1) (by decide) xl_1 xi_1 xg_1 xb_1 xo_1 xt_83 dX9_delegate_86 dX9_delegate_89 dX9_delegate_90 dX9_delegate_92 dX9_delegate_95 (h_fr B (by decide)) (h_lo B (by decide)) m35
            · rw [if_pos c34] at h
              refine V_aload_n C 2 dX9_delegate_72 rfl rfl ?_
              obtain ⟨x36, e37, h⟩ := h_b1_some h
              refine V_getR C fl_RX9_10 dX9_delegate_73 e37 ?_
              refine V_aload C 1 dX9_delegate_76 rfl ?_
              refine V_aload C 0 dX9_delegate_78 rfl ?_
              obtain ⟨y41, e42, h⟩ := h_b1_some h
              obtain ⟨r38, s39, e40, h⟩ := h_bd_some h
              refine V_cV (As := [va_rf r3, va_rf r22]) (rest := []) C mv_RX9_79 (m_X8_owns l D dA bs e40) e42 rfl rfl (Nat.le_trans h_w0 (by decide)) (h_fr B (by decide)) (h_lo B (by decide)) dX9_delegate_80 ?_
              refine V_if_ne (tgt := 96) C dX9_delegate_83 (by decide) (fun c43 => ?_) (fun c43 => ?_)
              · rw [if_neg c43] at h
                refine V_aload_n C 2 dX9_delegate_96 rfl rfl ?_
                obtain ⟨x44, e45, h⟩ := h_b1_some h
                refine V_getR C fl_RX9_10 dX9_delegate_97 e45 ?_
                obtain ⟨x46, s47, e48, h⟩ := h_bd_some h
                refine V_new C hcl_6 lk_RX9_70 dX9_delegate_100 e48 ?_
                refine V_dupR C dX9_delegate_103 ?_
                refine V_iload_n C 4 dX9_delegate_104 rfl rfl ?_
                refine V_iload_n C 3 dX9_delegate_105 rfl rfl ?_
                refine V_aload C 0 dX9_delegate_106 rfl ?_
                obtain ⟨y52, e53, h⟩ := h_b1_some h
                obtain ⟨r49, s50, e51, h⟩ := h_bd_some h
                refine V_cI (As := [.int a2, .int a1, va_rf r22]) (rest := [va_rf x46, va_rf x44]) C mi_RX9_85 (m_X6_init l D dA bs e51) e53 rfl rfl (Nat.le_trans (h_wR (h_wR h_w0)) (by decide)) (h_fr B (by decide)) (h_lo B (by decide)) dX9_delegate_108 ?_
                obtain ⟨y57, e58, h⟩ := h_b1_some h
                obtain ⟨r54, s55, e56, h⟩ := h_bd_some h
                refine V_cV (As := [va_rf x46]) (rest := []) C mv_RX9_88 (m_X8_plant l D dA bs e56) e58 rfl rfl (Nat.le_trans h_w0 (by decide)) (h_fr B (by decide)) (h_lo B (by decide)) dX9_delegate_111 ?_
                cases h
                exact V_xret (V_vret C B dX9_delegate_114)
              · rw [if_pos c43] at h
                obtain ⟨m59, e8, e9⟩ := h_thr_some h
                subst e8; subst e9
                exact V_throw C B hl hE hno (k := 1) (by decide) xl_1 xi_1 xg_1 xb_1 xo_1 xt_83 dX9_delegate_86 dX9_delegate_89 dX9_delegate_90 dX9_delegate_92 dX9_delegate_95 (h_fr B (by decide)) (h_lo B (by decide)) m59
        · rw [if_neg c21] at h
          obtain ⟨m60, e8, e9⟩ := h_thr_some h
          subst e8; subst e9
          exact V_throw C B hl hE hno (k := 1) (by decide) xl_1 xi_1 xg_1 xb_1 xo_1 xt_58 dX9_delegate_36 dX9_delegate_39 dX9_delegate_40 dX9_delegate_42 dX9_delegate_45 (h_fr B (by decide)) (h_lo B (by decide)) m60
/-! X9_site -/
theorem dX9_site_0 : decode cX9_site 0 = .ok (.iload_n 1, 1) := by decide +kernel
theorem dX9_site_1 : decode cX9_site 1 = .ok (.ifCond .lt 18, 3) := by decide +kernel
theorem dX9_site_4 : decode cX9_site 4 = .ok (.iload_n 1, 1) := by decide +kernel
theorem dX9_site_5 : decode cX9_site 5 = .ok (.bipush 8, 2) := by decide +kernel
theorem dX9_site_7 : decode cX9_site 7 = .ok (.if_icmp .ge 12, 3) := by decide +kernel
theorem dX9_site_10 : decode cX9_site 10 = .ok (.aload_n 0, 1) := by decide +kernel
theorem dX9_site_11 : decode cX9_site 11 = .ok (.getfield 18, 3) := by decide +kernel
theorem dX9_site_14 : decode cX9_site 14 = .ok (.iload_n 1, 1) := by decide +kernel
theorem dX9_site_15 : decode cX9_site 15 = .ok (.aaload, 1) := by decide +kernel
theorem dX9_site_16 : decode cX9_site 16 = .ok (.ifnull 13, 3) := by decide +kernel
theorem dX9_site_19 : decode cX9_site 19 = .ok (.new 56, 3) := by decide +kernel
theorem dX9_site_22 : decode cX9_site 22 = .ok (.dup, 1) := by decide +kernel
theorem dX9_site_23 : decode cX9_site 23 = .ok (.ldc 92, 2) := by decide +kernel
theorem dX9_site_25 : decode cX9_site 25 = .ok (.invokespecial 60, 3) := by decide +kernel
theorem dX9_site_28 : decode cX9_site 28 = .ok (.athrow, 1) := by decide +kernel
theorem dX9_site_29 : decode cX9_site 29 = .ok (.iload_n 2, 1) := by decide +kernel
theorem dX9_site_30 : decode cX9_site 30 = .ok (.invokestatic 94, 3) := by decide +kernel
theorem dX9_site_33 : decode cX9_site 33 = .ok (.ifCond .eq 12, 3) := by decide +kernel
theorem dX9_site_36 : decode cX9_site 36 = .ok (.aload_n 0, 1) := by decide +kernel
theorem dX9_site_37 : decode cX9_site 37 = .ok (.iload_n 2, 1) := by decide +kernel
theorem dX9_site_38 : decode cX9_site 38 = .ok (.invokevirtual 98, 3) := by decide +kernel
theorem dX9_site_41 : decode cX9_site 41 = .ok (.iconst (-1), 1) := by decide +kernel
theorem dX9_site_42 : decode cX9_site 42 = .ok (.if_icmp .eq 13, 3) := by decide +kernel
theorem dX9_site_45 : decode cX9_site 45 = .ok (.new 56, 3) := by decide +kernel
theorem dX9_site_48 : decode cX9_site 48 = .ok (.dup, 1) := by decide +kernel
theorem dX9_site_49 : decode cX9_site 49 = .ok (.ldc 102, 2) := by decide +kernel
theorem dX9_site_51 : decode cX9_site 51 = .ok (.invokespecial 60, 3) := by decide +kernel
theorem dX9_site_54 : decode cX9_site 54 = .ok (.athrow, 1) := by decide +kernel
theorem dX9_site_55 : decode cX9_site 55 = .ok (.aload_n 0, 1) := by decide +kernel
theorem dX9_site_56 : decode cX9_site 56 = .ok (.getfield 18, 3) := by decide +kernel
theorem dX9_site_59 : decode cX9_site 59 = .ok (.iload_n 1, 1) := by decide +kernel
theorem dX9_site_60 : decode cX9_site 60 = .ok (.new 16, 3) := by decide +kernel
theorem dX9_site_63 : decode cX9_site 63 = .ok (.dup, 1) := by decide +kernel
theorem dX9_site_64 : decode cX9_site 64 = .ok (.iload_n 2, 1) := by decide +kernel
theorem dX9_site_65 : decode cX9_site 65 = .ok (.invokespecial 104, 3) := by decide +kernel
theorem dX9_site_68 : decode cX9_site 68 = .ok (.aastore, 1) := by decide +kernel
theorem dX9_site_69 : decode cX9_site 69 = .ok (.return_, 1) := by decide +kernel
def f_X9_site (σ : HS) (a0 : Option Nat) (a1 : Int32) (a2 : Int32) : Option (Except Nat Unit × HS) :=
  if a1 < 0 then
    h_thr 1 σ
  else
    if 8 ≤ a1 then
      h_thr 1 σ
    else
      h_b1 (h_gR σ a0 10 1) fun x5 =>
      h_b1 (h_aR σ x5 108 a1) fun x7 =>
      if x7 = none then
        h_bd (f_X9_isPlace σ a2) fun r10 s11 =>
        if r10 = 0 then
          h_thr 1 s11
        else
          h_b1 (h_rcv s11 a0 10) fun y18 =>
          h_bd (f_X9_hostOf s11 a0 a2) fun r15 s16 =>
          if r15 = (-1) then
            h_b1 (h_gR s16 a0 10 1) fun x21 =>
            h_bd (h_mk s16 8 5) fun x23 s24 =>
            h_b1 (h_rcv s24 x23 8) fun y29 =>
            h_bd (f_X7_init s24 x23 a2) fun _ s27 =>
            h_b1 (h_sR s27 x21 108 8 a1 x23) fun s31 =>
            some (.ok (), s31)
          else
            h_thr 1 s16
      else
        h_thr 1 σ
set_option maxHeartbeats 4000000 in
set_option maxRecDepth 100000 in
theorem m_X9_site (l : Launch) (hl : l.stackTraces = false) (D : va_G) (dA : Nat → ClassId) (bs : Nat) {σ σ' : HS} {a0 : Option Nat} {a1 : Int32} {a2 : Int32} {r : Except Nat Unit} (h : f_X9_site σ a0 a1 a2 = some (r, σ')) : MetX l yX9_site cX9_site 3 none 6 82 D dA bs [va_rf a0, .int a1, .int a2] (h_rV r) σ σ' := by
  refine MetX.of (by decide) (h_avR (h_avI (h_avI h_av0))) (Nat.le_of_ble_eq_true rfl) ?_
  intro p e R s m args below meth c C B hE hno
  unfold f_X9_site at h
  refine V_sub (lv' := [(0, va_rf a0), (1, .int a1), (2, .int a2)]) [0, 1, 2] rfl ?_
  refine V_iload_n C 1 dX9_site_0 rfl rfl ?_
  refine V_if_lt (tgt := 19) C dX9_site_1 (by decide) (fun c1 => ?_) (fun c1 => ?_)
  · rw [if_pos c1] at h
    obtain ⟨m2, e8, e9⟩ := h_thr_some h
    subst e8; subst e9
    exact V_throw C B hl hE hno (k := 1) (by decide) xl_1 xi_1 xg_1 xb_1 xo_1 xt_92 dX9_site_19 dX9_site_22 dX9_site_23 dX9_site_25 dX9_site_28 (h_fr B (by decide)) (h_lo B (by decide)) m2
  · rw [if_neg c1] at h
    refine V_iload_n C 1 dX9_site_4 rfl rfl ?_
    refine V_bipush (v := 8) C dX9_site_5 (by decide) ?_
    refine V_icmp_ge (tgt := 19) C dX9_site_7 (by decide) (fun c3 => ?_) (fun c3 => ?_)
    · rw [if_pos c3] at h
      obtain ⟨m4, e8, e9⟩ := h_thr_some h
      subst e8; subst e9
      exact V_throw C B hl hE hno (k := 1) (by decide) xl_1 xi_1 xg_1 xb_1 xo_1 xt_92 dX9_site_19 dX9_site_22 dX9_site_23 dX9_site_25 dX9_site_28 (h_fr B (by decide)) (h_lo B (by decide)) m4
    · rw [if_neg c3] at h
      refine V_aload_n C 0 dX9_site_10 rfl rfl ?_
      obtain ⟨x5, e6, h⟩ := h_b1_some h
      refine V_getR C fl_RX9_18 dX9_site_11 e6 ?_
      refine V_iload_n C 1 dX9_site_14 rfl rfl ?_
      obtain ⟨x7, e8, h⟩ := h_b1_some h
      refine V_aald C h_at108 dX9_site_15 e8 ?_
      refine V_ifnull (tgt := 29) C dX9_site_16 (by decide) (fun c9 => ?_) (fun c9 => ?_)
      · rw [if_pos c9] at h
        refine V_iload_n C 2 dX9_site_29 rfl rfl ?_
        obtain ⟨r10, s11, e12, h⟩ := h_bd_some h
        refine V_cS (As := [.int a2]) (rest := []) C ms_RX9_94 (m_X9_isPlace l D dA bs e12) rfl rfl (Nat.le_trans h_w0 (by decide)) (h_fr B (by decide)) (h_lo B (by decide)) dX9_site_30 ?_
        refine V_if_eq (tgt := 45) C dX9_site_33 (by decide) (fun c13 => ?_) (fun c13 => ?_)
        · rw [if_pos c13] at h
          obtain ⟨m14, e8, e9⟩ := h_thr_some h
          subst e8; subst e9
          exact V_throw C B hl hE hno (k := 1) (by decide) xl_1 xi_1 xg_1 xb_1 xo_1 xt_102 dX9_site_45 dX9_site_48 dX9_site_49 dX9_site_51 dX9_site_54 (h_fr B (by decide)) (h_lo B (by decide)) m14
        · rw [if_neg c13] at h
          refine V_aload_n C 0 dX9_site_36 rfl rfl ?_
          refine V_iload_n C 2 dX9_site_37 rfl rfl ?_
          obtain ⟨y18, e19, h⟩ := h_b1_some h
          obtain ⟨r15, s16, e17, h⟩ := h_bd_some h
          refine V_cV (As := [.int a2]) (rest := []) C mv_RX9_98 (m_X9_hostOf l D dA bs e17) e19 rfl rfl (Nat.le_trans h_w0 (by decide)) (h_fr B (by decide)) (h_lo B (by decide)) dX9_site_38 ?_
          refine V_iconst (v := (-1)) C dX9_site_41 (by decide) ?_
          refine V_icmp_eq (tgt := 55) C dX9_site_42 (by decide) (fun c20 => ?_) (fun c20 => ?_)
          · rw [if_pos c20] at h
            refine V_aload_n C 0 dX9_site_55 rfl rfl ?_
            obtain ⟨x21, e22, h⟩ := h_b1_some h
            refine V_getR C fl_RX9_18 dX9_site_56 e22 ?_
            refine V_iload_n C 1 dX9_site_59 rfl rfl ?_
            obtain ⟨x23, s24, e25, h⟩ := h_bd_some h
            refine V_new C hcl_7 lk_RX9_16 dX9_site_60 e25 ?_
            refine V_dupR C dX9_site_63 ?_
            refine V_iload_n C 2 dX9_site_64 rfl rfl ?_
            obtain ⟨y29, e30, h⟩ := h_b1_some h
            obtain ⟨r26, s27, e28, h⟩ := h_bd_some h
            refine V_cI (As := [.int a2]) (rest := [va_rf x23, .int a1, va_rf x21]) C mi_RX9_104 (m_X7_init l D dA bs e28) e30 rfl rfl (Nat.le_trans (h_wR (h_wI (h_wR h_w0))) (by decide)) (h_fr B (by decide)) (h_lo B (by decide)) dX9_site_65 ?_
            obtain ⟨s31, e32, h⟩ := h_b1_some h
            refine V_aast C h_at108 dX9_site_68 e32 ?_
            cases h
            exact V_xret (V_vret C B dX9_site_69)
          · rw [if_neg c20] at h
            obtain ⟨m33, e8, e9⟩ := h_thr_some h
            subst e8; subst e9
            exact V_throw C B hl hE hno (k := 1) (by decide) xl_1 xi_1 xg_1 xb_1 xo_1 xt_102 dX9_site_45 dX9_site_48 dX9_site_49 dX9_site_51 dX9_site_54 (h_fr B (by decide)) (h_lo B (by decide)) m33
      · rw [if_neg c9] at h
        obtain ⟨m34, e8, e9⟩ := h_thr_some h
        subst e8; subst e9
        exact V_throw C B hl hE hno (k := 1) (by decide) xl_1 xi_1 xg_1 xb_1 xo_1 xt_92 dX9_site_19 dX9_site_22 dX9_site_23 dX9_site_25 dX9_site_28 (h_fr B (by decide)) (h_lo B (by decide)) m34
/-! X9_prefix -/
theorem dX9_prefix_0 : decode cX9_prefix 0 = .ok (.aload_n 0, 1) := by decide +kernel
theorem dX9_prefix_1 : decode cX9_prefix 1 = .ok (.iload_n 1, 1) := by decide +kernel
theorem dX9_prefix_2 : decode cX9_prefix 2 = .ok (.invokevirtual 107, 3) := by decide +kernel
theorem dX9_prefix_5 : decode cX9_prefix 5 = .ok (.astore 4, 2) := by decide +kernel
theorem dX9_prefix_7 : decode cX9_prefix 7 = .ok (.aload 4, 2) := by decide +kernel
theorem dX9_prefix_9 : decode cX9_prefix 9 = .ok (.ifnull 11, 3) := by decide +kernel
theorem dX9_prefix_12 : decode cX9_prefix 12 = .ok (.aload 4, 2) := by decide +kernel
theorem dX9_prefix_14 : decode cX9_prefix 14 = .ok (.invokevirtual 111, 3) := by decide +kernel
theorem dX9_prefix_17 : decode cX9_prefix 17 = .ok (.ifCond .eq 13, 3) := by decide +kernel
theorem dX9_prefix_20 : decode cX9_prefix 20 = .ok (.new 56, 3) := by decide +kernel
theorem dX9_prefix_23 : decode cX9_prefix 23 = .ok (.dup, 1) := by decide +kernel
theorem dX9_prefix_24 : decode cX9_prefix 24 = .ok (.ldc 115, 2) := by decide +kernel
theorem dX9_prefix_26 : decode cX9_prefix 26 = .ok (.invokespecial 60, 3) := by decide +kernel
theorem dX9_prefix_29 : decode cX9_prefix 29 = .ok (.athrow, 1) := by decide +kernel
theorem dX9_prefix_30 : decode cX9_prefix 30 = .ok (.iload_n 2, 1) := by decide +kernel
theorem dX9_prefix_31 : decode cX9_prefix 31 = .ok (.iload_n 3, 1) := by decide +kernel
theorem dX9_prefix_32 : decode cX9_prefix 32 = .ok (.invokestatic 63, 3) := by decide +kernel
theorem dX9_prefix_35 : decode cX9_prefix 35 = .ok (.astore 5, 2) := by decide +kernel
theorem dX9_prefix_37 : decode cX9_prefix 37 = .ok (.aload 5, 2) := by decide +kernel
theorem dX9_prefix_39 : decode cX9_prefix 39 = .ok (.ifnull 24, 3) := by decide +kernel
theorem dX9_prefix_42 : decode cX9_prefix 42 = .ok (.aload_n 0, 1) := by decide +kernel
theorem dX9_prefix_43 : decode cX9_prefix 43 = .ok (.getfield 10, 3) := by decide +kernel
theorem dX9_prefix_46 : decode cX9_prefix 46 = .ok (.aload 5, 2) := by decide +kernel
theorem dX9_prefix_48 : decode cX9_prefix 48 = .ok (.invokevirtual 117, 3) := by decide +kernel
theorem dX9_prefix_51 : decode cX9_prefix 51 = .ok (.ifnull 12, 3) := by decide +kernel
theorem dX9_prefix_54 : decode cX9_prefix 54 = .ok (.aload_n 0, 1) := by decide +kernel
theorem dX9_prefix_55 : decode cX9_prefix 55 = .ok (.aload 5, 2) := by decide +kernel
theorem dX9_prefix_57 : decode cX9_prefix 57 = .ok (.invokevirtual 121, 3) := by decide +kernel
theorem dX9_prefix_60 : decode cX9_prefix 60 = .ok (.ifCond .eq 13, 3) := by decide +kernel
theorem dX9_prefix_63 : decode cX9_prefix 63 = .ok (.new 56, 3) := by decide +kernel
theorem dX9_prefix_66 : decode cX9_prefix 66 = .ok (.dup, 1) := by decide +kernel
theorem dX9_prefix_67 : decode cX9_prefix 67 = .ok (.ldc 124, 2) := by decide +kernel
theorem dX9_prefix_69 : decode cX9_prefix 69 = .ok (.invokespecial 60, 3) := by decide +kernel
theorem dX9_prefix_72 : decode cX9_prefix 72 = .ok (.athrow, 1) := by decide +kernel
theorem dX9_prefix_73 : decode cX9_prefix 73 = .ok (.aload 4, 2) := by decide +kernel
theorem dX9_prefix_75 : decode cX9_prefix 75 = .ok (.aload 5, 2) := by decide +kernel
theorem dX9_prefix_77 : decode cX9_prefix 77 = .ok (.invokevirtual 126, 3) := by decide +kernel
theorem dX9_prefix_80 : decode cX9_prefix 80 = .ok (.ireturn, 1) := by decide +kernel
def f_X9_prefix (σ : HS) (a0 : Option Nat) (a1 : Int32) (a2 : Int32) (a3 : Int32) : Option (Except Nat Int32 × HS) :=
  h_b1 (h_rcv σ a0 10) fun y4 =>
  h_bd (f_X9_siteAt σ a0 a1) fun r1 s2 =>
  if r1 = none then
    h_thr 1 s2
  else
    h_b1 (h_rcv s2 r1 8) fun y11 =>
    h_bd (f_X7_isFull s2 r1) fun r8 s9 =>
    if r8 = 0 then
      h_bd (f_X4_of s9 a2 a3) fun r14 s15 =>
      if r14 = none then
        h_thr 1 s15
      else
        h_b1 (h_gR s15 a0 10 0) fun x19 =>
        h_b1 (h_rcv s15 x19 9) fun y24 =>
        h_bd (f_X8_ownerOf s15 x19 r14) fun r21 s22 =>
        if r21 = none then
          h_thr 1 s22
        else
          h_b1 (h_rcv s22 a0 10) fun y31 =>
          h_bd (f_X9_isHeld s22 a0 r14) fun r28 s29 =>
          if r28 = 0 then
            h_b1 (h_rcv s29 r1 8) fun y37 =>
            h_bd (f_X7_add s29 r1 r14) fun r34 s35 =>
            some (.ok r34, s35)
          else
            h_thr 1 s29
    else
      h_thr 1 s9
set_option maxHeartbeats 4000000 in
set_option maxRecDepth 100000 in
theorem m_X9_prefix (l : Launch) (hl : l.stackTraces = false) (D : va_G) (dA : Nat → ClassId) (bs : Nat) {σ σ' : HS} {a0 : Option Nat} {a1 : Int32} {a2 : Int32} {a3 : Int32} {r : Except Nat Int32} (h : f_X9_prefix σ a0 a1 a2 a3 = some (r, σ')) : MetX l yX9_prefix cX9_prefix 6 (some .int) 6 107 D dA bs [va_rf a0, .int a1, .int a2, .int a3] (h_rI r) σ σ' := by
  refine MetX.of (by decide) (h_avR (h_avI (h_avI (h_avI h_av0)))) (Nat.le_of_ble_eq_true rfl) ?_
  intro p e R s m args below meth c C B hE hno
  unfold f_X9_prefix at h
  refine V_sub (lv' := [(0, va_rf a0), (1, .int a1), (2, .int a2), (3, .int a3)]) [0, 1, 2, 3] rfl ?_
  refine V_aload_n C 0 dX9_prefix_0 rfl rfl ?_
  refine V_iload_n C 1 dX9_prefix_1 rfl rfl ?_
  obtain ⟨y4, e5, h⟩ := h_b1_some h
  obtain ⟨r1, s2, e3, h⟩ := h_bd_some h
  refine V_cV (As := [.int a1]) (rest := []) C mv_RX9_107 (m_X9_siteAt l D dA bs e3) e5 rfl rfl (Nat.le_trans h_w0 (by decide)) (h_fr B (by decide)) (h_lo B (by decide)) dX9_prefix_2 ?_
  refine V_astore (lv' := [(4, va_rf r1), (0, va_rf a0), (1, .int a1), (2, .int a2), (3, .int a3)]) C dX9_prefix_5 (by decide) rfl ?_
  refine V_aload C 0 dX9_prefix_7 rfl ?_
  refine V_ifnull (tgt := 20) C dX9_prefix_9 (by decide) (fun c6 => ?_) (fun c6 => ?_)
  · rw [if_pos c6] at h
    obtain ⟨m7, e8, e9⟩ := h_thr_some h
    subst e8; subst e9
    exact V_throw C B hl hE hno (k := 1) (by decide) xl_1 xi_1 xg_1 xb_1 xo_1 xt_115 dX9_prefix_20 dX9_prefix_23 dX9_prefix_24 dX9_prefix_26 dX9_prefix_29 (h_fr B (by decide)) (h_lo B (by decide)) m7
  · rw [if_neg c6] at h
    refine V_aload C 0 dX9_prefix_12 rfl ?_
    obtain ⟨y11, e12, h⟩ := h_b1_some h
    obtain ⟨r8, s9, e10, h⟩ := h_bd_some h
    refine V_cV (As := []) (rest := []) C mv_RX9_111 (m_X7_isFull l D dA bs e10) e12 rfl rfl (Nat.le_trans h_w0 (by decide)) (h_fr B (by decide)) (h_lo B (by decide)) dX9_prefix_14 ?_
    refine V_if_eq (tgt := 30) C dX9_prefix_17 (by decide) (fun c13 => ?_) (fun c13 => ?_)
    · rw [if_pos c13] at h
      refine V_iload_n C 3 dX9_prefix_30 rfl rfl ?_
      refine V_iload_n C 4 dX9_prefix_31 rfl rfl ?_
      obtain ⟨r14, s15, e16, h⟩ := h_bd_some h
      refine V_cS (As := [.int a2, .int a3]) (rest := []) C ms_RX9_63 (m_X4_of l D dA bs e16) rfl rfl (Nat.le_trans h_w0 (by decide)) (h_fr B (by decide)) (h_lo B (by decide)) dX9_prefix_32 ?_
      refine V_astore (lv' := [(5, va_rf r14), (4, va_rf r1), (0, va_rf a0), (1, .int a1), (2, .int a2), (3, .int a3)]) C dX9_prefix_35 (by decide) rfl ?_
      refine V_aload C 0 dX9_prefix_37 rfl ?_
      refine V_ifnull (tgt := 63) C dX9_prefix_39 (by decide) (fun c17 => ?_) (fun c17 => ?_)
      · rw [if_pos c17] at h
        obtain ⟨m18, e8, e9⟩ := h_thr_some h
        subst e8; subst e9
        exact V_throw C B hl hE hno (k := 1) (by decide) xl_1 xi_1 xg_1 xb_1 xo_1 xt_124 dX9_prefix_63 dX9_prefix_66 dX9_prefix_67 dX9_prefix_69 dX9_prefix_72 (h_fr B (by decide)) (h_lo B (by decide)) m18
      · rw [if_neg c17] at h
        refine V_aload_n C 2 dX9_prefix_42 rfl rfl ?_
        obtain ⟨x19, e20, h⟩ := h_b1_some h
        refine V_getR C fl_RX9_10 dX9_prefix_43 e20 ?_
        refine V_aload C 0 dX9_prefix_46 rfl ?_
        obtain ⟨y24, e25, h⟩ := h_b1_some h
        obtain ⟨r21, s22, e23, h⟩ := h_bd_some h
        refine V_cV (As := [va_rf r14]) (rest := []) C mv_RX9_117 (m_X8_ownerOf l D dA bs e23) e25 rfl rfl (Nat.le_trans h_w0 (by decide)) (h_fr B (by decide)) (h_lo B (by decide)) dX9_prefix_48 ?_
        refine V_ifnull (tgt := 63) C dX9_prefix_51 (by decide) (fun c26 => ?_) (fun c26 => ?_)
        · rw [if_pos c26] at h
          obtain ⟨m27, e8, e9⟩ := h_thr_some h
          subst e8; subst e9
          exact V_throw C B hl hE hno (k := 1) (by decide) xl_1 xi_1 xg_1 xb_1 xo_1 xt_124 dX9_prefix_63 dX9_prefix_66 dX9_prefix_67 dX9_prefix_69 dX9_prefix_72 (h_fr B (by decide)) (h_lo B (by decide)) m27
        · rw [if_neg c26] at h
          refine V_aload_n C 2 dX9_prefix_54 rfl rfl ?_
          refine V_aload C 0 dX9_prefix_55 rfl ?_
          obtain ⟨y31, e32, h⟩ := h_b1_some h
          obtain ⟨r28, s29, e30, h⟩ := h_bd_some h
          refine V_cV (As := [va_rf r14]) (rest := []) C mv_RX9_121 (m_X9_isHeld l D dA bs e30) e32 rfl rfl (Nat.le_trans h_w0 (by decide)) (h_fr B (by decide)) (h_lo B (by decide)) dX9_prefix_57 ?_
          refine V_if_eq (tgt := 73) C dX9_prefix_60 (by decide) (fun c33 => ?_) (fun c33 => ?_)
          · rw [if_pos c33] at h
            refine V_aload C 1 dX9_prefix_73 rfl ?_
            refine V_aload C 0 dX9_prefix_75 rfl ?_
            obtain ⟨y37, e38, h⟩ := h_b1_some h
            obtain ⟨r34, s35, e36, h⟩ := h_bd_some h
            refine V_cV (As := [va_rf r14]) (rest := []) C mv_RX9_126 (m_X7_add l D dA bs e36) e38 rfl rfl (Nat.le_trans h_w0 (by decide)) (h_fr B (by decide)) (h_lo B (by decide)) dX9_prefix_77 ?_
            cases h
            exact V_xret (V_iret C B dX9_prefix_80)
          · rw [if_neg c33] at h
            obtain ⟨m39, e8, e9⟩ := h_thr_some h
            subst e8; subst e9
            exact V_throw C B hl hE hno (k := 1) (by decide) xl_1 xi_1 xg_1 xb_1 xo_1 xt_124 dX9_prefix_63 dX9_prefix_66 dX9_prefix_67 dX9_prefix_69 dX9_prefix_72 (h_fr B (by decide)) (h_lo B (by decide)) m39
    · rw [if_neg c13] at h
      obtain ⟨m40, e8, e9⟩ := h_thr_some h
      subst e8; subst e9
      exact V_throw C B hl hE hno (k := 1) (by decide) xl_1 xi_1 xg_1 xb_1 xo_1 xt_115 dX9_prefix_20 dX9_prefix_23 dX9_prefix_24 dX9_prefix_26 dX9_prefix_29 (h_fr B (by decide)) (h_lo B (by decide)) m40
/-! X9_move -/
theorem dX9_move_0 : decode cX9_move 0 = .ok (.aload_n 0, 1) := by decide +kernel
theorem dX9_move_1 : decode cX9_move 1 = .ok (.iload_n 1, 1) := by decide +kernel
theorem dX9_move_2 : decode cX9_move 2 = .ok (.invokevirtual 107, 3) := by decide +kernel
theorem dX9_move_5 : decode cX9_move 5 = .ok (.astore_n 3, 1) := by decide +kernel
theorem dX9_move_6 : decode cX9_move 6 = .ok (.aload_n 3, 1) := by decide +kernel
theorem dX9_move_7 : decode cX9_move 7 = .ok (.ifnull 19, 3) := by decide +kernel
theorem dX9_move_10 : decode cX9_move 10 = .ok (.iload_n 2, 1) := by decide +kernel
theorem dX9_move_11 : decode cX9_move 11 = .ok (.invokestatic 94, 3) := by decide +kernel
theorem dX9_move_14 : decode cX9_move 14 = .ok (.ifCond .eq 12, 3) := by decide +kernel
theorem dX9_move_17 : decode cX9_move 17 = .ok (.aload_n 0, 1) := by decide +kernel
theorem dX9_move_18 : decode cX9_move 18 = .ok (.iload_n 2, 1) := by decide +kernel
theorem dX9_move_19 : decode cX9_move 19 = .ok (.invokevirtual 98, 3) := by decide +kernel
theorem dX9_move_22 : decode cX9_move 22 = .ok (.iconst (-1), 1) := by decide +kernel
theorem dX9_move_23 : decode cX9_move 23 = .ok (.if_icmp .eq 13, 3) := by decide +kernel
theorem dX9_move_26 : decode cX9_move 26 = .ok (.new 56, 3) := by decide +kernel
theorem dX9_move_29 : decode cX9_move 29 = .ok (.dup, 1) := by decide +kernel
theorem dX9_move_30 : decode cX9_move 30 = .ok (.ldc 130, 2) := by decide +kernel
theorem dX9_move_32 : decode cX9_move 32 = .ok (.invokespecial 60, 3) := by decide +kernel
theorem dX9_move_35 : decode cX9_move 35 = .ok (.athrow, 1) := by decide +kernel
theorem dX9_move_36 : decode cX9_move 36 = .ok (.aload_n 0, 1) := by decide +kernel
theorem dX9_move_37 : decode cX9_move 37 = .ok (.getfield 22, 3) := by decide +kernel
theorem dX9_move_40 : decode cX9_move 40 = .ok (.aload_n 3, 1) := by decide +kernel
theorem dX9_move_41 : decode cX9_move 41 = .ok (.getfield 132, 3) := by decide +kernel
theorem dX9_move_44 : decode cX9_move 44 = .ok (.iload_n 1, 1) := by decide +kernel
theorem dX9_move_45 : decode cX9_move 45 = .ok (.iastore, 1) := by decide +kernel
theorem dX9_move_46 : decode cX9_move 46 = .ok (.aload_n 0, 1) := by decide +kernel
theorem dX9_move_47 : decode cX9_move 47 = .ok (.getfield 26, 3) := by decide +kernel
theorem dX9_move_50 : decode cX9_move 50 = .ok (.aload_n 3, 1) := by decide +kernel
theorem dX9_move_51 : decode cX9_move 51 = .ok (.getfield 132, 3) := by decide +kernel
theorem dX9_move_54 : decode cX9_move 54 = .ok (.aload_n 0, 1) := by decide +kernel
theorem dX9_move_55 : decode cX9_move 55 = .ok (.getfield 135, 3) := by decide +kernel
theorem dX9_move_58 : decode cX9_move 58 = .ok (.iastore, 1) := by decide +kernel
theorem dX9_move_59 : decode cX9_move 59 = .ok (.aload_n 3, 1) := by decide +kernel
theorem dX9_move_60 : decode cX9_move 60 = .ok (.iload_n 2, 1) := by decide +kernel
theorem dX9_move_61 : decode cX9_move 61 = .ok (.putfield 132, 3) := by decide +kernel
theorem dX9_move_64 : decode cX9_move 64 = .ok (.return_, 1) := by decide +kernel
def f_X9_move (σ : HS) (a0 : Option Nat) (a1 : Int32) (a2 : Int32) : Option (Except Nat Unit × HS) :=
  h_b1 (h_rcv σ a0 10) fun y4 =>
  h_bd (f_X9_siteAt σ a0 a1) fun r1 s2 =>
  if r1 = none then
    h_thr 1 s2
  else
    h_bd (f_X9_isPlace s2 a2) fun r8 s9 =>
    if r8 = 0 then
      h_thr 1 s9
    else
      h_b1 (h_rcv s9 a0 10) fun y16 =>
      h_bd (f_X9_hostOf s9 a0 a2) fun r13 s14 =>
      if r13 = (-1) then
        h_b1 (h_gR s14 a0 10 2) fun x19 =>
        h_b1 (h_gI s14 r1 8 0) fun x21 =>
        h_b1 (h_sI s14 x19 100 x21 a1) fun s23 =>
        h_b1 (h_gR s23 a0 10 3) fun x25 =>
        h_b1 (h_gI s23 r1 8 0) fun x27 =>
        h_b1 (h_gI s23 a0 10 9) fun x29 =>
        h_b1 (h_sI s23 x25 100 x27 x29) fun s31 =>
        h_b1 (h_pI s31 r1 8 0 a2) fun s33 =>
        some (.ok (), s33)
      else
        h_thr 1 s14
set_option maxHeartbeats 4000000 in
set_option maxRecDepth 100000 in
theorem m_X9_move (l : Launch) (hl : l.stackTraces = false) (D : va_G) (dA : Nat → ClassId) (bs : Nat) {σ σ' : HS} {a0 : Option Nat} {a1 : Int32} {a2 : Int32} {r : Except Nat Unit} (h : f_X9_move σ a0 a1 a2 = some (r, σ')) : MetX l yX9_move cX9_move 4 none 6 82 D dA bs [va_rf a0, .int a1, .int a2] (h_rV r) σ σ' := by
  refine MetX.of (by decide) (h_avR (h_avI (h_avI h_av0))) (Nat.le_of_ble_eq_true rfl) ?_
  intro p e R s m args below meth c C B hE hno
  unfold f_X9_move at h
  refine V_sub (lv' := [(0, va_rf a0), (1, .int a1), (2, .int a2)]) [0, 1, 2] rfl ?_
  refine V_aload_n C 0 dX9_move_0 rfl rfl ?_
  refine V_iload_n C 1 dX9_move_1 rfl rfl ?_
  obtain ⟨y4, e5, h⟩ := h_b1_some h
  obtain ⟨r1, s2, e3, h⟩ := h_bd_some h
  refine V_cV (As := [.int a1]) (rest := []) C mv_RX9_107 (m_X9_siteAt l D dA bs e3) e5 rfl rfl (Nat.le_trans h_w0 (by decide)) (h_fr B (by decide)) (h_lo B (by decide)) dX9_move_2 ?_
  refine V_astore_n (lv' := [(3, va_rf r1), (0, va_rf a0), (1, .int a1), (2, .int a2)]) C dX9_move_5 rfl (by decide) rfl ?_
  refine V_aload_n C 0 dX9_move_6 rfl rfl ?_
  refine V_ifnull (tgt := 26) C dX9_move_7 (by decide) (fun c6 => ?_) (fun c6 => ?_)
  · rw [if_pos c6] at h
    obtain ⟨m7, e8, e9⟩ := h_thr_some h
    subst e8; subst e9
    exact V_throw C B hl hE hno (k := 1) (by decide) xl_1 xi_1 xg_1 xb_1 xo_1 xt_130 dX9_move_26 dX9_move_29 dX9_move_30 dX9_move_32 dX9_move_35 (h_fr B (by decide)) (h_lo B (by decide)) m7
  · rw [if_neg c6] at h
    refine V_iload_n C 3 dX9_move_10 rfl rfl ?_
    obtain ⟨r8, s9, e10, h⟩ := h_bd_some h
    refine V_cS (As := [.int a2]) (rest := []) C ms_RX9_94 (m_X9_isPlace l D dA bs e10) rfl rfl (Nat.le_trans h_w0 (by decide)) (h_fr B (by decide)) (h_lo B (by decide)) dX9_move_11 ?_
    refine V_if_eq (tgt := 26) C dX9_move_14 (by decide) (fun c11 => ?_) (fun c11 => ?_)
    · rw [if_pos c11] at h
      obtain ⟨m12, e8, e9⟩ := h_thr_some h
      subst e8; subst e9
      exact V_throw C B hl hE hno (k := 1) (by decide) xl_1 xi_1 xg_1 xb_1 xo_1 xt_130 dX9_move_26 dX9_move_29 dX9_move_30 dX9_move_32 dX9_move_35 (h_fr B (by decide)) (h_lo B (by decide)) m12
    · rw [if_neg c11] at h
      refine V_aload_n C 1 dX9_move_17 rfl rfl ?_
      refine V_iload_n C 3 dX9_move_18 rfl rfl ?_
      obtain ⟨y16, e17, h⟩ := h_b1_some h
      obtain ⟨r13, s14, e15, h⟩ := h_bd_some h
      refine V_cV (As := [.int a2]) (rest := []) C mv_RX9_98 (m_X9_hostOf l D dA bs e15) e17 rfl rfl (Nat.le_trans h_w0 (by decide)) (h_fr B (by decide)) (h_lo B (by decide)) dX9_move_19 ?_
      refine V_iconst (v := (-1)) C dX9_move_22 (by decide) ?_
      refine V_icmp_eq (tgt := 36) C dX9_move_23 (by decide) (fun c18 => ?_) (fun c18 => ?_)
      · rw [if_pos c18] at h
        refine V_aload_n C 1 dX9_move_36 rfl rfl ?_
        obtain ⟨x19, e20, h⟩ := h_b1_some h
        refine V_getR C fl_RX9_22 dX9_move_37 e20 ?_
        refine V_aload_n C 0 dX9_move_40 rfl rfl ?_
        obtain ⟨x21, e22, h⟩ := h_b1_some h
        refine V_getI C fl_RX9_132 dX9_move_41 e22 ?_
        refine V_iload_n C 2 dX9_move_44 rfl rfl ?_
        obtain ⟨s23, e24, h⟩ := h_b1_some h
        refine V_iast C dX9_move_45 e24 ?_
        refine V_aload_n C 1 dX9_move_46 rfl rfl ?_
        obtain ⟨x25, e26, h⟩ := h_b1_some h
        refine V_getR C fl_RX9_26 dX9_move_47 e26 ?_
        refine V_aload_n C 0 dX9_move_50 rfl rfl ?_
        obtain ⟨x27, e28, h⟩ := h_b1_some h
        refine V_getI C fl_RX9_132 dX9_move_51 e28 ?_
        refine V_aload_n C 1 dX9_move_54 rfl rfl ?_
        obtain ⟨x29, e30, h⟩ := h_b1_some h
        refine V_getI C fl_RX9_135 dX9_move_55 e30 ?_
        obtain ⟨s31, e32, h⟩ := h_b1_some h
        refine V_iast C dX9_move_58 e32 ?_
        refine V_aload_n C 0 dX9_move_59 rfl rfl ?_
        refine V_iload_n C 3 dX9_move_60 rfl rfl ?_
        obtain ⟨s33, e34, h⟩ := h_b1_some h
        refine V_putI C fw_RX9_132 dX9_move_61 e34 ?_
        cases h
        exact V_xret (V_vret C B dX9_move_64)
      · rw [if_neg c18] at h
        obtain ⟨m35, e8, e9⟩ := h_thr_some h
        subst e8; subst e9
        exact V_throw C B hl hE hno (k := 1) (by decide) xl_1 xi_1 xg_1 xb_1 xo_1 xt_130 dX9_move_26 dX9_move_29 dX9_move_30 dX9_move_32 dX9_move_35 (h_fr B (by decide)) (h_lo B (by decide)) m35
/-! X9_register -/
theorem dX9_register_0 : decode cX9_register 0 = .ok (.aload_n 0, 1) := by decide +kernel
theorem dX9_register_1 : decode cX9_register 1 = .ok (.iload_n 1, 1) := by decide +kernel
theorem dX9_register_2 : decode cX9_register 2 = .ok (.invokevirtual 107, 3) := by decide +kernel
theorem dX9_register_5 : decode cX9_register 5 = .ok (.astore_n 2, 1) := by decide +kernel
theorem dX9_register_6 : decode cX9_register 6 = .ok (.aload_n 2, 1) := by decide +kernel
theorem dX9_register_7 : decode cX9_register 7 = .ok (.ifnonnull 13, 3) := by decide +kernel
theorem dX9_register_10 : decode cX9_register 10 = .ok (.new 56, 3) := by decide +kernel
theorem dX9_register_13 : decode cX9_register 13 = .ok (.dup, 1) := by decide +kernel
theorem dX9_register_14 : decode cX9_register 14 = .ok (.ldc 138, 2) := by decide +kernel
theorem dX9_register_16 : decode cX9_register 16 = .ok (.invokespecial 60, 3) := by decide +kernel
theorem dX9_register_19 : decode cX9_register 19 = .ok (.athrow, 1) := by decide +kernel
theorem dX9_register_20 : decode cX9_register 20 = .ok (.iconst 0, 1) := by decide +kernel
theorem dX9_register_21 : decode cX9_register 21 = .ok (.istore_n 3, 1) := by decide +kernel
theorem dX9_register_22 : decode cX9_register 22 = .ok (.iconst 0, 1) := by decide +kernel
theorem dX9_register_23 : decode cX9_register 23 = .ok (.istore 4, 2) := by decide +kernel
theorem dX9_register_25 : decode cX9_register 25 = .ok (.iload 4, 2) := by decide +kernel
theorem dX9_register_27 : decode cX9_register 27 = .ok (.aload_n 2, 1) := by decide +kernel
theorem dX9_register_28 : decode cX9_register 28 = .ok (.getfield 140, 3) := by decide +kernel
theorem dX9_register_31 : decode cX9_register 31 = .ok (.if_icmp .ge 68, 3) := by decide +kernel
theorem dX9_register_34 : decode cX9_register 34 = .ok (.aload_n 0, 1) := by decide +kernel
theorem dX9_register_35 : decode cX9_register 35 = .ok (.getfield 10, 3) := by decide +kernel
theorem dX9_register_38 : decode cX9_register 38 = .ok (.aload_n 2, 1) := by decide +kernel
theorem dX9_register_39 : decode cX9_register 39 = .ok (.getfield 143, 3) := by decide +kernel
theorem dX9_register_42 : decode cX9_register 42 = .ok (.iload 4, 2) := by decide +kernel
theorem dX9_register_44 : decode cX9_register 44 = .ok (.aaload, 1) := by decide +kernel
theorem dX9_register_45 : decode cX9_register 45 = .ok (.invokevirtual 117, 3) := by decide +kernel
theorem dX9_register_48 : decode cX9_register 48 = .ok (.astore 5, 2) := by decide +kernel
theorem dX9_register_50 : decode cX9_register 50 = .ok (.aload 5, 2) := by decide +kernel
theorem dX9_register_52 : decode cX9_register 52 = .ok (.ifnull 41, 3) := by decide +kernel
theorem dX9_register_55 : decode cX9_register 55 = .ok (.aload_n 2, 1) := by decide +kernel
theorem dX9_register_56 : decode cX9_register 56 = .ok (.dup, 1) := by decide +kernel
theorem dX9_register_57 : decode cX9_register 57 = .ok (.getfield 147, 3) := by decide +kernel
theorem dX9_register_60 : decode cX9_register 60 = .ok (.iconst 1, 1) := by decide +kernel
theorem dX9_register_61 : decode cX9_register 61 = .ok (.iadd, 1) := by decide +kernel
theorem dX9_register_62 : decode cX9_register 62 = .ok (.putfield 147, 3) := by decide +kernel
theorem dX9_register_65 : decode cX9_register 65 = .ok (.aload_n 0, 1) := by decide +kernel
theorem dX9_register_66 : decode cX9_register 66 = .ok (.aload 5, 2) := by decide +kernel
theorem dX9_register_68 : decode cX9_register 68 = .ok (.getfield 150, 3) := by decide +kernel
theorem dX9_register_71 : decode cX9_register 71 = .ok (.iload_n 1, 1) := by decide +kernel
theorem dX9_register_72 : decode cX9_register 72 = .ok (.aload_n 2, 1) := by decide +kernel
theorem dX9_register_73 : decode cX9_register 73 = .ok (.getfield 143, 3) := by decide +kernel
theorem dX9_register_76 : decode cX9_register 76 = .ok (.iload 4, 2) := by decide +kernel
theorem dX9_register_78 : decode cX9_register 78 = .ok (.aaload, 1) := by decide +kernel
theorem dX9_register_79 : decode cX9_register 79 = .ok (.aload_n 2, 1) := by decide +kernel
theorem dX9_register_80 : decode cX9_register 80 = .ok (.getfield 132, 3) := by decide +kernel
theorem dX9_register_83 : decode cX9_register 83 = .ok (.aload_n 2, 1) := by decide +kernel
theorem dX9_register_84 : decode cX9_register 84 = .ok (.getfield 147, 3) := by decide +kernel
theorem dX9_register_87 : decode cX9_register 87 = .ok (.invokevirtual 153, 3) := by decide +kernel
theorem dX9_register_90 : decode cX9_register 90 = .ok (.iinc 3 1, 3) := by decide +kernel
theorem dX9_register_93 : decode cX9_register 93 = .ok (.iinc 4 1, 3) := by decide +kernel
theorem dX9_register_96 : decode cX9_register 96 = .ok (.goto (-71), 3) := by decide +kernel
theorem dX9_register_99 : decode cX9_register 99 = .ok (.iload_n 3, 1) := by decide +kernel
theorem dX9_register_100 : decode cX9_register 100 = .ok (.ireturn, 1) := by decide +kernel
def g_X9_register_25 : Nat → HS → Option Nat → Int32 → Option Nat → Int32 → Int32 → Option (Except Nat Int32 × HS)
  | 0, _, _, _, _, _, _ => none
  | n + 1, σ, l0, l1, l2, l3, l4 =>
    h_b1 (h_gI σ l2 8 3) fun x7 =>
    if x7 ≤ l4 then
      some (.ok l3, σ)
    else
      h_b1 (h_gR σ l0 10 0) fun x10 =>
      h_b1 (h_gR σ l2 8 2) fun x12 =>
      h_b1 (h_aR σ x12 106 l4) fun x14 =>
      h_b1 (h_rcv σ x10 9) fun y19 =>
      h_bd (f_X8_ownerOf σ x10 x14) fun r16 s17 =>
      if r16 = none then
        g_X9_register_25 n s17 l0 l1 l2 l3 (l4 + 1)
      else
        h_b1 (h_gI s17 l2 8 1) fun x22 =>
        h_b1 (h_pI s17 l2 8 1 (x22 + 1)) fun s24 =>
        h_b1 (h_gI s24 r16 7 0) fun x26 =>
        h_b1 (h_gR s24 l2 8 2) fun x28 =>
        h_b1 (h_aR s24 x28 106 l4) fun x30 =>
        h_b1 (h_gI s24 l2 8 0) fun x32 =>
        h_b1 (h_gI s24 l2 8 1) fun x34 =>
        h_b1 (h_rcv s24 l0 10) fun y39 =>
        h_bd (f_X9_postRegister s24 l0 x26 l1 x30 x32 x34) fun _ s37 =>
        g_X9_register_25 n s37 l0 l1 l2 (l3 + 1) (l4 + 1)
def f_X9_register (σ : HS) (a0 : Option Nat) (a1 : Int32) : Option (Except Nat Int32 × HS) :=
  h_b1 (h_rcv σ a0 10) fun y4 =>
  h_bd (f_X9_siteAt σ a0 a1) fun r1 s2 =>
  if r1 = none then
    h_thr 1 s2
  else
    g_X9_register_25 h_hN s2 a0 a1 r1 0 0
set_option maxHeartbeats 4000000 in
set_option maxRecDepth 100000 in
theorem w_X9_register_25 {p : Program} {l : Launch} {e : Env} {R : Room} {s : State} {m : MethodId} {args : Array Value} {below : List Frame} {meth : Method} {c : Code} {D : va_G} {dA : Nat → ClassId} {bs : Nat} (C : h_C p m c cX9_register 6 s args RX9 D dA) {σ0 : HS} (B : h_B R s meth σ0 (some .int) 6 113) (hl : l.stackTraces = false) (hE : h_EX bs s) (hno : ∀ x ∈ c.exceptionTable.toList, False) {σ' : HS} {r : Except Nat Int32} : ∀ (n : Nat) (σ : HS) (l0 : Option Nat) (l1 : Int32) (l2 : Option Nat) (l3 : Int32) (l4 : Int32), g_X9_register_25 n σ l0 l1 l2 l3 l4 = some (r, σ') → V p l e R s m args below meth c D dA bs 6 (vx_MQ below (h_QX D dA bs (h_rI r) σ0 σ') (h_XC D dA bs (h_rI r) σ0 σ') args s R.cells R.slots (fun q => bs ≤ q)) σ 25 [(0, va_rf l0), (1, .int l1), (2, va_rf l2), (3, .int l3), (4, .int l4)] [] := by
  intro n
  induction n with
  | zero =>
    intro σ l0 l1 l2 l3 l4 h
    rw [g_X9_register_25] at h
    cases h
  | succ n ih =>
    intro σ l0 l1 l2 l3 l4 h
    rw [g_X9_register_25] at h
    refine V_iload C 4 dX9_register_25 rfl ?_
    refine V_aload_n C 2 dX9_register_27 rfl rfl ?_
    obtain ⟨x7, e8, h⟩ := h_b1_some h
    refine V_getI C fl_RX9_140 dX9_register_28 e8 ?_
    refine V_icmp_ge (tgt := 99) C dX9_register_31 (by decide) (fun c9 => ?_) (fun c9 => ?_)
    · rw [if_pos c9] at h
      refine V_iload_n C 3 dX9_register_99 rfl rfl ?_
      cases h
      exact V_xret (V_iret C B dX9_register_100)
    · rw [if_neg c9] at h
      refine V_aload_n C 0 dX9_register_34 rfl rfl ?_
      obtain ⟨x10, e11, h⟩ := h_b1_some h
      refine V_getR C fl_RX9_10 dX9_register_35 e11 ?_
      refine V_aload_n C 2 dX9_register_38 rfl rfl ?_
      obtain ⟨x12, e13, h⟩ := h_b1_some h
      refine V_getR C fl_RX9_143 dX9_register_39 e13 ?_
      refine V_iload C 4 dX9_register_42 rfl ?_
      obtain ⟨x14, e15, h⟩ := h_b1_some h
      refine V_aald C h_at106 dX9_register_44 e15 ?_
      obtain ⟨y19, e20, h⟩ := h_b1_some h
      obtain ⟨r16, s17, e18, h⟩ := h_bd_some h
      refine V_cV (As := [va_rf x14]) (rest := []) C mv_RX9_117 (m_X8_ownerOf l D dA bs e18) e20 rfl rfl (Nat.le_trans h_w0 (by decide)) (h_fr B (by decide)) (h_lo B (by decide)) dX9_register_45 ?_
      refine V_astore (lv' := [(5, va_rf r16), (0, va_rf l0), (1, .int l1), (2, va_rf l2), (3, .int l3), (4, .int l4)]) C dX9_register_48 (by decide) rfl ?_
      refine V_aload C 0 dX9_register_50 rfl ?_
      refine V_ifnull (tgt := 93) C dX9_register_52 (by decide) (fun c21 => ?_) (fun c21 => ?_)
      · rw [if_pos c21] at h
        refine V_iinc (v := (l4 + 1)) (lv' := [(4, .int (l4 + 1)), (5, va_rf r16), (0, va_rf l0), (1, .int l1), (2, va_rf l2), (3, .int l3)]) C 5 dX9_register_93 rfl rfl (by decide) rfl ?_
        refine V_goto (tgt := 25) C dX9_register_96 (by decide) ?_
        exact V_sub [2, 3, 4, 5, 0] rfl (ih s17 l0 l1 l2 l3 (l4 + 1) h)
      · rw [if_neg c21] at h
        refine V_aload_n C 3 dX9_register_55 rfl rfl ?_
        refine V_dupR C dX9_register_56 ?_
        obtain ⟨x22, e23, h⟩ := h_b1_some h
        refine V_getI C fl_RX9_147 dX9_register_57 e23 ?_
        refine V_iconst (v := 1) C dX9_register_60 (by decide) ?_
        refine V_iadd C dX9_register_61 ?_
        obtain ⟨s24, e25, h⟩ := h_b1_some h
        refine V_putI C fw_RX9_147 dX9_register_62 e25 ?_
        refine V_aload_n C 1 dX9_register_65 rfl rfl ?_
        refine V_aload C 0 dX9_register_66 rfl ?_
        obtain ⟨x26, e27, h⟩ := h_b1_some h
        refine V_getI C fl_RX9_150 dX9_register_68 e27 ?_
        refine V_iload_n C 2 dX9_register_71 rfl rfl ?_
        refine V_aload_n C 3 dX9_register_72 rfl rfl ?_
        obtain ⟨x28, e29, h⟩ := h_b1_some h
        refine V_getR C fl_RX9_143 dX9_register_73 e29 ?_
        refine V_iload C 5 dX9_register_76 rfl ?_
        obtain ⟨x30, e31, h⟩ := h_b1_some h
        refine V_aald C h_at106 dX9_register_78 e31 ?_
        refine V_aload_n C 3 dX9_register_79 rfl rfl ?_
        obtain ⟨x32, e33, h⟩ := h_b1_some h
        refine V_getI C fl_RX9_132 dX9_register_80 e33 ?_
        refine V_aload_n C 3 dX9_register_83 rfl rfl ?_
        obtain ⟨x34, e35, h⟩ := h_b1_some h
        refine V_getI C fl_RX9_147 dX9_register_84 e35 ?_
        obtain ⟨y39, e40, h⟩ := h_b1_some h
        obtain ⟨r36, s37, e38, h⟩ := h_bd_some h
        refine V_cV (As := [.int x26, .int l1, va_rf x30, .int x32, .int x34]) (rest := []) C mv_RX9_153 (m_X9_postRegister l D dA bs e38) e40 rfl rfl (Nat.le_trans h_w0 (by decide)) (h_fr B (by decide)) (h_lo B (by decide)) dX9_register_87 ?_
        refine V_iinc (v := (l3 + 1)) (lv' := [(3, .int (l3 + 1)), (5, va_rf r16), (0, va_rf l0), (1, .int l1), (2, va_rf l2), (4, .int l4)]) C 4 dX9_register_90 rfl rfl (by decide) rfl ?_
        refine V_iinc (v := (l4 + 1)) (lv' := [(4, .int (l4 + 1)), (3, .int (l3 + 1)), (5, va_rf r16), (0, va_rf l0), (1, .int l1), (2, va_rf l2)]) C 5 dX9_register_93 rfl rfl (by decide) rfl ?_
        refine V_goto (tgt := 25) C dX9_register_96 (by decide) ?_
        exact V_sub [3, 4, 5, 1, 0] rfl (ih s37 l0 l1 l2 (l3 + 1) (l4 + 1) h)
set_option maxHeartbeats 4000000 in
set_option maxRecDepth 100000 in
theorem m_X9_register (l : Launch) (hl : l.stackTraces = false) (D : va_G) (dA : Nat → ClassId) (bs : Nat) {σ σ' : HS} {a0 : Option Nat} {a1 : Int32} {r : Except Nat Int32} (h : f_X9_register σ a0 a1 = some (r, σ')) : MetX l yX9_register cX9_register 6 (some .int) 6 113 D dA bs [va_rf a0, .int a1] (h_rI r) σ σ' := by
  refine MetX.of (by decide) (h_avR (h_avI h_av0)) (Nat.le_of_ble_eq_true rfl) ?_
  intro p e R s m args below meth c C B hE hno
  unfold f_X9_register at h
  refine V_sub (lv' := [(0, va_rf a0), (1, .int a1)]) [0, 1] rfl ?_
  refine V_aload_n C 0 dX9_register_0 rfl rfl ?_
  refine V_iload_n C 1 dX9_register_1 rfl rfl ?_
  obtain ⟨y4, e5, h⟩ := h_b1_some h
  obtain ⟨r1, s2, e3, h⟩ := h_bd_some h
  refine V_cV (As := [.int a1]) (rest := []) C mv_RX9_107 (m_X9_siteAt l D dA bs e3) e5 rfl rfl (Nat.le_trans h_w0 (by decide)) (h_fr B (by decide)) (h_lo B (by decide)) dX9_register_2 ?_
  refine V_astore_n (lv' := [(2, va_rf r1), (0, va_rf a0), (1, .int a1)]) C dX9_register_5 rfl (by decide) rfl ?_
  refine V_aload_n C 0 dX9_register_6 rfl rfl ?_
  refine V_ifnonnull (tgt := 20) C dX9_register_7 (by decide) (fun c6 => ?_) (fun c6 => ?_)
  · rw [if_neg c6] at h
    refine V_iconst (v := 0) C dX9_register_20 (by decide) ?_
    refine V_istore_n (lv' := [(3, .int 0), (2, va_rf r1), (0, va_rf a0), (1, .int a1)]) C dX9_register_21 rfl (by decide) rfl ?_
    refine V_iconst (v := 0) C dX9_register_22 (by decide) ?_
    refine V_istore (lv' := [(4, .int 0), (3, .int 0), (2, va_rf r1), (0, va_rf a0), (1, .int a1)]) C dX9_register_23 (by decide) rfl ?_
    exact V_sub [3, 4, 2, 1, 0] rfl (w_X9_register_25 C B hl hE hno h_hN s2 a0 a1 r1 0 0 h)
  · rw [if_pos c6] at h
    obtain ⟨m41, e8, e9⟩ := h_thr_some h
    subst e8; subst e9
    exact V_throw C B hl hE hno (k := 1) (by decide) xl_1 xi_1 xg_1 xb_1 xo_1 xt_138 dX9_register_10 dX9_register_13 dX9_register_14 dX9_register_16 dX9_register_19 (h_fr B (by decide)) (h_lo B (by decide)) m41
/-! X9_send -/
theorem dX9_send_0 : decode cX9_send 0 = .ok (.aload_n 0, 1) := by decide +kernel
theorem dX9_send_1 : decode cX9_send 1 = .ok (.getfield 157, 3) := by decide +kernel
theorem dX9_send_4 : decode cX9_send 4 = .ok (.sipush 200, 3) := by decide +kernel
theorem dX9_send_7 : decode cX9_send 7 = .ok (.if_icmp .lt 13, 3) := by decide +kernel
theorem dX9_send_10 : decode cX9_send 10 = .ok (.new 160, 3) := by decide +kernel
theorem dX9_send_13 : decode cX9_send 13 = .ok (.dup, 1) := by decide +kernel
theorem dX9_send_14 : decode cX9_send 14 = .ok (.ldc 162, 2) := by decide +kernel
theorem dX9_send_16 : decode cX9_send 16 = .ok (.invokespecial 164, 3) := by decide +kernel
theorem dX9_send_19 : decode cX9_send 19 = .ok (.athrow, 1) := by decide +kernel
theorem dX9_send_20 : decode cX9_send 20 = .ok (.aload_n 0, 1) := by decide +kernel
theorem dX9_send_21 : decode cX9_send 21 = .ok (.iload_n 1, 1) := by decide +kernel
theorem dX9_send_22 : decode cX9_send 22 = .ok (.invokevirtual 107, 3) := by decide +kernel
theorem dX9_send_25 : decode cX9_send 25 = .ok (.astore_n 3, 1) := by decide +kernel
theorem dX9_send_26 : decode cX9_send 26 = .ok (.aload_n 3, 1) := by decide +kernel
theorem dX9_send_27 : decode cX9_send 27 = .ok (.ifnonnull 13, 3) := by decide +kernel
theorem dX9_send_30 : decode cX9_send 30 = .ok (.new 56, 3) := by decide +kernel
theorem dX9_send_33 : decode cX9_send 33 = .ok (.dup, 1) := by decide +kernel
theorem dX9_send_34 : decode cX9_send 34 = .ok (.ldc 138, 2) := by decide +kernel
theorem dX9_send_36 : decode cX9_send 36 = .ok (.invokespecial 60, 3) := by decide +kernel
theorem dX9_send_39 : decode cX9_send 39 = .ok (.athrow, 1) := by decide +kernel
theorem dX9_send_40 : decode cX9_send 40 = .ok (.new 42, 3) := by decide +kernel
theorem dX9_send_43 : decode cX9_send 43 = .ok (.dup, 1) := by decide +kernel
theorem dX9_send_44 : decode cX9_send 44 = .ok (.aload_n 0, 1) := by decide +kernel
theorem dX9_send_45 : decode cX9_send 45 = .ok (.getfield 157, 3) := by decide +kernel
theorem dX9_send_48 : decode cX9_send 48 = .ok (.iconst 1, 1) := by decide +kernel
theorem dX9_send_49 : decode cX9_send 49 = .ok (.iadd, 1) := by decide +kernel
theorem dX9_send_50 : decode cX9_send 50 = .ok (.iload_n 1, 1) := by decide +kernel
theorem dX9_send_51 : decode cX9_send 51 = .ok (.iload_n 2, 1) := by decide +kernel
theorem dX9_send_52 : decode cX9_send 52 = .ok (.invokespecial 165, 3) := by decide +kernel
theorem dX9_send_55 : decode cX9_send 55 = .ok (.astore 4, 2) := by decide +kernel
theorem dX9_send_57 : decode cX9_send 57 = .ok (.aload_n 0, 1) := by decide +kernel
theorem dX9_send_58 : decode cX9_send 58 = .ok (.getfield 44, 3) := by decide +kernel
theorem dX9_send_61 : decode cX9_send 61 = .ok (.aload_n 0, 1) := by decide +kernel
theorem dX9_send_62 : decode cX9_send 62 = .ok (.getfield 157, 3) := by decide +kernel
theorem dX9_send_65 : decode cX9_send 65 = .ok (.aload 4, 2) := by decide +kernel
theorem dX9_send_67 : decode cX9_send 67 = .ok (.aastore, 1) := by decide +kernel
theorem dX9_send_68 : decode cX9_send 68 = .ok (.aload_n 0, 1) := by decide +kernel
theorem dX9_send_69 : decode cX9_send 69 = .ok (.dup, 1) := by decide +kernel
theorem dX9_send_70 : decode cX9_send 70 = .ok (.getfield 157, 3) := by decide +kernel
theorem dX9_send_73 : decode cX9_send 73 = .ok (.iconst 1, 1) := by decide +kernel
theorem dX9_send_74 : decode cX9_send 74 = .ok (.iadd, 1) := by decide +kernel
theorem dX9_send_75 : decode cX9_send 75 = .ok (.putfield 157, 3) := by decide +kernel
theorem dX9_send_78 : decode cX9_send 78 = .ok (.aload_n 0, 1) := by decide +kernel
theorem dX9_send_79 : decode cX9_send 79 = .ok (.aload 4, 2) := by decide +kernel
theorem dX9_send_81 : decode cX9_send 81 = .ok (.aload_n 3, 1) := by decide +kernel
theorem dX9_send_82 : decode cX9_send 82 = .ok (.invokevirtual 168, 3) := by decide +kernel
theorem dX9_send_85 : decode cX9_send 85 = .ok (.aload 4, 2) := by decide +kernel
theorem dX9_send_87 : decode cX9_send 87 = .ok (.getfield 172, 3) := by decide +kernel
theorem dX9_send_90 : decode cX9_send 90 = .ok (.ireturn, 1) := by decide +kernel
def f_X9_send (σ : HS) (a0 : Option Nat) (a1 : Int32) (a2 : Int32) : Option (Except Nat Int32 × HS) :=
  h_b1 (h_gI σ a0 10 8) fun x1 =>
  if x1 < 200 then
    h_b1 (h_rcv σ a0 10) fun y7 =>
    h_bd (f_X9_siteAt σ a0 a1) fun r4 s5 =>
    if r4 = none then
      h_thr 1 s5
    else
      h_bd (h_mk s5 4 8) fun x10 s11 =>
      h_b1 (h_gI s11 a0 10 8) fun x13 =>
      h_b1 (h_rcv s11 x10 4) fun y18 =>
      h_bd (f_X3_init s11 x10 (x13 + 1) a1 a2) fun _ s16 =>
      h_b1 (h_gR s16 a0 10 7) fun x20 =>
      h_b1 (h_gI s16 a0 10 8) fun x22 =>
      h_b1 (h_sR s16 x20 105 4 x22 x10) fun s24 =>
      h_b1 (h_gI s24 a0 10 8) fun x26 =>
      h_b1 (h_pI s24 a0 10 8 (x26 + 1)) fun s28 =>
      h_b1 (h_rcv s28 a0 10) fun y33 =>
      h_bd (f_X9_start s28 a0 x10 r4) fun _ s31 =>
      h_b1 (h_gI s31 x10 4 0) fun x35 =>
      some (.ok x35, s31)
  else
    h_thr 2 σ
set_option maxHeartbeats 4000000 in
set_option maxRecDepth 100000 in
theorem m_X9_send (l : Launch) (hl : l.stackTraces = false) (D : va_G) (dA : Nat → ClassId) (bs : Nat) {σ σ' : HS} {a0 : Option Nat} {a1 : Int32} {a2 : Int32} {r : Except Nat Int32} (h : f_X9_send σ a0 a1 a2 = some (r, σ')) : MetX l yX9_send cX9_send 5 (some .int) 6 158 D dA bs [va_rf a0, .int a1, .int a2] (h_rI r) σ σ' := by
  refine MetX.of (by decide) (h_avR (h_avI (h_avI h_av0))) (Nat.le_of_ble_eq_true rfl) ?_
  intro p e R s m args below meth c C B hE hno
  unfold f_X9_send at h
  refine V_sub (lv' := [(0, va_rf a0), (1, .int a1), (2, .int a2)]) [0, 1, 2] rfl ?_
  refine V_aload_n C 0 dX9_send_0 rfl rfl ?_
  obtain ⟨x1, e2, h⟩ := h_b1_some h
  refine V_getI C fl_RX9_157 dX9_send_1 e2 ?_
  refine V_sipush (v := 200) C dX9_send_4 (by decide) ?_
  refine V_icmp_lt (tgt := 20) C dX9_send_7 (by decide) (fun c3 => ?_) (fun c3 => ?_)
  · rw [if_pos c3] at h
    refine V_aload_n C 0 dX9_send_20 rfl rfl ?_
    refine V_iload_n C 1 dX9_send_21 rfl rfl ?_
    obtain ⟨y7, e8, h⟩ := h_b1_some h
    obtain ⟨r4, s5, e6, h⟩ := h_bd_some h
    refine V_cV (As := [.int a1]) (rest := []) C mv_RX9_107 (m_X9_siteAt l D dA bs e6) e8 rfl rfl (Nat.le_trans h_w0 (by decide)) (h_fr B (by decide)) (h_lo B (by decide)) dX9_send_22 ?_
    refine V_astore_n (lv' := [(3, va_rf r4), (0, va_rf a0), (1, .int a1), (2, .int a2)]) C dX9_send_25 rfl (by decide) rfl ?_
    refine V_aload_n C 0 dX9_send_26 rfl rfl ?_
    refine V_ifnonnull (tgt := 40) C dX9_send_27 (by decide) (fun c9 => ?_) (fun c9 => ?_)
    · rw [if_neg c9] at h
      obtain ⟨x10, s11, e12, h⟩ := h_bd_some h
      refine V_new C hcl_3 lk_RX9_42 dX9_send_40 e12 ?_
      refine V_dupR C dX9_send_43 ?_
      refine V_aload_n C 1 dX9_send_44 rfl rfl ?_
      obtain ⟨x13, e14, h⟩ := h_b1_some h
      refine V_getI C fl_RX9_157 dX9_send_45 e14 ?_
      refine V_iconst (v := 1) C dX9_send_48 (by decide) ?_
      refine V_iadd C dX9_send_49 ?_
      refine V_iload_n C 2 dX9_send_50 rfl rfl ?_
      refine V_iload_n C 3 dX9_send_51 rfl rfl ?_
      obtain ⟨y18, e19, h⟩ := h_b1_some h
      obtain ⟨r15, s16, e17, h⟩ := h_bd_some h
      refine V_cI (As := [.int (x13 + 1), .int a1, .int a2]) (rest := [va_rf x10]) C mi_RX9_165 (m_X3_init l D dA bs e17) e19 rfl rfl (Nat.le_trans (h_wR h_w0) (by decide)) (h_fr B (by decide)) (h_lo B (by decide)) dX9_send_52 ?_
      refine V_astore (lv' := [(4, va_rf x10), (3, va_rf r4), (0, va_rf a0), (1, .int a1), (2, .int a2)]) C dX9_send_55 (by decide) rfl ?_
      refine V_aload_n C 2 dX9_send_57 rfl rfl ?_
      obtain ⟨x20, e21, h⟩ := h_b1_some h
      refine V_getR C fl_RX9_44 dX9_send_58 e21 ?_
      refine V_aload_n C 2 dX9_send_61 rfl rfl ?_
      obtain ⟨x22, e23, h⟩ := h_b1_some h
      refine V_getI C fl_RX9_157 dX9_send_62 e23 ?_
      refine V_aload C 0 dX9_send_65 rfl ?_
      obtain ⟨s24, e25, h⟩ := h_b1_some h
      refine V_aast C h_at105 dX9_send_67 e25 ?_
      refine V_aload_n C 2 dX9_send_68 rfl rfl ?_
      refine V_dupR C dX9_send_69 ?_
      obtain ⟨x26, e27, h⟩ := h_b1_some h
      refine V_getI C fl_RX9_157 dX9_send_70 e27 ?_
      refine V_iconst (v := 1) C dX9_send_73 (by decide) ?_
      refine V_iadd C dX9_send_74 ?_
      obtain ⟨s28, e29, h⟩ := h_b1_some h
      refine V_putI C fw_RX9_157 dX9_send_75 e29 ?_
      refine V_aload_n C 2 dX9_send_78 rfl rfl ?_
      refine V_aload C 0 dX9_send_79 rfl ?_
      refine V_aload_n C 1 dX9_send_81 rfl rfl ?_
      obtain ⟨y33, e34, h⟩ := h_b1_some h
      obtain ⟨r30, s31, e32, h⟩ := h_bd_some h
      refine V_cV (As := [va_rf x10, va_rf r4]) (rest := []) C mv_RX9_168 (m_X9_start l D dA bs e32) e34 rfl rfl (Nat.le_trans h_w0 (by decide)) (h_fr B (by decide)) (h_lo B (by decide)) dX9_send_82 ?_
      refine V_aload C 0 dX9_send_85 rfl ?_
      obtain ⟨x35, e36, h⟩ := h_b1_some h
      refine V_getI C fl_RX9_172 dX9_send_87 e36 ?_
      cases h
      exact V_xret (V_iret C B dX9_send_90)
    · rw [if_pos c9] at h
      obtain ⟨m37, e8, e9⟩ := h_thr_some h
      subst e8; subst e9
      exact V_throw C B hl hE hno (k := 1) (by decide) xl_1 xi_1 xg_1 xb_1 xo_1 xt_138 dX9_send_30 dX9_send_33 dX9_send_34 dX9_send_36 dX9_send_39 (h_fr B (by decide)) (h_lo B (by decide)) m37
  · rw [if_neg c3] at h
    obtain ⟨m38, e8, e9⟩ := h_thr_some h
    subst e8; subst e9
    exact V_throw C B hl hE hno (k := 2) (by decide) xl_2 xi_2 xg_2 xb_2 xo_2 xt_162 dX9_send_10 dX9_send_13 dX9_send_14 dX9_send_16 dX9_send_19 (h_fr B (by decide)) (h_lo B (by decide)) m38
/-! X9_carry -/
theorem dX9_carry_0 : decode cX9_carry 0 = .ok (.aload_n 0, 1) := by decide +kernel
theorem dX9_carry_1 : decode cX9_carry 1 = .ok (.getfield 32, 3) := by decide +kernel
theorem dX9_carry_4 : decode cX9_carry 4 = .ok (.iload_n 1, 1) := by decide +kernel
theorem dX9_carry_5 : decode cX9_carry 5 = .ok (.invokevirtual 173, 3) := by decide +kernel
theorem dX9_carry_8 : decode cX9_carry 8 = .ok (.ifCond .ne 13, 3) := by decide +kernel
theorem dX9_carry_11 : decode cX9_carry 11 = .ok (.new 176, 3) := by decide +kernel
theorem dX9_carry_14 : decode cX9_carry 14 = .ok (.dup, 1) := by decide +kernel
theorem dX9_carry_15 : decode cX9_carry 15 = .ok (.ldc 178, 2) := by decide +kernel
theorem dX9_carry_17 : decode cX9_carry 17 = .ok (.invokespecial 180, 3) := by decide +kernel
theorem dX9_carry_20 : decode cX9_carry 20 = .ok (.athrow, 1) := by decide +kernel
theorem dX9_carry_21 : decode cX9_carry 21 = .ok (.aload_n 0, 1) := by decide +kernel
theorem dX9_carry_22 : decode cX9_carry 22 = .ok (.iload_n 1, 1) := by decide +kernel
theorem dX9_carry_23 : decode cX9_carry 23 = .ok (.invokevirtual 181, 3) := by decide +kernel
theorem dX9_carry_26 : decode cX9_carry 26 = .ok (.return_, 1) := by decide +kernel
def f_X9_carry (σ : HS) (a0 : Option Nat) (a1 : Int32) : Option (Except Nat Unit × HS) :=
  h_b1 (h_gR σ a0 10 4) fun x1 =>
  h_b1 (h_rcv σ x1 6) fun y6 =>
  h_bd (f_X5_has σ x1 a1) fun r3 s4 =>
  if r3 = 0 then
    h_thr 3 s4
  else
    h_b1 (h_rcv s4 a0 10) fun y12 =>
    h_bd (f_X9_bring s4 a0 a1) fun _ s10 =>
    some (.ok (), s10)
set_option maxHeartbeats 4000000 in
set_option maxRecDepth 100000 in
theorem m_X9_carry (l : Launch) (hl : l.stackTraces = false) (D : va_G) (dA : Nat → ClassId) (bs : Nat) {σ σ' : HS} {a0 : Option Nat} {a1 : Int32} {r : Except Nat Unit} (h : f_X9_carry σ a0 a1 = some (r, σ')) : MetX l yX9_carry cX9_carry 2 none 7 208 D dA bs [va_rf a0, .int a1] (h_rV r) σ σ' := by
  refine MetX.of (by decide) (h_avR (h_avI h_av0)) (Nat.le_of_ble_eq_true rfl) ?_
  intro p e R s m args below meth c C B hE hno
  unfold f_X9_carry at h
  refine V_sub (lv' := [(0, va_rf a0), (1, .int a1)]) [0, 1] rfl ?_
  refine V_aload_n C 0 dX9_carry_0 rfl rfl ?_
  obtain ⟨x1, e2, h⟩ := h_b1_some h
  refine V_getR C fl_RX9_32 dX9_carry_1 e2 ?_
  refine V_iload_n C 1 dX9_carry_4 rfl rfl ?_
  obtain ⟨y6, e7, h⟩ := h_b1_some h
  obtain ⟨r3, s4, e5, h⟩ := h_bd_some h
  refine V_cV (As := [.int a1]) (rest := []) C mv_RX9_173 (m_X5_has l D dA bs e5) e7 rfl rfl (Nat.le_trans h_w0 (by decide)) (h_fr B (by decide)) (h_lo B (by decide)) dX9_carry_5 ?_
  refine V_if_ne (tgt := 21) C dX9_carry_8 (by decide) (fun c8 => ?_) (fun c8 => ?_)
  · rw [if_neg c8] at h
    refine V_aload_n C 0 dX9_carry_21 rfl rfl ?_
    refine V_iload_n C 1 dX9_carry_22 rfl rfl ?_
    obtain ⟨y12, e13, h⟩ := h_b1_some h
    obtain ⟨r9, s10, e11, h⟩ := h_bd_some h
    refine V_cV (As := [.int a1]) (rest := []) C mv_RX9_181 (m_X9_bring l D dA bs e11) e13 rfl rfl (Nat.le_trans h_w0 (by decide)) (h_fr B (by decide)) (h_lo B (by decide)) dX9_carry_23 ?_
    cases h
    exact V_xret (V_vret C B dX9_carry_26)
  · rw [if_pos c8] at h
    obtain ⟨m14, e8, e9⟩ := h_thr_some h
    subst e8; subst e9
    exact V_throw C B hl hE hno (k := 3) (by decide) xl_3 xi_3 xg_3 xb_3 xo_3 xt_178 dX9_carry_11 dX9_carry_14 dX9_carry_15 dX9_carry_17 dX9_carry_20 (h_fr B (by decide)) (h_lo B (by decide)) m14
/-! X9_repeat -/
theorem dX9_repeat_0 : decode cX9_repeat 0 = .ok (.aload_n 0, 1) := by decide +kernel
theorem dX9_repeat_1 : decode cX9_repeat 1 = .ok (.getfield 32, 3) := by decide +kernel
theorem dX9_repeat_4 : decode cX9_repeat 4 = .ok (.iload_n 1, 1) := by decide +kernel
theorem dX9_repeat_5 : decode cX9_repeat 5 = .ok (.invokevirtual 173, 3) := by decide +kernel
theorem dX9_repeat_8 : decode cX9_repeat 8 = .ok (.ifCond .ne 13, 3) := by decide +kernel
theorem dX9_repeat_11 : decode cX9_repeat 11 = .ok (.new 176, 3) := by decide +kernel
theorem dX9_repeat_14 : decode cX9_repeat 14 = .ok (.dup, 1) := by decide +kernel
theorem dX9_repeat_15 : decode cX9_repeat 15 = .ok (.ldc 178, 2) := by decide +kernel
theorem dX9_repeat_17 : decode cX9_repeat 17 = .ok (.invokespecial 180, 3) := by decide +kernel
theorem dX9_repeat_20 : decode cX9_repeat 20 = .ok (.athrow, 1) := by decide +kernel
theorem dX9_repeat_21 : decode cX9_repeat 21 = .ok (.aload_n 0, 1) := by decide +kernel
theorem dX9_repeat_22 : decode cX9_repeat 22 = .ok (.getfield 32, 3) := by decide +kernel
theorem dX9_repeat_25 : decode cX9_repeat 25 = .ok (.iload_n 1, 1) := by decide +kernel
theorem dX9_repeat_26 : decode cX9_repeat 26 = .ok (.invokevirtual 184, 3) := by decide +kernel
theorem dX9_repeat_29 : decode cX9_repeat 29 = .ok (.return_, 1) := by decide +kernel
def f_X9_repeat (σ : HS) (a0 : Option Nat) (a1 : Int32) : Option (Except Nat Unit × HS) :=
  h_b1 (h_gR σ a0 10 4) fun x1 =>
  h_b1 (h_rcv σ x1 6) fun y6 =>
  h_bd (f_X5_has σ x1 a1) fun r3 s4 =>
  if r3 = 0 then
    h_thr 3 s4
  else
    h_b1 (h_gR s4 a0 10 4) fun x9 =>
    h_b1 (h_rcv s4 x9 6) fun y14 =>
    h_bd (f_X5_addAgain s4 x9 a1) fun _ s12 =>
    some (.ok (), s12)
set_option maxHeartbeats 4000000 in
set_option maxRecDepth 100000 in
theorem m_X9_repeat (l : Launch) (hl : l.stackTraces = false) (D : va_G) (dA : Nat → ClassId) (bs : Nat) {σ σ' : HS} {a0 : Option Nat} {a1 : Int32} {r : Except Nat Unit} (h : f_X9_repeat σ a0 a1 = some (r, σ')) : MetX l yX9_repeat cX9_repeat 2 none 6 85 D dA bs [va_rf a0, .int a1] (h_rV r) σ σ' := by
  refine MetX.of (by decide) (h_avR (h_avI h_av0)) (Nat.le_of_ble_eq_true rfl) ?_
  intro p e R s m args below meth c C B hE hno
  unfold f_X9_repeat at h
  refine V_sub (lv' := [(0, va_rf a0), (1, .int a1)]) [0, 1] rfl ?_
  refine V_aload_n C 0 dX9_repeat_0 rfl rfl ?_
  obtain ⟨x1, e2, h⟩ := h_b1_some h
  refine V_getR C fl_RX9_32 dX9_repeat_1 e2 ?_
  refine V_iload_n C 1 dX9_repeat_4 rfl rfl ?_
  obtain ⟨y6, e7, h⟩ := h_b1_some h
  obtain ⟨r3, s4, e5, h⟩ := h_bd_some h
  refine V_cV (As := [.int a1]) (rest := []) C mv_RX9_173 (m_X5_has l D dA bs e5) e7 rfl rfl (Nat.le_trans h_w0 (by decide)) (h_fr B (by decide)) (h_lo B (by decide)) dX9_repeat_5 ?_
  refine V_if_ne (tgt := 21) C dX9_repeat_8 (by decide) (fun c8 => ?_) (fun c8 => ?_)
  · rw [if_neg c8] at h
    refine V_aload_n C 0 dX9_repeat_21 rfl rfl ?_
    obtain ⟨x9, e10, h⟩ := h_b1_some h
    refine V_getR C fl_RX9_32 dX9_repeat_22 e10 ?_
    refine V_iload_n C 1 dX9_repeat_25 rfl rfl ?_
    obtain ⟨y14, e15, h⟩ := h_b1_some h
    obtain ⟨r11, s12, e13, h⟩ := h_bd_some h
    refine V_cV (As := [.int a1]) (rest := []) C mv_RX9_184 (m_X5_addAgain l D dA bs e13) e15 rfl rfl (Nat.le_trans h_w0 (by decide)) (h_fr B (by decide)) (h_lo B (by decide)) dX9_repeat_26 ?_
    cases h
    exact V_xret (V_vret C B dX9_repeat_29)
  · rw [if_pos c8] at h
    obtain ⟨m16, e8, e9⟩ := h_thr_some h
    subst e8; subst e9
    exact V_throw C B hl hE hno (k := 3) (by decide) xl_3 xi_3 xg_3 xb_3 xo_3 xt_178 dX9_repeat_11 dX9_repeat_14 dX9_repeat_15 dX9_repeat_17 dX9_repeat_20 (h_fr B (by decide)) (h_lo B (by decide)) m16
/-! X9_drop -/
theorem dX9_drop_0 : decode cX9_drop 0 = .ok (.aload_n 0, 1) := by decide +kernel
theorem dX9_drop_1 : decode cX9_drop 1 = .ok (.getfield 32, 3) := by decide +kernel
theorem dX9_drop_4 : decode cX9_drop 4 = .ok (.iload_n 1, 1) := by decide +kernel
theorem dX9_drop_5 : decode cX9_drop 5 = .ok (.invokevirtual 173, 3) := by decide +kernel
theorem dX9_drop_8 : decode cX9_drop 8 = .ok (.ifCond .ne 13, 3) := by decide +kernel
theorem dX9_drop_11 : decode cX9_drop 11 = .ok (.new 176, 3) := by decide +kernel
theorem dX9_drop_14 : decode cX9_drop 14 = .ok (.dup, 1) := by decide +kernel
theorem dX9_drop_15 : decode cX9_drop 15 = .ok (.ldc 178, 2) := by decide +kernel
theorem dX9_drop_17 : decode cX9_drop 17 = .ok (.invokespecial 180, 3) := by decide +kernel
theorem dX9_drop_20 : decode cX9_drop 20 = .ok (.athrow, 1) := by decide +kernel
theorem dX9_drop_21 : decode cX9_drop 21 = .ok (.aload_n 0, 1) := by decide +kernel
theorem dX9_drop_22 : decode cX9_drop 22 = .ok (.getfield 32, 3) := by decide +kernel
theorem dX9_drop_25 : decode cX9_drop 25 = .ok (.iload_n 1, 1) := by decide +kernel
theorem dX9_drop_26 : decode cX9_drop 26 = .ok (.invokevirtual 187, 3) := by decide +kernel
theorem dX9_drop_29 : decode cX9_drop 29 = .ok (.return_, 1) := by decide +kernel
def f_X9_drop (σ : HS) (a0 : Option Nat) (a1 : Int32) : Option (Except Nat Unit × HS) :=
  h_b1 (h_gR σ a0 10 4) fun x1 =>
  h_b1 (h_rcv σ x1 6) fun y6 =>
  h_bd (f_X5_has σ x1 a1) fun r3 s4 =>
  if r3 = 0 then
    h_thr 3 s4
  else
    h_b1 (h_gR s4 a0 10 4) fun x9 =>
    h_b1 (h_rcv s4 x9 6) fun y14 =>
    h_bd (f_X5_remove s4 x9 a1) fun _ s12 =>
    some (.ok (), s12)
set_option maxHeartbeats 4000000 in
set_option maxRecDepth 100000 in
theorem m_X9_drop (l : Launch) (hl : l.stackTraces = false) (D : va_G) (dA : Nat → ClassId) (bs : Nat) {σ σ' : HS} {a0 : Option Nat} {a1 : Int32} {r : Except Nat Unit} (h : f_X9_drop σ a0 a1 = some (r, σ')) : MetX l yX9_drop cX9_drop 2 none 6 86 D dA bs [va_rf a0, .int a1] (h_rV r) σ σ' := by
  refine MetX.of (by decide) (h_avR (h_avI h_av0)) (Nat.le_of_ble_eq_true rfl) ?_
  intro p e R s m args below meth c C B hE hno
  unfold f_X9_drop at h
  refine V_sub (lv' := [(0, va_rf a0), (1, .int a1)]) [0, 1] rfl ?_
  refine V_aload_n C 0 dX9_drop_0 rfl rfl ?_
  obtain ⟨x1, e2, h⟩ := h_b1_some h
  refine V_getR C fl_RX9_32 dX9_drop_1 e2 ?_
  refine V_iload_n C 1 dX9_drop_4 rfl rfl ?_
  obtain ⟨y6, e7, h⟩ := h_b1_some h
  obtain ⟨r3, s4, e5, h⟩ := h_bd_some h
  refine V_cV (As := [.int a1]) (rest := []) C mv_RX9_173 (m_X5_has l D dA bs e5) e7 rfl rfl (Nat.le_trans h_w0 (by decide)) (h_fr B (by decide)) (h_lo B (by decide)) dX9_drop_5 ?_
  refine V_if_ne (tgt := 21) C dX9_drop_8 (by decide) (fun c8 => ?_) (fun c8 => ?_)
  · rw [if_neg c8] at h
    refine V_aload_n C 0 dX9_drop_21 rfl rfl ?_
    obtain ⟨x9, e10, h⟩ := h_b1_some h
    refine V_getR C fl_RX9_32 dX9_drop_22 e10 ?_
    refine V_iload_n C 1 dX9_drop_25 rfl rfl ?_
    obtain ⟨y14, e15, h⟩ := h_b1_some h
    obtain ⟨r11, s12, e13, h⟩ := h_bd_some h
    refine V_cV (As := [.int a1]) (rest := []) C mv_RX9_187 (m_X5_remove l D dA bs e13) e15 rfl rfl (Nat.le_trans h_w0 (by decide)) (h_fr B (by decide)) (h_lo B (by decide)) dX9_drop_26 ?_
    cases h
    exact V_xret (V_vret C B dX9_drop_29)
  · rw [if_pos c8] at h
    obtain ⟨m16, e8, e9⟩ := h_thr_some h
    subst e8; subst e9
    exact V_throw C B hl hE hno (k := 3) (by decide) xl_3 xi_3 xg_3 xb_3 xo_3 xt_178 dX9_drop_11 dX9_drop_14 dX9_drop_15 dX9_drop_17 dX9_drop_20 (h_fr B (by decide)) (h_lo B (by decide)) m16
/-! X9_forge -/
theorem dX9_forge_0 : decode cX9_forge 0 = .ok (.aload_n 0, 1) := by decide +kernel
theorem dX9_forge_1 : decode cX9_forge 1 = .ok (.getfield 32, 3) := by decide +kernel
theorem dX9_forge_4 : decode cX9_forge 4 = .ok (.iload_n 1, 1) := by decide +kernel
theorem dX9_forge_5 : decode cX9_forge 5 = .ok (.invokevirtual 173, 3) := by decide +kernel
theorem dX9_forge_8 : decode cX9_forge 8 = .ok (.ifCond .eq 13, 3) := by decide +kernel
theorem dX9_forge_11 : decode cX9_forge 11 = .ok (.iload_n 2, 1) := by decide +kernel
theorem dX9_forge_12 : decode cX9_forge 12 = .ok (.ifCond .lt 9, 3) := by decide +kernel
theorem dX9_forge_15 : decode cX9_forge 15 = .ok (.iload_n 2, 1) := by decide +kernel
theorem dX9_forge_16 : decode cX9_forge 16 = .ok (.bipush 6, 2) := by decide +kernel
theorem dX9_forge_18 : decode cX9_forge 18 = .ok (.if_icmp .lt 13, 3) := by decide +kernel
theorem dX9_forge_21 : decode cX9_forge 21 = .ok (.new 176, 3) := by decide +kernel
theorem dX9_forge_24 : decode cX9_forge 24 = .ok (.dup, 1) := by decide +kernel
theorem dX9_forge_25 : decode cX9_forge 25 = .ok (.ldc 190, 2) := by decide +kernel
theorem dX9_forge_27 : decode cX9_forge 27 = .ok (.invokespecial 180, 3) := by decide +kernel
theorem dX9_forge_30 : decode cX9_forge 30 = .ok (.athrow, 1) := by decide +kernel
theorem dX9_forge_31 : decode cX9_forge 31 = .ok (.aload_n 0, 1) := by decide +kernel
theorem dX9_forge_32 : decode cX9_forge 32 = .ok (.getfield 32, 3) := by decide +kernel
theorem dX9_forge_35 : decode cX9_forge 35 = .ok (.iload_n 1, 1) := by decide +kernel
theorem dX9_forge_36 : decode cX9_forge 36 = .ok (.iload_n 2, 1) := by decide +kernel
theorem dX9_forge_37 : decode cX9_forge 37 = .ok (.iload_n 3, 1) := by decide +kernel
theorem dX9_forge_38 : decode cX9_forge 38 = .ok (.invokevirtual 192, 3) := by decide +kernel
theorem dX9_forge_41 : decode cX9_forge 41 = .ok (.return_, 1) := by decide +kernel
def f_X9_forge (σ : HS) (a0 : Option Nat) (a1 : Int32) (a2 : Int32) (a3 : Int32) : Option (Except Nat Unit × HS) :=
  h_b1 (h_gR σ a0 10 4) fun x1 =>
  h_b1 (h_rcv σ x1 6) fun y6 =>
  h_bd (f_X5_has σ x1 a1) fun r3 s4 =>
  if r3 = 0 then
    h_thr 3 s4
  else
    if a2 < 0 then
      h_thr 3 s4
    else
      if a2 < 6 then
        h_b1 (h_gR s4 a0 10 4) fun x13 =>
        h_b1 (h_rcv s4 x13 6) fun y18 =>
        h_bd (f_X5_set s4 x13 a1 a2 a3) fun _ s16 =>
        some (.ok (), s16)
      else
        h_thr 3 s4
set_option maxHeartbeats 4000000 in
set_option maxRecDepth 100000 in
theorem m_X9_forge (l : Launch) (hl : l.stackTraces = false) (D : va_G) (dA : Nat → ClassId) (bs : Nat) {σ σ' : HS} {a0 : Option Nat} {a1 : Int32} {a2 : Int32} {a3 : Int32} {r : Except Nat Unit} (h : f_X9_forge σ a0 a1 a2 a3 = some (r, σ')) : MetX l yX9_forge cX9_forge 4 none 6 82 D dA bs [va_rf a0, .int a1, .int a2, .int a3] (h_rV r) σ σ' := by
  refine MetX.of (by decide) (h_avR (h_avI (h_avI (h_avI h_av0)))) (Nat.le_of_ble_eq_true rfl) ?_
  intro p e R s m args below meth c C B hE hno
  unfold f_X9_forge at h
  refine V_sub (lv' := [(0, va_rf a0), (1, .int a1), (2, .int a2), (3, .int a3)]) [0, 1, 2, 3] rfl ?_
  refine V_aload_n C 0 dX9_forge_0 rfl rfl ?_
  obtain ⟨x1, e2, h⟩ := h_b1_some h
  refine V_getR C fl_RX9_32 dX9_forge_1 e2 ?_
  refine V_iload_n C 1 dX9_forge_4 rfl rfl ?_
  obtain ⟨y6, e7, h⟩ := h_b1_some h
  obtain ⟨r3, s4, e5, h⟩ := h_bd_some h
  refine V_cV (As := [.int a1]) (rest := []) C mv_RX9_173 (m_X5_has l D dA bs e5) e7 rfl rfl (Nat.le_trans h_w0 (by decide)) (h_fr B (by decide)) (h_lo B (by decide)) dX9_forge_5 ?_
  refine V_if_eq (tgt := 21) C dX9_forge_8 (by decide) (fun c8 => ?_) (fun c8 => ?_)
  · rw [if_pos c8] at h
    obtain ⟨m9, e8, e9⟩ := h_thr_some h
    subst e8; subst e9
    exact V_throw C B hl hE hno (k := 3) (by decide) xl_3 xi_3 xg_3 xb_3 xo_3 xt_190 dX9_forge_21 dX9_forge_24 dX9_forge_25 dX9_forge_27 dX9_forge_30 (h_fr B (by decide)) (h_lo B (by decide)) m9
  · rw [if_neg c8] at h
    refine V_iload_n C 2 dX9_forge_11 rfl rfl ?_
    refine V_if_lt (tgt := 21) C dX9_forge_12 (by decide) (fun c10 => ?_) (fun c10 => ?_)
    · rw [if_pos c10] at h
      obtain ⟨m11, e8, e9⟩ := h_thr_some h
      subst e8; subst e9
      exact V_throw C B hl hE hno (k := 3) (by decide) xl_3 xi_3 xg_3 xb_3 xo_3 xt_190 dX9_forge_21 dX9_forge_24 dX9_forge_25 dX9_forge_27 dX9_forge_30 (h_fr B (by decide)) (h_lo B (by decide)) m11
    · rw [if_neg c10] at h
      refine V_iload_n C 2 dX9_forge_15 rfl rfl ?_
      refine V_bipush (v := 6) C dX9_forge_16 (by decide) ?_
      refine V_icmp_lt (tgt := 31) C dX9_forge_18 (by decide) (fun c12 => ?_) (fun c12 => ?_)
      · rw [if_pos c12] at h
        refine V_aload_n C 0 dX9_forge_31 rfl rfl ?_
        obtain ⟨x13, e14, h⟩ := h_b1_some h
        refine V_getR C fl_RX9_32 dX9_forge_32 e14 ?_
        refine V_iload_n C 1 dX9_forge_35 rfl rfl ?_
        refine V_iload_n C 2 dX9_forge_36 rfl rfl ?_
        refine V_iload_n C 3 dX9_forge_37 rfl rfl ?_
        obtain ⟨y18, e19, h⟩ := h_b1_some h
        obtain ⟨r15, s16, e17, h⟩ := h_bd_some h
        refine V_cV (As := [.int a1, .int a2, .int a3]) (rest := []) C mv_RX9_192 (m_X5_set l D dA bs e17) e19 rfl rfl (Nat.le_trans h_w0 (by decide)) (h_fr B (by decide)) (h_lo B (by decide)) dX9_forge_38 ?_
        cases h
        exact V_xret (V_vret C B dX9_forge_41)
      · rw [if_neg c12] at h
        obtain ⟨m20, e8, e9⟩ := h_thr_some h
        subst e8; subst e9
        exact V_throw C B hl hE hno (k := 3) (by decide) xl_3 xi_3 xg_3 xb_3 xo_3 xt_190 dX9_forge_21 dX9_forge_24 dX9_forge_25 dX9_forge_27 dX9_forge_30 (h_fr B (by decide)) (h_lo B (by decide)) m20
/-! X9_message -/
theorem dX9_message_0 : decode cX9_message 0 = .ok (.aload_n 0, 1) := by decide +kernel
theorem dX9_message_1 : decode cX9_message 1 = .ok (.getfield 32, 3) := by decide +kernel
theorem dX9_message_4 : decode cX9_message 4 = .ok (.iload_n 1, 1) := by decide +kernel
theorem dX9_message_5 : decode cX9_message 5 = .ok (.invokevirtual 173, 3) := by decide +kernel
theorem dX9_message_8 : decode cX9_message 8 = .ok (.ifCond .eq 13, 3) := by decide +kernel
theorem dX9_message_11 : decode cX9_message 11 = .ok (.iload_n 2, 1) := by decide +kernel
theorem dX9_message_12 : decode cX9_message 12 = .ok (.ifCond .lt 9, 3) := by decide +kernel
theorem dX9_message_15 : decode cX9_message 15 = .ok (.iload_n 2, 1) := by decide +kernel
theorem dX9_message_16 : decode cX9_message 16 = .ok (.bipush 8, 2) := by decide +kernel
theorem dX9_message_18 : decode cX9_message 18 = .ok (.if_icmp .lt 13, 3) := by decide +kernel
theorem dX9_message_21 : decode cX9_message 21 = .ok (.new 176, 3) := by decide +kernel
theorem dX9_message_24 : decode cX9_message 24 = .ok (.dup, 1) := by decide +kernel
theorem dX9_message_25 : decode cX9_message 25 = .ok (.ldc 195, 2) := by decide +kernel
theorem dX9_message_27 : decode cX9_message 27 = .ok (.invokespecial 180, 3) := by decide +kernel
theorem dX9_message_30 : decode cX9_message 30 = .ok (.athrow, 1) := by decide +kernel
theorem dX9_message_31 : decode cX9_message 31 = .ok (.aload_n 0, 1) := by decide +kernel
theorem dX9_message_32 : decode cX9_message 32 = .ok (.getfield 32, 3) := by decide +kernel
theorem dX9_message_35 : decode cX9_message 35 = .ok (.iload_n 1, 1) := by decide +kernel
theorem dX9_message_36 : decode cX9_message 36 = .ok (.iload_n 2, 1) := by decide +kernel
theorem dX9_message_37 : decode cX9_message 37 = .ok (.invokevirtual 197, 3) := by decide +kernel
theorem dX9_message_40 : decode cX9_message 40 = .ok (.ireturn, 1) := by decide +kernel
def f_X9_message (σ : HS) (a0 : Option Nat) (a1 : Int32) (a2 : Int32) : Option (Except Nat Int32 × HS) :=
  h_b1 (h_gR σ a0 10 4) fun x1 =>
  h_b1 (h_rcv σ x1 6) fun y6 =>
  h_bd (f_X5_has σ x1 a1) fun r3 s4 =>
  if r3 = 0 then
    h_thr 3 s4
  else
    if a2 < 0 then
      h_thr 3 s4
    else
      if a2 < 8 then
        h_b1 (h_gR s4 a0 10 4) fun x13 =>
        h_b1 (h_rcv s4 x13 6) fun y18 =>
        h_bd (f_X5_get s4 x13 a1 a2) fun r15 s16 =>
        some (.ok r15, s16)
      else
        h_thr 3 s4
set_option maxHeartbeats 4000000 in
set_option maxRecDepth 100000 in
theorem m_X9_message (l : Launch) (hl : l.stackTraces = false) (D : va_G) (dA : Nat → ClassId) (bs : Nat) {σ σ' : HS} {a0 : Option Nat} {a1 : Int32} {a2 : Int32} {r : Except Nat Int32} (h : f_X9_message σ a0 a1 a2 = some (r, σ')) : MetX l yX9_message cX9_message 3 (some .int) 6 82 D dA bs [va_rf a0, .int a1, .int a2] (h_rI r) σ σ' := by
  refine MetX.of (by decide) (h_avR (h_avI (h_avI h_av0))) (Nat.le_of_ble_eq_true rfl) ?_
  intro p e R s m args below meth c C B hE hno
  unfold f_X9_message at h
  refine V_sub (lv' := [(0, va_rf a0), (1, .int a1), (2, .int a2)]) [0, 1, 2] rfl ?_
  refine V_aload_n C 0 dX9_message_0 rfl rfl ?_
  obtain ⟨x1, e2, h⟩ := h_b1_some h
  refine V_getR C fl_RX9_32 dX9_message_1 e2 ?_
  refine V_iload_n C 1 dX9_message_4 rfl rfl ?_
  obtain ⟨y6, e7, h⟩ := h_b1_some h
  obtain ⟨r3, s4, e5, h⟩ := h_bd_some h
  refine V_cV (As := [.int a1]) (rest := []) C mv_RX9_173 (m_X5_has l D dA bs e5) e7 rfl rfl (Nat.le_trans h_w0 (by decide)) (h_fr B (by decide)) (h_lo B (by decide)) dX9_message_5 ?_
  refine V_if_eq (tgt := 21) C dX9_message_8 (by decide) (fun c8 => ?_) (fun c8 => ?_)
  · rw [if_pos c8] at h
    obtain ⟨m9, e8, e9⟩ := h_thr_some h
    subst e8; subst e9
    exact V_throw C B hl hE hno (k := 3) (by decide) xl_3 xi_3 xg_3 xb_3 xo_3 xt_195 dX9_message_21 dX9_message_24 dX9_message_25 dX9_message_27 dX9_message_30 (h_fr B (by decide)) (h_lo B (by decide)) m9
  · rw [if_neg c8] at h
    refine V_iload_n C 2 dX9_message_11 rfl rfl ?_
    refine V_if_lt (tgt := 21) C dX9_message_12 (by decide) (fun c10 => ?_) (fun c10 => ?_)
    · rw [if_pos c10] at h
      obtain ⟨m11, e8, e9⟩ := h_thr_some h
      subst e8; subst e9
      exact V_throw C B hl hE hno (k := 3) (by decide) xl_3 xi_3 xg_3 xb_3 xo_3 xt_195 dX9_message_21 dX9_message_24 dX9_message_25 dX9_message_27 dX9_message_30 (h_fr B (by decide)) (h_lo B (by decide)) m11
    · rw [if_neg c10] at h
      refine V_iload_n C 2 dX9_message_15 rfl rfl ?_
      refine V_bipush (v := 8) C dX9_message_16 (by decide) ?_
      refine V_icmp_lt (tgt := 31) C dX9_message_18 (by decide) (fun c12 => ?_) (fun c12 => ?_)
      · rw [if_pos c12] at h
        refine V_aload_n C 0 dX9_message_31 rfl rfl ?_
        obtain ⟨x13, e14, h⟩ := h_b1_some h
        refine V_getR C fl_RX9_32 dX9_message_32 e14 ?_
        refine V_iload_n C 1 dX9_message_35 rfl rfl ?_
        refine V_iload_n C 2 dX9_message_36 rfl rfl ?_
        obtain ⟨y18, e19, h⟩ := h_b1_some h
        obtain ⟨r15, s16, e17, h⟩ := h_bd_some h
        refine V_cV (As := [.int a1, .int a2]) (rest := []) C mv_RX9_197 (m_X5_get l D dA bs e17) e19 rfl rfl (Nat.le_trans h_w0 (by decide)) (h_fr B (by decide)) (h_lo B (by decide)) dX9_message_37 ?_
        cases h
        exact V_xret (V_iret C B dX9_message_40)
      · rw [if_neg c12] at h
        obtain ⟨m20, e8, e9⟩ := h_thr_some h
        subst e8; subst e9
        exact V_throw C B hl hE hno (k := 3) (by decide) xl_3 xi_3 xg_3 xb_3 xo_3 xt_195 dX9_message_21 dX9_message_24 dX9_message_25 dX9_message_27 dX9_message_30 (h_fr B (by decide)) (h_lo B (by decide)) m20
/-! X9_run -/
theorem dX9_run_0 : decode cX9_run 0 = .ok (.iload_n 1, 1) := by decide +kernel
theorem dX9_run_1 : decode cX9_run 1 = .ok (.ifCond .lt 10, 3) := by decide +kernel
theorem dX9_run_4 : decode cX9_run 4 = .ok (.iload_n 1, 1) := by decide +kernel
theorem dX9_run_5 : decode cX9_run 5 = .ok (.sipush 1000, 3) := by decide +kernel
theorem dX9_run_8 : decode cX9_run 8 = .ok (.if_icmp .le 13, 3) := by decide +kernel
theorem dX9_run_11 : decode cX9_run 11 = .ok (.new 56, 3) := by decide +kernel
theorem dX9_run_14 : decode cX9_run 14 = .ok (.dup, 1) := by decide +kernel
theorem dX9_run_15 : decode cX9_run 15 = .ok (.ldc 201, 2) := by decide +kernel
theorem dX9_run_17 : decode cX9_run 17 = .ok (.invokespecial 60, 3) := by decide +kernel
theorem dX9_run_20 : decode cX9_run 20 = .ok (.athrow, 1) := by decide +kernel
theorem dX9_run_21 : decode cX9_run 21 = .ok (.iconst 0, 1) := by decide +kernel
theorem dX9_run_22 : decode cX9_run 22 = .ok (.istore_n 2, 1) := by decide +kernel
theorem dX9_run_23 : decode cX9_run 23 = .ok (.iload_n 2, 1) := by decide +kernel
theorem dX9_run_24 : decode cX9_run 24 = .ok (.iload_n 1, 1) := by decide +kernel
theorem dX9_run_25 : decode cX9_run 25 = .ok (.if_icmp .ge 24, 3) := by decide +kernel
theorem dX9_run_28 : decode cX9_run 28 = .ok (.aload_n 0, 1) := by decide +kernel
theorem dX9_run_29 : decode cX9_run 29 = .ok (.getfield 32, 3) := by decide +kernel
theorem dX9_run_32 : decode cX9_run 32 = .ok (.getfield 203, 3) := by decide +kernel
theorem dX9_run_35 : decode cX9_run 35 = .ok (.ifCond .le 14, 3) := by decide +kernel
theorem dX9_run_38 : decode cX9_run 38 = .ok (.aload_n 0, 1) := by decide +kernel
theorem dX9_run_39 : decode cX9_run 39 = .ok (.iconst 0, 1) := by decide +kernel
theorem dX9_run_40 : decode cX9_run 40 = .ok (.invokevirtual 181, 3) := by decide +kernel
theorem dX9_run_43 : decode cX9_run 43 = .ok (.iinc 2 1, 3) := by decide +kernel
theorem dX9_run_46 : decode cX9_run 46 = .ok (.goto (-23), 3) := by decide +kernel
theorem dX9_run_49 : decode cX9_run 49 = .ok (.iload_n 2, 1) := by decide +kernel
theorem dX9_run_50 : decode cX9_run 50 = .ok (.ireturn, 1) := by decide +kernel
def g_X9_run_23 : Nat → HS → Option Nat → Int32 → Int32 → Option (Except Nat Int32 × HS)
  | 0, _, _, _, _ => none
  | n + 1, σ, l0, l1, l2 =>
    if l1 ≤ l2 then
      some (.ok l2, σ)
    else
      h_b1 (h_gR σ l0 10 4) fun x5 =>
      h_b1 (h_gI σ x5 6 2) fun x7 =>
      if x7 ≤ 0 then
        some (.ok l2, σ)
      else
        h_b1 (h_rcv σ l0 10) fun y13 =>
        h_bd (f_X9_bring σ l0 0) fun _ s11 =>
        g_X9_run_23 n s11 l0 l1 (l2 + 1)
def f_X9_run (σ : HS) (a0 : Option Nat) (a1 : Int32) : Option (Except Nat Int32 × HS) :=
  if a1 < 0 then
    h_thr 1 σ
  else
    if a1 ≤ 1000 then
      g_X9_run_23 h_hN σ a0 a1 0
    else
      h_thr 1 σ
set_option maxHeartbeats 4000000 in
set_option maxRecDepth 100000 in
theorem w_X9_run_23 {p : Program} {l : Launch} {e : Env} {R : Room} {s : State} {m : MethodId} {args : Array Value} {below : List Frame} {meth : Method} {c : Code} {D : va_G} {dA : Nat → ClassId} {bs : Nat} (C : h_C p m c cX9_run 3 s args RX9 D dA) {σ0 : HS} (B : h_B R s meth σ0 (some .int) 7 208) (hl : l.stackTraces = false) (hE : h_EX bs s) (hno : ∀ x ∈ c.exceptionTable.toList, False) {σ' : HS} {r : Except Nat Int32} : ∀ (n : Nat) (σ : HS) (l0 : Option Nat) (l1 : Int32) (l2 : Int32), g_X9_run_23 n σ l0 l1 l2 = some (r, σ') → V p l e R s m args below meth c D dA bs 3 (vx_MQ below (h_QX D dA bs (h_rI r) σ0 σ') (h_XC D dA bs (h_rI r) σ0 σ') args s R.cells R.slots (fun q => bs ≤ q)) σ 23 [(0, va_rf l0), (1, .int l1), (2, .int l2)] [] := by
  intro n
  induction n with
  | zero =>
    intro σ l0 l1 l2 h
    rw [g_X9_run_23] at h
    cases h
  | succ n ih =>
    intro σ l0 l1 l2 h
    rw [g_X9_run_23] at h
    refine V_iload_n C 2 dX9_run_23 rfl rfl ?_
    refine V_iload_n C 1 dX9_run_24 rfl rfl ?_
    refine V_icmp_ge (tgt := 49) C dX9_run_25 (by decide) (fun c4 => ?_) (fun c4 => ?_)
    · rw [if_pos c4] at h
      refine V_iload_n C 2 dX9_run_49 rfl rfl ?_
      cases h
      exact V_xret (V_iret C B dX9_run_50)
    · rw [if_neg c4] at h
      refine V_aload_n C 0 dX9_run_28 rfl rfl ?_
      obtain ⟨x5, e6, h⟩ := h_b1_some h
      refine V_getR C fl_RX9_32 dX9_run_29 e6 ?_
      obtain ⟨x7, e8, h⟩ := h_b1_some h
      refine V_getI C fl_RX9_203 dX9_run_32 e8 ?_
      refine V_if_le (tgt := 49) C dX9_run_35 (by decide) (fun c9 => ?_) (fun c9 => ?_)
      · rw [if_pos c9] at h
        refine V_iload_n C 2 dX9_run_49 rfl rfl ?_
        cases h
        exact V_xret (V_iret C B dX9_run_50)
      · rw [if_neg c9] at h
        refine V_aload_n C 0 dX9_run_38 rfl rfl ?_
        refine V_iconst (v := 0) C dX9_run_39 (by decide) ?_
        obtain ⟨y13, e14, h⟩ := h_b1_some h
        obtain ⟨r10, s11, e12, h⟩ := h_bd_some h
        refine V_cV (As := [.int 0]) (rest := []) C mv_RX9_181 (m_X9_bring l D dA bs e12) e14 rfl rfl (Nat.le_trans h_w0 (by decide)) (h_fr B (by decide)) (h_lo B (by decide)) dX9_run_40 ?_
        refine V_iinc (v := (l2 + 1)) (lv' := [(2, .int (l2 + 1)), (0, va_rf l0), (1, .int l1)]) C 2 dX9_run_43 rfl rfl (by decide) rfl ?_
        refine V_goto (tgt := 23) C dX9_run_46 (by decide) ?_
        exact V_sub [1, 2, 0] rfl (ih s11 l0 l1 (l2 + 1) h)
set_option maxHeartbeats 4000000 in
set_option maxRecDepth 100000 in
theorem m_X9_run (l : Launch) (hl : l.stackTraces = false) (D : va_G) (dA : Nat → ClassId) (bs : Nat) {σ σ' : HS} {a0 : Option Nat} {a1 : Int32} {r : Except Nat Int32} (h : f_X9_run σ a0 a1 = some (r, σ')) : MetX l yX9_run cX9_run 3 (some .int) 7 208 D dA bs [va_rf a0, .int a1] (h_rI r) σ σ' := by
  refine MetX.of (by decide) (h_avR (h_avI h_av0)) (Nat.le_of_ble_eq_true rfl) ?_
  intro p e R s m args below meth c C B hE hno
  unfold f_X9_run at h
  refine V_sub (lv' := [(0, va_rf a0), (1, .int a1)]) [0, 1] rfl ?_
  refine V_iload_n C 1 dX9_run_0 rfl rfl ?_
  refine V_if_lt (tgt := 11) C dX9_run_1 (by decide) (fun c1 => ?_) (fun c1 => ?_)
  · rw [if_pos c1] at h
    obtain ⟨m2, e8, e9⟩ := h_thr_some h
    subst e8; subst e9
    exact V_throw C B hl hE hno (k := 1) (by decide) xl_1 xi_1 xg_1 xb_1 xo_1 xt_201 dX9_run_11 dX9_run_14 dX9_run_15 dX9_run_17 dX9_run_20 (h_fr B (by decide)) (h_lo B (by decide)) m2
  · rw [if_neg c1] at h
    refine V_iload_n C 1 dX9_run_4 rfl rfl ?_
    refine V_sipush (v := 1000) C dX9_run_5 (by decide) ?_
    refine V_icmp_le (tgt := 21) C dX9_run_8 (by decide) (fun c3 => ?_) (fun c3 => ?_)
    · rw [if_pos c3] at h
      refine V_iconst (v := 0) C dX9_run_21 (by decide) ?_
      refine V_istore_n (lv' := [(2, .int 0), (0, va_rf a0), (1, .int a1)]) C dX9_run_22 rfl (by decide) rfl ?_
      exact V_sub [1, 2, 0] rfl (w_X9_run_23 C B hl hE hno h_hN σ a0 a1 0 h)
    · rw [if_neg c3] at h
      obtain ⟨m15, e8, e9⟩ := h_thr_some h
      subst e8; subst e9
      exact V_throw C B hl hE hno (k := 1) (by decide) xl_1 xi_1 xg_1 xb_1 xo_1 xt_201 dX9_run_11 dX9_run_14 dX9_run_15 dX9_run_17 dX9_run_20 (h_fr B (by decide)) (h_lo B (by decide)) m15
/-! X9_pass -/
theorem dX9_pass_0 : decode cX9_pass 0 = .ok (.iload_n 1, 1) := by decide +kernel
theorem dX9_pass_1 : decode cX9_pass 1 = .ok (.iconst 1, 1) := by decide +kernel
theorem dX9_pass_2 : decode cX9_pass 2 = .ok (.if_icmp .lt 21, 3) := by decide +kernel
theorem dX9_pass_5 : decode cX9_pass 5 = .ok (.iload_n 1, 1) := by decide +kernel
theorem dX9_pass_6 : decode cX9_pass 6 = .ok (.sipush 1000, 3) := by decide +kernel
theorem dX9_pass_9 : decode cX9_pass 9 = .ok (.if_icmp .gt 14, 3) := by decide +kernel
theorem dX9_pass_12 : decode cX9_pass 12 = .ok (.aload_n 0, 1) := by decide +kernel
theorem dX9_pass_13 : decode cX9_pass 13 = .ok (.getfield 135, 3) := by decide +kernel
theorem dX9_pass_16 : decode cX9_pass 16 = .ok (.iload_n 1, 1) := by decide +kernel
theorem dX9_pass_17 : decode cX9_pass 17 = .ok (.iadd, 1) := by decide +kernel
theorem dX9_pass_18 : decode cX9_pass 18 = .ok (.ldc 206, 2) := by decide +kernel
theorem dX9_pass_20 : decode cX9_pass 20 = .ok (.if_icmp .le 13, 3) := by decide +kernel
theorem dX9_pass_23 : decode cX9_pass 23 = .ok (.new 56, 3) := by decide +kernel
theorem dX9_pass_26 : decode cX9_pass 26 = .ok (.dup, 1) := by decide +kernel
theorem dX9_pass_27 : decode cX9_pass 27 = .ok (.ldc 207, 2) := by decide +kernel
theorem dX9_pass_29 : decode cX9_pass 29 = .ok (.invokespecial 60, 3) := by decide +kernel
theorem dX9_pass_32 : decode cX9_pass 32 = .ok (.athrow, 1) := by decide +kernel
theorem dX9_pass_33 : decode cX9_pass 33 = .ok (.aload_n 0, 1) := by decide +kernel
theorem dX9_pass_34 : decode cX9_pass 34 = .ok (.dup, 1) := by decide +kernel
theorem dX9_pass_35 : decode cX9_pass 35 = .ok (.getfield 135, 3) := by decide +kernel
theorem dX9_pass_38 : decode cX9_pass 38 = .ok (.iload_n 1, 1) := by decide +kernel
theorem dX9_pass_39 : decode cX9_pass 39 = .ok (.iadd, 1) := by decide +kernel
theorem dX9_pass_40 : decode cX9_pass 40 = .ok (.putfield 135, 3) := by decide +kernel
theorem dX9_pass_43 : decode cX9_pass 43 = .ok (.return_, 1) := by decide +kernel
def f_X9_pass (σ : HS) (a0 : Option Nat) (a1 : Int32) : Option (Except Nat Unit × HS) :=
  if a1 < 1 then
    h_thr 1 σ
  else
    if 1000 < a1 then
      h_thr 1 σ
    else
      h_b1 (h_gI σ a0 10 9) fun x5 =>
      if (x5 + a1) ≤ 1000000 then
        h_b1 (h_gI σ a0 10 9) fun x8 =>
        h_b1 (h_pI σ a0 10 9 (x8 + a1)) fun s10 =>
        some (.ok (), s10)
      else
        h_thr 1 σ
set_option maxHeartbeats 4000000 in
set_option maxRecDepth 100000 in
theorem m_X9_pass (l : Launch) (hl : l.stackTraces = false) (D : va_G) (dA : Nat → ClassId) (bs : Nat) {σ σ' : HS} {a0 : Option Nat} {a1 : Int32} {r : Except Nat Unit} (h : f_X9_pass σ a0 a1 = some (r, σ')) : MetX l yX9_pass cX9_pass 2 none 6 82 D dA bs [va_rf a0, .int a1] (h_rV r) σ σ' := by
  refine MetX.of (by decide) (h_avR (h_avI h_av0)) (Nat.le_of_ble_eq_true rfl) ?_
  intro p e R s m args below meth c C B hE hno
  unfold f_X9_pass at h
  refine V_sub (lv' := [(0, va_rf a0), (1, .int a1)]) [0, 1] rfl ?_
  refine V_iload_n C 1 dX9_pass_0 rfl rfl ?_
  refine V_iconst (v := 1) C dX9_pass_1 (by decide) ?_
  refine V_icmp_lt (tgt := 23) C dX9_pass_2 (by decide) (fun c1 => ?_) (fun c1 => ?_)
  · rw [if_pos c1] at h
    obtain ⟨m2, e8, e9⟩ := h_thr_some h
    subst e8; subst e9
    exact V_throw C B hl hE hno (k := 1) (by decide) xl_1 xi_1 xg_1 xb_1 xo_1 xt_207 dX9_pass_23 dX9_pass_26 dX9_pass_27 dX9_pass_29 dX9_pass_32 (h_fr B (by decide)) (h_lo B (by decide)) m2
  · rw [if_neg c1] at h
    refine V_iload_n C 1 dX9_pass_5 rfl rfl ?_
    refine V_sipush (v := 1000) C dX9_pass_6 (by decide) ?_
    refine V_icmp_gt (tgt := 23) C dX9_pass_9 (by decide) (fun c3 => ?_) (fun c3 => ?_)
    · rw [if_pos c3] at h
      obtain ⟨m4, e8, e9⟩ := h_thr_some h
      subst e8; subst e9
      exact V_throw C B hl hE hno (k := 1) (by decide) xl_1 xi_1 xg_1 xb_1 xo_1 xt_207 dX9_pass_23 dX9_pass_26 dX9_pass_27 dX9_pass_29 dX9_pass_32 (h_fr B (by decide)) (h_lo B (by decide)) m4
    · rw [if_neg c3] at h
      refine V_aload_n C 0 dX9_pass_12 rfl rfl ?_
      obtain ⟨x5, e6, h⟩ := h_b1_some h
      refine V_getI C fl_RX9_135 dX9_pass_13 e6 ?_
      refine V_iload_n C 1 dX9_pass_16 rfl rfl ?_
      refine V_iadd C dX9_pass_17 ?_
      refine V_ldc (v := 1000000) C dX9_pass_18 ck_RX9_206 ?_
      refine V_icmp_le (tgt := 33) C dX9_pass_20 (by decide) (fun c7 => ?_) (fun c7 => ?_)
      · rw [if_pos c7] at h
        refine V_aload_n C 0 dX9_pass_33 rfl rfl ?_
        refine V_dupR C dX9_pass_34 ?_
        obtain ⟨x8, e9, h⟩ := h_b1_some h
        refine V_getI C fl_RX9_135 dX9_pass_35 e9 ?_
        refine V_iload_n C 1 dX9_pass_38 rfl rfl ?_
        refine V_iadd C dX9_pass_39 ?_
        obtain ⟨s10, e11, h⟩ := h_b1_some h
        refine V_putI C fw_RX9_135 dX9_pass_40 e11 ?_
        cases h
        exact V_xret (V_vret C B dX9_pass_43)
      · rw [if_neg c7] at h
        obtain ⟨m12, e8, e9⟩ := h_thr_some h
        subst e8; subst e9
        exact V_throw C B hl hE hno (k := 1) (by decide) xl_1 xi_1 xg_1 xb_1 xo_1 xt_207 dX9_pass_23 dX9_pass_26 dX9_pass_27 dX9_pass_29 dX9_pass_32 (h_fr B (by decide)) (h_lo B (by decide)) m12
/-! X9_packet -/
theorem dX9_packet_0 : decode cX9_packet 0 = .ok (.aload_n 0, 1) := by decide +kernel
theorem dX9_packet_1 : decode cX9_packet 1 = .ok (.iload_n 1, 1) := by decide +kernel
theorem dX9_packet_2 : decode cX9_packet 2 = .ok (.invokevirtual 209, 3) := by decide +kernel
theorem dX9_packet_5 : decode cX9_packet 5 = .ok (.astore_n 3, 1) := by decide +kernel
theorem dX9_packet_6 : decode cX9_packet 6 = .ok (.aload_n 3, 1) := by decide +kernel
theorem dX9_packet_7 : decode cX9_packet 7 = .ok (.ifnonnull 13, 3) := by decide +kernel
theorem dX9_packet_10 : decode cX9_packet 10 = .ok (.new 56, 3) := by decide +kernel
theorem dX9_packet_13 : decode cX9_packet 13 = .ok (.dup, 1) := by decide +kernel
theorem dX9_packet_14 : decode cX9_packet 14 = .ok (.ldc 213, 2) := by decide +kernel
theorem dX9_packet_16 : decode cX9_packet 16 = .ok (.invokespecial 60, 3) := by decide +kernel
theorem dX9_packet_19 : decode cX9_packet 19 = .ok (.athrow, 1) := by decide +kernel
theorem dX9_packet_20 : decode cX9_packet 20 = .ok (.iload_n 2, 1) := by decide +kernel
theorem dX9_packet_21 : decode cX9_packet 21 = .ok (.tableswitch 51 0 3 #[31, 36, 41, 46], 31) := by decide +kernel
theorem dX9_packet_52 : decode cX9_packet 52 = .ok (.aload_n 3, 1) := by decide +kernel
theorem dX9_packet_53 : decode cX9_packet 53 = .ok (.getfield 215, 3) := by decide +kernel
theorem dX9_packet_56 : decode cX9_packet 56 = .ok (.ireturn, 1) := by decide +kernel
theorem dX9_packet_57 : decode cX9_packet 57 = .ok (.aload_n 3, 1) := by decide +kernel
theorem dX9_packet_58 : decode cX9_packet 58 = .ok (.getfield 218, 3) := by decide +kernel
theorem dX9_packet_61 : decode cX9_packet 61 = .ok (.ireturn, 1) := by decide +kernel
theorem dX9_packet_62 : decode cX9_packet 62 = .ok (.aload_n 3, 1) := by decide +kernel
theorem dX9_packet_63 : decode cX9_packet 63 = .ok (.getfield 221, 3) := by decide +kernel
theorem dX9_packet_66 : decode cX9_packet 66 = .ok (.ireturn, 1) := by decide +kernel
theorem dX9_packet_67 : decode cX9_packet 67 = .ok (.aload_n 3, 1) := by decide +kernel
theorem dX9_packet_68 : decode cX9_packet 68 = .ok (.getfield 224, 3) := by decide +kernel
theorem dX9_packet_71 : decode cX9_packet 71 = .ok (.ireturn, 1) := by decide +kernel
theorem dX9_packet_72 : decode cX9_packet 72 = .ok (.iconst (-1), 1) := by decide +kernel
theorem dX9_packet_73 : decode cX9_packet 73 = .ok (.ireturn, 1) := by decide +kernel
def f_X9_packet (σ : HS) (a0 : Option Nat) (a1 : Int32) (a2 : Int32) : Option (Except Nat Int32 × HS) :=
  h_b1 (h_rcv σ a0 10) fun y4 =>
  h_bd (f_X9_packetAt σ a0 a1) fun r1 s2 =>
  if r1 = none then
    h_thr 1 s2
  else
    if a2 = 0 then
      h_b1 (h_gI s2 r1 4 3) fun x8 =>
      some (.ok x8, s2)
    else
      if a2 = 1 then
        h_b1 (h_gI s2 r1 4 5) fun x11 =>
        some (.ok x11, s2)
      else
        if a2 = 2 then
          h_b1 (h_gI s2 r1 4 6) fun x14 =>
          some (.ok x14, s2)
        else
          if a2 = 3 then
            h_b1 (h_gI s2 r1 4 7) fun x17 =>
            some (.ok x17, s2)
          else
            some (.ok (-1), s2)
set_option maxHeartbeats 4000000 in
set_option maxRecDepth 100000 in
theorem m_X9_packet (l : Launch) (hl : l.stackTraces = false) (D : va_G) (dA : Nat → ClassId) (bs : Nat) {σ σ' : HS} {a0 : Option Nat} {a1 : Int32} {a2 : Int32} {r : Except Nat Int32} (h : f_X9_packet σ a0 a1 a2 = some (r, σ')) : MetX l yX9_packet cX9_packet 4 (some .int) 6 82 D dA bs [va_rf a0, .int a1, .int a2] (h_rI r) σ σ' := by
  refine MetX.of (by decide) (h_avR (h_avI (h_avI h_av0))) (Nat.le_of_ble_eq_true rfl) ?_
  intro p e R s m args below meth c C B hE hno
  unfold f_X9_packet at h
  refine V_sub (lv' := [(0, va_rf a0), (1, .int a1), (2, .int a2)]) [0, 1, 2] rfl ?_
  refine V_aload_n C 0 dX9_packet_0 rfl rfl ?_
  refine V_iload_n C 1 dX9_packet_1 rfl rfl ?_
  obtain ⟨y4, e5, h⟩ := h_b1_some h
  obtain ⟨r1, s2, e3, h⟩ := h_bd_some h
  refine V_cV (As := [.int a1]) (rest := []) C mv_RX9_209 (m_X9_packetAt l D dA bs e3) e5 rfl rfl (Nat.le_trans h_w0 (by decide)) (h_fr B (by decide)) (h_lo B (by decide)) dX9_packet_2 ?_
  refine V_astore_n (lv' := [(3, va_rf r1), (0, va_rf a0), (1, .int a1), (2, .int a2)]) C dX9_packet_5 rfl (by decide) rfl ?_
  refine V_aload_n C 0 dX9_packet_6 rfl rfl ?_
  refine V_ifnonnull (tgt := 20) C dX9_packet_7 (by decide) (fun c6 => ?_) (fun c6 => ?_)
  · rw [if_neg c6] at h
    refine V_iload_n C 3 dX9_packet_20 rfl rfl ?_
    by_cases c7 : a2 = 0
    · rw [if_pos c7] at h
      refine V_tabIn (tgt := 52) C dX9_packet_21 (by rw [c7]; decide) (by rw [c7]; decide) (by rw [c7]; rfl) (by decide) ?_
      refine V_aload_n C 0 dX9_packet_52 rfl rfl ?_
      obtain ⟨x8, e9, h⟩ := h_b1_some h
      refine V_getI C fl_RX9_215 dX9_packet_53 e9 ?_
      cases h
      exact V_xret (V_iret C B dX9_packet_56)
    · rw [if_neg c7] at h
      by_cases c10 : a2 = 1
      · rw [if_pos c10] at h
        refine V_tabIn (tgt := 57) C dX9_packet_21 (by rw [c10]; decide) (by rw [c10]; decide) (by rw [c10]; rfl) (by decide) ?_
        refine V_aload_n C 0 dX9_packet_57 rfl rfl ?_
        obtain ⟨x11, e12, h⟩ := h_b1_some h
        refine V_getI C fl_RX9_218 dX9_packet_58 e12 ?_
        cases h
        exact V_xret (V_iret C B dX9_packet_61)
      · rw [if_neg c10] at h
        by_cases c13 : a2 = 2
        · rw [if_pos c13] at h
          refine V_tabIn (tgt := 62) C dX9_packet_21 (by rw [c13]; decide) (by rw [c13]; decide) (by rw [c13]; rfl) (by decide) ?_
          refine V_aload_n C 0 dX9_packet_62 rfl rfl ?_
          obtain ⟨x14, e15, h⟩ := h_b1_some h
          refine V_getI C fl_RX9_221 dX9_packet_63 e15 ?_
          cases h
          exact V_xret (V_iret C B dX9_packet_66)
        · rw [if_neg c13] at h
          by_cases c16 : a2 = 3
          · rw [if_pos c16] at h
            refine V_tabIn (tgt := 67) C dX9_packet_21 (by rw [c16]; decide) (by rw [c16]; decide) (by rw [c16]; rfl) (by decide) ?_
            refine V_aload_n C 0 dX9_packet_67 rfl rfl ?_
            obtain ⟨x17, e18, h⟩ := h_b1_some h
            refine V_getI C fl_RX9_224 dX9_packet_68 e18 ?_
            cases h
            exact V_xret (V_iret C B dX9_packet_71)
          · rw [if_neg c16] at h
            refine V_tabOut (tgt := 72) C dX9_packet_21 (by have q0 := lv_neT c7 (show (0 : Int32).toInt = 0 by decide); have q1 := lv_neT c10 (show (1 : Int32).toInt = 1 by decide); have q2 := lv_neT c13 (show (2 : Int32).toInt = 2 by decide); have q3 := lv_neT c16 (show (3 : Int32).toInt = 3 by decide); omega) (by decide) ?_
            refine V_iconst (v := (-1)) C dX9_packet_72 (by decide) ?_
            cases h
            exact V_xret (V_iret C B dX9_packet_73)
  · rw [if_pos c6] at h
    obtain ⟨m19, e8, e9⟩ := h_thr_some h
    subst e8; subst e9
    exact V_throw C B hl hE hno (k := 1) (by decide) xl_1 xi_1 xg_1 xb_1 xo_1 xt_213 dX9_packet_10 dX9_packet_13 dX9_packet_14 dX9_packet_16 dX9_packet_19 (h_fr B (by decide)) (h_lo B (by decide)) m19
/-! X9_note -/
theorem dX9_note_0 : decode cX9_note 0 = .ok (.aload_n 0, 1) := by decide +kernel
theorem dX9_note_1 : decode cX9_note 1 = .ok (.iload_n 1, 1) := by decide +kernel
theorem dX9_note_2 : decode cX9_note 2 = .ok (.invokevirtual 107, 3) := by decide +kernel
theorem dX9_note_5 : decode cX9_note 5 = .ok (.astore 4, 2) := by decide +kernel
theorem dX9_note_7 : decode cX9_note 7 = .ok (.aload 4, 2) := by decide +kernel
theorem dX9_note_9 : decode cX9_note 9 = .ok (.ifnonnull 13, 3) := by decide +kernel
theorem dX9_note_12 : decode cX9_note 12 = .ok (.new 56, 3) := by decide +kernel
theorem dX9_note_15 : decode cX9_note 15 = .ok (.dup, 1) := by decide +kernel
theorem dX9_note_16 : decode cX9_note 16 = .ok (.ldc 138, 2) := by decide +kernel
theorem dX9_note_18 : decode cX9_note 18 = .ok (.invokespecial 60, 3) := by decide +kernel
theorem dX9_note_21 : decode cX9_note 21 = .ok (.athrow, 1) := by decide +kernel
theorem dX9_note_22 : decode cX9_note 22 = .ok (.aload 4, 2) := by decide +kernel
theorem dX9_note_24 : decode cX9_note 24 = .ok (.getfield 227, 3) := by decide +kernel
theorem dX9_note_27 : decode cX9_note 27 = .ok (.iload_n 2, 1) := by decide +kernel
theorem dX9_note_28 : decode cX9_note 28 = .ok (.aload_n 0, 1) := by decide +kernel
theorem dX9_note_29 : decode cX9_note 29 = .ok (.getfield 135, 3) := by decide +kernel
theorem dX9_note_32 : decode cX9_note 32 = .ok (.invokevirtual 231, 3) := by decide +kernel
theorem dX9_note_35 : decode cX9_note 35 = .ok (.astore 5, 2) := by decide +kernel
theorem dX9_note_37 : decode cX9_note 37 = .ok (.aload 5, 2) := by decide +kernel
theorem dX9_note_39 : decode cX9_note 39 = .ok (.ifnonnull 5, 3) := by decide +kernel
theorem dX9_note_42 : decode cX9_note 42 = .ok (.iconst (-1), 1) := by decide +kernel
theorem dX9_note_43 : decode cX9_note 43 = .ok (.ireturn, 1) := by decide +kernel
theorem dX9_note_44 : decode cX9_note 44 = .ok (.iload_n 3, 1) := by decide +kernel
theorem dX9_note_45 : decode cX9_note 45 = .ok (.tableswitch 48 0 2 #[27, 36, 42], 27) := by decide +kernel
theorem dX9_note_72 : decode cX9_note 72 = .ok (.aload 5, 2) := by decide +kernel
theorem dX9_note_74 : decode cX9_note 74 = .ok (.getfield 237, 3) := by decide +kernel
theorem dX9_note_77 : decode cX9_note 77 = .ok (.getfield 242, 3) := by decide +kernel
theorem dX9_note_80 : decode cX9_note 80 = .ok (.ireturn, 1) := by decide +kernel
theorem dX9_note_81 : decode cX9_note 81 = .ok (.aload 5, 2) := by decide +kernel
theorem dX9_note_83 : decode cX9_note 83 = .ok (.getfield 245, 3) := by decide +kernel
theorem dX9_note_86 : decode cX9_note 86 = .ok (.ireturn, 1) := by decide +kernel
theorem dX9_note_87 : decode cX9_note 87 = .ok (.aload 5, 2) := by decide +kernel
theorem dX9_note_89 : decode cX9_note 89 = .ok (.getfield 246, 3) := by decide +kernel
theorem dX9_note_92 : decode cX9_note 92 = .ok (.ireturn, 1) := by decide +kernel
theorem dX9_note_93 : decode cX9_note 93 = .ok (.iconst (-1), 1) := by decide +kernel
theorem dX9_note_94 : decode cX9_note 94 = .ok (.ireturn, 1) := by decide +kernel
def f_X9_note (σ : HS) (a0 : Option Nat) (a1 : Int32) (a2 : Int32) (a3 : Int32) : Option (Except Nat Int32 × HS) :=
  h_b1 (h_rcv σ a0 10) fun y4 =>
  h_bd (f_X9_siteAt σ a0 a1) fun r1 s2 =>
  if r1 = none then
    h_thr 1 s2
  else
    h_b1 (h_gR s2 r1 8 4) fun x7 =>
    h_b1 (h_gI s2 a0 10 9) fun x9 =>
    h_b1 (h_rcv s2 x7 3) fun y14 =>
    h_bd (f_X2_find s2 x7 a2 x9) fun r11 s12 =>
    if r11 = none then
      some (.ok (-1), s12)
    else
      if a3 = 0 then
        h_b1 (h_gR s12 r11 2 0) fun x18 =>
        h_b1 (h_gI s12 x18 5 1) fun x20 =>
        some (.ok x20, s12)
      else
        if a3 = 1 then
          h_b1 (h_gI s12 r11 2 1) fun x23 =>
          some (.ok x23, s12)
        else
          if a3 = 2 then
            h_b1 (h_gI s12 r11 2 2) fun x26 =>
            some (.ok x26, s12)
          else
            some (.ok (-1), s12)
set_option maxHeartbeats 4000000 in
set_option maxRecDepth 100000 in
theorem m_X9_note (l : Launch) (hl : l.stackTraces = false) (D : va_G) (dA : Nat → ClassId) (bs : Nat) {σ σ' : HS} {a0 : Option Nat} {a1 : Int32} {a2 : Int32} {a3 : Int32} {r : Except Nat Int32} (h : f_X9_note σ a0 a1 a2 a3 = some (r, σ')) : MetX l yX9_note cX9_note 6 (some .int) 6 82 D dA bs [va_rf a0, .int a1, .int a2, .int a3] (h_rI r) σ σ' := by
  refine MetX.of (by decide) (h_avR (h_avI (h_avI (h_avI h_av0)))) (Nat.le_of_ble_eq_true rfl) ?_
  intro p e R s m args below meth c C B hE hno
  unfold f_X9_note at h
  refine V_sub (lv' := [(0, va_rf a0), (1, .int a1), (2, .int a2), (3, .int a3)]) [0, 1, 2, 3] rfl ?_
  refine V_aload_n C 0 dX9_note_0 rfl rfl ?_
  refine V_iload_n C 1 dX9_note_1 rfl rfl ?_
  obtain ⟨y4, e5, h⟩ := h_b1_some h
  obtain ⟨r1, s2, e3, h⟩ := h_bd_some h
  refine V_cV (As := [.int a1]) (rest := []) C mv_RX9_107 (m_X9_siteAt l D dA bs e3) e5 rfl rfl (Nat.le_trans h_w0 (by decide)) (h_fr B (by decide)) (h_lo B (by decide)) dX9_note_2 ?_
  refine V_astore (lv' := [(4, va_rf r1), (0, va_rf a0), (1, .int a1), (2, .int a2), (3, .int a3)]) C dX9_note_5 (by decide) rfl ?_
  refine V_aload C 0 dX9_note_7 rfl ?_
  refine V_ifnonnull (tgt := 22) C dX9_note_9 (by decide) (fun c6 => ?_) (fun c6 => ?_)
  · rw [if_neg c6] at h
    refine V_aload C 0 dX9_note_22 rfl ?_
    obtain ⟨x7, e8, h⟩ := h_b1_some h
    refine V_getR C fl_RX9_227 dX9_note_24 e8 ?_
    refine V_iload_n C 3 dX9_note_27 rfl rfl ?_
    refine V_aload_n C 1 dX9_note_28 rfl rfl ?_
    obtain ⟨x9, e10, h⟩ := h_b1_some h
    refine V_getI C fl_RX9_135 dX9_note_29 e10 ?_
    obtain ⟨y14, e15, h⟩ := h_b1_some h
    obtain ⟨r11, s12, e13, h⟩ := h_bd_some h
    refine V_cV (As := [.int a2, .int x9]) (rest := []) C mv_RX9_231 (m_X2_find l D dA bs e13) e15 rfl rfl (Nat.le_trans h_w0 (by decide)) (h_fr B (by decide)) (h_lo B (by decide)) dX9_note_32 ?_
    refine V_astore (lv' := [(5, va_rf r11), (4, va_rf r1), (0, va_rf a0), (1, .int a1), (2, .int a2), (3, .int a3)]) C dX9_note_35 (by decide) rfl ?_
    refine V_aload C 0 dX9_note_37 rfl ?_
    refine V_ifnonnull (tgt := 44) C dX9_note_39 (by decide) (fun c16 => ?_) (fun c16 => ?_)
    · rw [if_neg c16] at h
      refine V_iload_n C 5 dX9_note_44 rfl rfl ?_
      by_cases c17 : a3 = 0
      · rw [if_pos c17] at h
        refine V_tabIn (tgt := 72) C dX9_note_45 (by rw [c17]; decide) (by rw [c17]; decide) (by rw [c17]; rfl) (by decide) ?_
        refine V_aload C 0 dX9_note_72 rfl ?_
        obtain ⟨x18, e19, h⟩ := h_b1_some h
        refine V_getR C fl_RX9_237 dX9_note_74 e19 ?_
        obtain ⟨x20, e21, h⟩ := h_b1_some h
        refine V_getI C fl_RX9_242 dX9_note_77 e21 ?_
        cases h
        exact V_xret (V_iret C B dX9_note_80)
      · rw [if_neg c17] at h
        by_cases c22 : a3 = 1
        · rw [if_pos c22] at h
          refine V_tabIn (tgt := 81) C dX9_note_45 (by rw [c22]; decide) (by rw [c22]; decide) (by rw [c22]; rfl) (by decide) ?_
          refine V_aload C 0 dX9_note_81 rfl ?_
          obtain ⟨x23, e24, h⟩ := h_b1_some h
          refine V_getI C fl_RX9_245 dX9_note_83 e24 ?_
          cases h
          exact V_xret (V_iret C B dX9_note_86)
        · rw [if_neg c22] at h
          by_cases c25 : a3 = 2
          · rw [if_pos c25] at h
            refine V_tabIn (tgt := 87) C dX9_note_45 (by rw [c25]; decide) (by rw [c25]; decide) (by rw [c25]; rfl) (by decide) ?_
            refine V_aload C 0 dX9_note_87 rfl ?_
            obtain ⟨x26, e27, h⟩ := h_b1_some h
            refine V_getI C fl_RX9_246 dX9_note_89 e27 ?_
            cases h
            exact V_xret (V_iret C B dX9_note_92)
          · rw [if_neg c25] at h
            refine V_tabOut (tgt := 93) C dX9_note_45 (by have q0 := lv_neT c17 (show (0 : Int32).toInt = 0 by decide); have q1 := lv_neT c22 (show (1 : Int32).toInt = 1 by decide); have q2 := lv_neT c25 (show (2 : Int32).toInt = 2 by decide); omega) (by decide) ?_
            refine V_iconst (v := (-1)) C dX9_note_93 (by decide) ?_
            cases h
            exact V_xret (V_iret C B dX9_note_94)
    · rw [if_pos c16] at h
      refine V_iconst (v := (-1)) C dX9_note_42 (by decide) ?_
      cases h
      exact V_xret (V_iret C B dX9_note_43)
  · rw [if_pos c6] at h
    obtain ⟨m28, e8, e9⟩ := h_thr_some h
    subst e8; subst e9
    exact V_throw C B hl hE hno (k := 1) (by decide) xl_1 xi_1 xg_1 xb_1 xo_1 xt_138 dX9_note_12 dX9_note_15 dX9_note_16 dX9_note_18 dX9_note_21 (h_fr B (by decide)) (h_lo B (by decide)) m28
