/-! X9_mix -/
theorem dX9_mix_0 : decode cX9_mix 0 = .ok (.iload_n 0, 1) := by decide +kernel
theorem dX9_mix_1 : decode cX9_mix 1 = .ok (.iload_n 1, 1) := by decide +kernel
theorem dX9_mix_2 : decode cX9_mix 2 = .ok (.ixor, 1) := by decide +kernel
theorem dX9_mix_3 : decode cX9_mix 3 = .ok (.ldc_w 290, 3) := by decide +kernel
theorem dX9_mix_6 : decode cX9_mix 6 = .ok (.imul, 1) := by decide +kernel
theorem dX9_mix_7 : decode cX9_mix 7 = .ok (.istore_n 2, 1) := by decide +kernel
theorem dX9_mix_8 : decode cX9_mix 8 = .ok (.iload_n 2, 1) := by decide +kernel
theorem dX9_mix_9 : decode cX9_mix 9 = .ok (.iload_n 2, 1) := by decide +kernel
theorem dX9_mix_10 : decode cX9_mix 10 = .ok (.bipush 15, 2) := by decide +kernel
theorem dX9_mix_12 : decode cX9_mix 12 = .ok (.iushr, 1) := by decide +kernel
theorem dX9_mix_13 : decode cX9_mix 13 = .ok (.ixor, 1) := by decide +kernel
theorem dX9_mix_14 : decode cX9_mix 14 = .ok (.ireturn, 1) := by decide +kernel
def f_X9_mix (σ : HS) (a0 : Int32) (a1 : Int32) : Option (Int32 × HS) :=
  some ((((a0 ^^^ a1) * 16777619) ^^^ (h_ushr ((a0 ^^^ a1) * 16777619) 15)), σ)
set_option maxHeartbeats 4000000 in
set_option maxRecDepth 100000 in
theorem m_X9_mix (l : Launch) (D : va_G) (dA : Nat → ClassId) (bs : Nat) {σ σ' : HS} {a0 : Int32} {a1 : Int32} {r : Int32} (h : f_X9_mix σ a0 a1 = some (r, σ')) : MetC l yX9_mix cX9_mix 3 (some .int) 0 0 D dA bs [.int a0, .int a1] (some (.int r)) σ σ' := by
  refine MetC.of (by decide) (h_avI (h_avI h_av0)) (Nat.le_of_ble_eq_true rfl) ?_
  intro p e R s m args below meth c C B hnm
  unfold f_X9_mix at h
  refine V_sub (lv' := [(0, .int a0), (1, .int a1)]) [0, 1] rfl ?_
  refine V_iload_n C 0 dX9_mix_0 rfl rfl ?_
  refine V_iload_n C 1 dX9_mix_1 rfl rfl ?_
  refine V_ixor C dX9_mix_2 ?_
  refine V_ldcw (v := 16777619) C dX9_mix_3 ck_RX9_290 ?_
  refine V_imul C dX9_mix_6 ?_
  refine V_istore_n (lv' := [(2, .int ((a0 ^^^ a1) * 16777619)), (0, .int a0), (1, .int a1)]) C dX9_mix_7 rfl (by decide) rfl ?_
  refine V_iload_n C 0 dX9_mix_8 rfl rfl ?_
  refine V_iload_n C 0 dX9_mix_9 rfl rfl ?_
  refine V_bipush (v := 15) C dX9_mix_10 (by decide) ?_
  refine V_iushr C dX9_mix_12 ?_
  refine V_ixor C dX9_mix_13 ?_
  cases h
  exact V_iret C B dX9_mix_14
/-! X9_tag -/
theorem dX9_tag_0 : decode cX9_tag 0 = .ok (.iload_n 0, 1) := by decide +kernel
theorem dX9_tag_1 : decode cX9_tag 1 = .ok (.iconst 1, 1) := by decide +kernel
theorem dX9_tag_2 : decode cX9_tag 2 = .ok (.iadd, 1) := by decide +kernel
theorem dX9_tag_3 : decode cX9_tag 3 = .ok (.ldc_w 283, 3) := by decide +kernel
theorem dX9_tag_6 : decode cX9_tag 6 = .ok (.imul, 1) := by decide +kernel
theorem dX9_tag_7 : decode cX9_tag 7 = .ok (.istore 4, 2) := by decide +kernel
theorem dX9_tag_9 : decode cX9_tag 9 = .ok (.iload 4, 2) := by decide +kernel
theorem dX9_tag_11 : decode cX9_tag 11 = .ok (.iload_n 0, 1) := by decide +kernel
theorem dX9_tag_12 : decode cX9_tag 12 = .ok (.invokestatic 284, 3) := by decide +kernel
theorem dX9_tag_15 : decode cX9_tag 15 = .ok (.istore 4, 2) := by decide +kernel
theorem dX9_tag_17 : decode cX9_tag 17 = .ok (.iload 4, 2) := by decide +kernel
theorem dX9_tag_19 : decode cX9_tag 19 = .ok (.aload_n 1, 1) := by decide +kernel
theorem dX9_tag_20 : decode cX9_tag 20 = .ok (.getfield 287, 3) := by decide +kernel
theorem dX9_tag_23 : decode cX9_tag 23 = .ok (.invokestatic 284, 3) := by decide +kernel
theorem dX9_tag_26 : decode cX9_tag 26 = .ok (.istore 4, 2) := by decide +kernel
theorem dX9_tag_28 : decode cX9_tag 28 = .ok (.iload 4, 2) := by decide +kernel
theorem dX9_tag_30 : decode cX9_tag 30 = .ok (.aload_n 1, 1) := by decide +kernel
theorem dX9_tag_31 : decode cX9_tag 31 = .ok (.getfield 242, 3) := by decide +kernel
theorem dX9_tag_34 : decode cX9_tag 34 = .ok (.invokestatic 284, 3) := by decide +kernel
theorem dX9_tag_37 : decode cX9_tag 37 = .ok (.istore 4, 2) := by decide +kernel
theorem dX9_tag_39 : decode cX9_tag 39 = .ok (.iload 4, 2) := by decide +kernel
theorem dX9_tag_41 : decode cX9_tag 41 = .ok (.iload_n 2, 1) := by decide +kernel
theorem dX9_tag_42 : decode cX9_tag 42 = .ok (.invokestatic 284, 3) := by decide +kernel
theorem dX9_tag_45 : decode cX9_tag 45 = .ok (.istore 4, 2) := by decide +kernel
theorem dX9_tag_47 : decode cX9_tag 47 = .ok (.iload 4, 2) := by decide +kernel
theorem dX9_tag_49 : decode cX9_tag 49 = .ok (.iload_n 3, 1) := by decide +kernel
theorem dX9_tag_50 : decode cX9_tag 50 = .ok (.invokestatic 284, 3) := by decide +kernel
theorem dX9_tag_53 : decode cX9_tag 53 = .ok (.ireturn, 1) := by decide +kernel
def f_X9_tag (σ : HS) (a0 : Int32) (a1 : Option Nat) (a2 : Int32) (a3 : Int32) : Option (Int32 × HS) :=
  h_bd (f_X9_mix σ ((a0 + 1) * 40503) a0) fun r1 s2 =>
  h_b1 (h_gI s2 a1 5 0) fun x4 =>
  h_bd (f_X9_mix s2 r1 x4) fun r6 s7 =>
  h_b1 (h_gI s7 a1 5 1) fun x9 =>
  h_bd (f_X9_mix s7 r6 x9) fun r11 s12 =>
  h_bd (f_X9_mix s12 r11 a2) fun r14 s15 =>
  h_bd (f_X9_mix s15 r14 a3) fun r17 s18 =>
  some (r17, s18)
set_option maxHeartbeats 4000000 in
set_option maxRecDepth 100000 in
theorem m_X9_tag (l : Launch) (D : va_G) (dA : Nat → ClassId) (bs : Nat) {σ σ' : HS} {a0 : Int32} {a1 : Option Nat} {a2 : Int32} {a3 : Int32} {r : Int32} (h : f_X9_tag σ a0 a1 a2 a3 = some (r, σ')) : MetC l yX9_tag cX9_tag 5 (some .int) 1 22 D dA bs [.int a0, va_rf a1, .int a2, .int a3] (some (.int r)) σ σ' := by
  refine MetC.of (by decide) (h_avI (h_avR (h_avI (h_avI h_av0)))) (Nat.le_of_ble_eq_true rfl) ?_
  intro p e R s m args below meth c C B hnm
  unfold f_X9_tag at h
  refine V_sub (lv' := [(0, .int a0), (1, va_rf a1), (2, .int a2), (3, .int a3)]) [0, 1, 2, 3] rfl ?_
  refine V_iload_n C 0 dX9_tag_0 rfl rfl ?_
  refine V_iconst (v := 1) C dX9_tag_1 (by decide) ?_
  refine V_iadd C dX9_tag_2 ?_
  refine V_ldcw (v := 40503) C dX9_tag_3 ck_RX9_283 ?_
  refine V_imul C dX9_tag_6 ?_
  refine V_istore (lv' := [(4, .int ((a0 + 1) * 40503)), (0, .int a0), (1, va_rf a1), (2, .int a2), (3, .int a3)]) C dX9_tag_7 (by decide) rfl ?_
  refine V_iload C 0 dX9_tag_9 rfl ?_
  refine V_iload_n C 1 dX9_tag_11 rfl rfl ?_
  obtain ⟨r1, s2, e3, h⟩ := h_bd_some h
  refine V_cS (As := [.int ((a0 + 1) * 40503), .int a0]) (rest := []) C ms_RX9_284 (m_X9_mix l D dA bs e3) rfl rfl (Nat.le_trans h_w0 (by decide)) (h_fr B (by decide)) (h_lo B (by decide)) dX9_tag_12 ?_
  refine V_istore (lv' := [(4, .int r1), (0, .int a0), (1, va_rf a1), (2, .int a2), (3, .int a3)]) C dX9_tag_15 (by decide) rfl ?_
  refine V_iload C 0 dX9_tag_17 rfl ?_
  refine V_aload_n C 2 dX9_tag_19 rfl rfl ?_
  obtain ⟨x4, e5, h⟩ := h_b1_some h
  refine V_getI C fl_RX9_287 dX9_tag_20 e5 ?_
  obtain ⟨r6, s7, e8, h⟩ := h_bd_some h
  refine V_cS (As := [.int r1, .int x4]) (rest := []) C ms_RX9_284 (m_X9_mix l D dA bs e8) rfl rfl (Nat.le_trans h_w0 (by decide)) (h_fr B (by decide)) (h_lo B (by decide)) dX9_tag_23 ?_
  refine V_istore (lv' := [(4, .int r6), (0, .int a0), (1, va_rf a1), (2, .int a2), (3, .int a3)]) C dX9_tag_26 (by decide) rfl ?_
  refine V_iload C 0 dX9_tag_28 rfl ?_
  refine V_aload_n C 2 dX9_tag_30 rfl rfl ?_
  obtain ⟨x9, e10, h⟩ := h_b1_some h
  refine V_getI C fl_RX9_242 dX9_tag_31 e10 ?_
  obtain ⟨r11, s12, e13, h⟩ := h_bd_some h
  refine V_cS (As := [.int r6, .int x9]) (rest := []) C ms_RX9_284 (m_X9_mix l D dA bs e13) rfl rfl (Nat.le_trans h_w0 (by decide)) (h_fr B (by decide)) (h_lo B (by decide)) dX9_tag_34 ?_
  refine V_istore (lv' := [(4, .int r11), (0, .int a0), (1, va_rf a1), (2, .int a2), (3, .int a3)]) C dX9_tag_37 (by decide) rfl ?_
  refine V_iload C 0 dX9_tag_39 rfl ?_
  refine V_iload_n C 3 dX9_tag_41 rfl rfl ?_
  obtain ⟨r14, s15, e16, h⟩ := h_bd_some h
  refine V_cS (As := [.int r11, .int a2]) (rest := []) C ms_RX9_284 (m_X9_mix l D dA bs e16) rfl rfl (Nat.le_trans h_w0 (by decide)) (h_fr B (by decide)) (h_lo B (by decide)) dX9_tag_42 ?_
  refine V_istore (lv' := [(4, .int r14), (0, .int a0), (1, va_rf a1), (2, .int a2), (3, .int a3)]) C dX9_tag_45 (by decide) rfl ?_
  refine V_iload C 0 dX9_tag_47 rfl ?_
  refine V_iload_n C 4 dX9_tag_49 rfl rfl ?_
  obtain ⟨r17, s18, e19, h⟩ := h_bd_some h
  refine V_cS (As := [.int r14, .int a3]) (rest := []) C ms_RX9_284 (m_X9_mix l D dA bs e19) rfl rfl (Nat.le_trans h_w0 (by decide)) (h_fr B (by decide)) (h_lo B (by decide)) dX9_tag_50 ?_
  cases h
  exact V_iret C B dX9_tag_53
/-! X9_postRegister -/
theorem dX9_postRegister_0 : decode cX9_postRegister 0 = .ok (.aload_n 0, 1) := by decide +kernel
theorem dX9_postRegister_1 : decode cX9_postRegister 1 = .ok (.getfield 39, 3) := by decide +kernel
theorem dX9_postRegister_4 : decode cX9_postRegister 4 = .ok (.iconst 0, 1) := by decide +kernel
theorem dX9_postRegister_5 : decode cX9_postRegister 5 = .ok (.iload_n 2, 1) := by decide +kernel
theorem dX9_postRegister_6 : decode cX9_postRegister 6 = .ok (.iastore, 1) := by decide +kernel
theorem dX9_postRegister_7 : decode cX9_postRegister 7 = .ok (.aload_n 0, 1) := by decide +kernel
theorem dX9_postRegister_8 : decode cX9_postRegister 8 = .ok (.getfield 39, 3) := by decide +kernel
theorem dX9_postRegister_11 : decode cX9_postRegister 11 = .ok (.iconst 1, 1) := by decide +kernel
theorem dX9_postRegister_12 : decode cX9_postRegister 12 = .ok (.aload_n 3, 1) := by decide +kernel
theorem dX9_postRegister_13 : decode cX9_postRegister 13 = .ok (.getfield 287, 3) := by decide +kernel
theorem dX9_postRegister_16 : decode cX9_postRegister 16 = .ok (.iastore, 1) := by decide +kernel
theorem dX9_postRegister_17 : decode cX9_postRegister 17 = .ok (.aload_n 0, 1) := by decide +kernel
theorem dX9_postRegister_18 : decode cX9_postRegister 18 = .ok (.getfield 39, 3) := by decide +kernel
theorem dX9_postRegister_21 : decode cX9_postRegister 21 = .ok (.iconst 2, 1) := by decide +kernel
theorem dX9_postRegister_22 : decode cX9_postRegister 22 = .ok (.aload_n 3, 1) := by decide +kernel
theorem dX9_postRegister_23 : decode cX9_postRegister 23 = .ok (.getfield 242, 3) := by decide +kernel
theorem dX9_postRegister_26 : decode cX9_postRegister 26 = .ok (.iastore, 1) := by decide +kernel
theorem dX9_postRegister_27 : decode cX9_postRegister 27 = .ok (.aload_n 0, 1) := by decide +kernel
theorem dX9_postRegister_28 : decode cX9_postRegister 28 = .ok (.getfield 39, 3) := by decide +kernel
theorem dX9_postRegister_31 : decode cX9_postRegister 31 = .ok (.iconst 3, 1) := by decide +kernel
theorem dX9_postRegister_32 : decode cX9_postRegister 32 = .ok (.iload 4, 2) := by decide +kernel
theorem dX9_postRegister_34 : decode cX9_postRegister 34 = .ok (.iastore, 1) := by decide +kernel
theorem dX9_postRegister_35 : decode cX9_postRegister 35 = .ok (.aload_n 0, 1) := by decide +kernel
theorem dX9_postRegister_36 : decode cX9_postRegister 36 = .ok (.getfield 39, 3) := by decide +kernel
theorem dX9_postRegister_39 : decode cX9_postRegister 39 = .ok (.iconst 4, 1) := by decide +kernel
theorem dX9_postRegister_40 : decode cX9_postRegister 40 = .ok (.iload 5, 2) := by decide +kernel
theorem dX9_postRegister_42 : decode cX9_postRegister 42 = .ok (.iastore, 1) := by decide +kernel
theorem dX9_postRegister_43 : decode cX9_postRegister 43 = .ok (.aload_n 0, 1) := by decide +kernel
theorem dX9_postRegister_44 : decode cX9_postRegister 44 = .ok (.getfield 39, 3) := by decide +kernel
theorem dX9_postRegister_47 : decode cX9_postRegister 47 = .ok (.iconst 5, 1) := by decide +kernel
theorem dX9_postRegister_48 : decode cX9_postRegister 48 = .ok (.iload_n 2, 1) := by decide +kernel
theorem dX9_postRegister_49 : decode cX9_postRegister 49 = .ok (.aload_n 3, 1) := by decide +kernel
theorem dX9_postRegister_50 : decode cX9_postRegister 50 = .ok (.iload 4, 2) := by decide +kernel
theorem dX9_postRegister_52 : decode cX9_postRegister 52 = .ok (.iload 5, 2) := by decide +kernel
theorem dX9_postRegister_54 : decode cX9_postRegister 54 = .ok (.invokestatic 294, 3) := by decide +kernel
theorem dX9_postRegister_57 : decode cX9_postRegister 57 = .ok (.iastore, 1) := by decide +kernel
theorem dX9_postRegister_58 : decode cX9_postRegister 58 = .ok (.aload_n 0, 1) := by decide +kernel
theorem dX9_postRegister_59 : decode cX9_postRegister 59 = .ok (.getfield 32, 3) := by decide +kernel
theorem dX9_postRegister_62 : decode cX9_postRegister 62 = .ok (.iconst 0, 1) := by decide +kernel
theorem dX9_postRegister_63 : decode cX9_postRegister 63 = .ok (.iload_n 1, 1) := by decide +kernel
theorem dX9_postRegister_64 : decode cX9_postRegister 64 = .ok (.aload_n 0, 1) := by decide +kernel
theorem dX9_postRegister_65 : decode cX9_postRegister 65 = .ok (.getfield 39, 3) := by decide +kernel
theorem dX9_postRegister_68 : decode cX9_postRegister 68 = .ok (.invokevirtual 291, 3) := by decide +kernel
theorem dX9_postRegister_71 : decode cX9_postRegister 71 = .ok (.return_, 1) := by decide +kernel
def f_X9_postRegister (σ : HS) (a0 : Option Nat) (a1 : Int32) (a2 : Int32) (a3 : Option Nat) (a4 : Int32) (a5 : Int32) : Option (Unit × HS) :=
  h_b1 (h_gR σ a0 10 6) fun x1 =>
  h_b1 (h_sI σ x1 100 0 a2) fun s3 =>
  h_b1 (h_gR s3 a0 10 6) fun x5 =>
  h_b1 (h_gI s3 a3 5 0) fun x7 =>
  h_b1 (h_sI s3 x5 100 1 x7) fun s9 =>
  h_b1 (h_gR s9 a0 10 6) fun x11 =>
  h_b1 (h_gI s9 a3 5 1) fun x13 =>
  h_b1 (h_sI s9 x11 100 2 x13) fun s15 =>
  h_b1 (h_gR s15 a0 10 6) fun x17 =>
  h_b1 (h_sI s15 x17 100 3 a4) fun s19 =>
  h_b1 (h_gR s19 a0 10 6) fun x21 =>
  h_b1 (h_sI s19 x21 100 4 a5) fun s23 =>
  h_b1 (h_gR s23 a0 10 6) fun x25 =>
  h_bd (f_X9_tag s23 a2 a3 a4 a5) fun r27 s28 =>
  h_b1 (h_sI s28 x25 100 5 r27) fun s30 =>
  h_b1 (h_gR s30 a0 10 4) fun x32 =>
  h_b1 (h_gR s30 a0 10 6) fun x34 =>
  h_b1 (h_rcv s30 x32 6) fun y39 =>
  h_bd (f_X5_add s30 x32 0 a1 x34) fun _ s37 =>
  some ((), s37)
set_option maxHeartbeats 4000000 in
set_option maxRecDepth 100000 in
theorem m_X9_postRegister (l : Launch) (D : va_G) (dA : Nat → ClassId) (bs : Nat) {σ σ' : HS} {a0 : Option Nat} {a1 : Int32} {a2 : Int32} {a3 : Option Nat} {a4 : Int32} {a5 : Int32} (h : f_X9_postRegister σ a0 a1 a2 a3 a4 a5 = some ((), σ')) : MetC l yX9_postRegister cX9_postRegister 6 none 2 88 D dA bs [va_rf a0, .int a1, .int a2, va_rf a3, .int a4, .int a5] none σ σ' := by
  refine MetC.of (by decide) (h_avR (h_avI (h_avI (h_avR (h_avI (h_avI h_av0)))))) (Nat.le_of_ble_eq_true rfl) ?_
  intro p e R s m args below meth c C B hnm
  unfold f_X9_postRegister at h
  refine V_sub (lv' := [(0, va_rf a0), (1, .int a1), (2, .int a2), (3, va_rf a3), (4, .int a4), (5, .int a5)]) [0, 1, 2, 3, 4, 5] rfl ?_
  refine V_aload_n C 0 dX9_postRegister_0 rfl rfl ?_
  obtain ⟨x1, e2, h⟩ := h_b1_some h
  refine V_getR C fl_RX9_39 dX9_postRegister_1 e2 ?_
  refine V_iconst (v := 0) C dX9_postRegister_4 (by decide) ?_
  refine V_iload_n C 2 dX9_postRegister_5 rfl rfl ?_
  obtain ⟨s3, e4, h⟩ := h_b1_some h
  refine V_iast C dX9_postRegister_6 e4 ?_
  refine V_aload_n C 0 dX9_postRegister_7 rfl rfl ?_
  obtain ⟨x5, e6, h⟩ := h_b1_some h
  refine V_getR C fl_RX9_39 dX9_postRegister_8 e6 ?_
  refine V_iconst (v := 1) C dX9_postRegister_11 (by decide) ?_
  refine V_aload_n C 3 dX9_postRegister_12 rfl rfl ?_
  obtain ⟨x7, e8, h⟩ := h_b1_some h
  refine V_getI C fl_RX9_287 dX9_postRegister_13 e8 ?_
  obtain ⟨s9, e10, h⟩ := h_b1_some h
  refine V_iast C dX9_postRegister_16 e10 ?_
  refine V_aload_n C 0 dX9_postRegister_17 rfl rfl ?_
  obtain ⟨x11, e12, h⟩ := h_b1_some h
  refine V_getR C fl_RX9_39 dX9_postRegister_18 e12 ?_
  refine V_iconst (v := 2) C dX9_postRegister_21 (by decide) ?_
  refine V_aload_n C 3 dX9_postRegister_22 rfl rfl ?_
  obtain ⟨x13, e14, h⟩ := h_b1_some h
  refine V_getI C fl_RX9_242 dX9_postRegister_23 e14 ?_
  obtain ⟨s15, e16, h⟩ := h_b1_some h
  refine V_iast C dX9_postRegister_26 e16 ?_
  refine V_aload_n C 0 dX9_postRegister_27 rfl rfl ?_
  obtain ⟨x17, e18, h⟩ := h_b1_some h
  refine V_getR C fl_RX9_39 dX9_postRegister_28 e18 ?_
  refine V_iconst (v := 3) C dX9_postRegister_31 (by decide) ?_
  refine V_iload C 4 dX9_postRegister_32 rfl ?_
  obtain ⟨s19, e20, h⟩ := h_b1_some h
  refine V_iast C dX9_postRegister_34 e20 ?_
  refine V_aload_n C 0 dX9_postRegister_35 rfl rfl ?_
  obtain ⟨x21, e22, h⟩ := h_b1_some h
  refine V_getR C fl_RX9_39 dX9_postRegister_36 e22 ?_
  refine V_iconst (v := 4) C dX9_postRegister_39 (by decide) ?_
  refine V_iload C 5 dX9_postRegister_40 rfl ?_
  obtain ⟨s23, e24, h⟩ := h_b1_some h
  refine V_iast C dX9_postRegister_42 e24 ?_
  refine V_aload_n C 0 dX9_postRegister_43 rfl rfl ?_
  obtain ⟨x25, e26, h⟩ := h_b1_some h
  refine V_getR C fl_RX9_39 dX9_postRegister_44 e26 ?_
  refine V_iconst (v := 5) C dX9_postRegister_47 (by decide) ?_
  refine V_iload_n C 2 dX9_postRegister_48 rfl rfl ?_
  refine V_aload_n C 3 dX9_postRegister_49 rfl rfl ?_
  refine V_iload C 4 dX9_postRegister_50 rfl ?_
  refine V_iload C 5 dX9_postRegister_52 rfl ?_
  obtain ⟨r27, s28, e29, h⟩ := h_bd_some h
  refine V_cS (As := [.int a2, va_rf a3, .int a4, .int a5]) (rest := [.int 5, va_rf x25]) C ms_RX9_294 (m_X9_tag l D dA bs e29) rfl rfl (Nat.le_trans (h_wI (h_wR h_w0)) (by decide)) (h_fr B (by decide)) (h_lo B (by decide)) dX9_postRegister_54 ?_
  obtain ⟨s30, e31, h⟩ := h_b1_some h
  refine V_iast C dX9_postRegister_57 e31 ?_
  refine V_aload_n C 0 dX9_postRegister_58 rfl rfl ?_
  obtain ⟨x32, e33, h⟩ := h_b1_some h
  refine V_getR C fl_RX9_32 dX9_postRegister_59 e33 ?_
  refine V_iconst (v := 0) C dX9_postRegister_62 (by decide) ?_
  refine V_iload_n C 1 dX9_postRegister_63 rfl rfl ?_
  refine V_aload_n C 0 dX9_postRegister_64 rfl rfl ?_
  obtain ⟨x34, e35, h⟩ := h_b1_some h
  refine V_getR C fl_RX9_39 dX9_postRegister_65 e35 ?_
  obtain ⟨y39, e40, h⟩ := h_b1_some h
  obtain ⟨r36, s37, e38, h⟩ := h_bd_some h
  refine V_cV (As := [.int 0, .int a1, va_rf x34]) (rest := []) C mv_RX9_291 (m_X5_add l D dA bs e38) e40 rfl rfl (Nat.le_trans h_w0 (by decide)) (h_fr B (by decide)) (h_lo B (by decide)) dX9_postRegister_68 ?_
  cases h
  exact V_vret C B dX9_postRegister_71
/-! X9_postShort -/
theorem dX9_postShort_0 : decode cX9_postShort 0 = .ok (.aload_n 0, 1) := by decide +kernel
theorem dX9_postShort_1 : decode cX9_postShort 1 = .ok (.getfield 39, 3) := by decide +kernel
theorem dX9_postShort_4 : decode cX9_postShort 4 = .ok (.iconst 0, 1) := by decide +kernel
theorem dX9_postShort_5 : decode cX9_postShort 5 = .ok (.iload_n 3, 1) := by decide +kernel
theorem dX9_postShort_6 : decode cX9_postShort 6 = .ok (.iastore, 1) := by decide +kernel
theorem dX9_postShort_7 : decode cX9_postShort 7 = .ok (.aload_n 0, 1) := by decide +kernel
theorem dX9_postShort_8 : decode cX9_postShort 8 = .ok (.getfield 39, 3) := by decide +kernel
theorem dX9_postShort_11 : decode cX9_postShort 11 = .ok (.iconst 1, 1) := by decide +kernel
theorem dX9_postShort_12 : decode cX9_postShort 12 = .ok (.iload 4, 2) := by decide +kernel
theorem dX9_postShort_14 : decode cX9_postShort 14 = .ok (.iastore, 1) := by decide +kernel
theorem dX9_postShort_15 : decode cX9_postShort 15 = .ok (.aload_n 0, 1) := by decide +kernel
theorem dX9_postShort_16 : decode cX9_postShort 16 = .ok (.getfield 39, 3) := by decide +kernel
theorem dX9_postShort_19 : decode cX9_postShort 19 = .ok (.iconst 2, 1) := by decide +kernel
theorem dX9_postShort_20 : decode cX9_postShort 20 = .ok (.iload 5, 2) := by decide +kernel
theorem dX9_postShort_22 : decode cX9_postShort 22 = .ok (.iastore, 1) := by decide +kernel
theorem dX9_postShort_23 : decode cX9_postShort 23 = .ok (.aload_n 0, 1) := by decide +kernel
theorem dX9_postShort_24 : decode cX9_postShort 24 = .ok (.getfield 39, 3) := by decide +kernel
theorem dX9_postShort_27 : decode cX9_postShort 27 = .ok (.iconst 3, 1) := by decide +kernel
theorem dX9_postShort_28 : decode cX9_postShort 28 = .ok (.iconst 0, 1) := by decide +kernel
theorem dX9_postShort_29 : decode cX9_postShort 29 = .ok (.iastore, 1) := by decide +kernel
theorem dX9_postShort_30 : decode cX9_postShort 30 = .ok (.aload_n 0, 1) := by decide +kernel
theorem dX9_postShort_31 : decode cX9_postShort 31 = .ok (.getfield 39, 3) := by decide +kernel
theorem dX9_postShort_34 : decode cX9_postShort 34 = .ok (.iconst 4, 1) := by decide +kernel
theorem dX9_postShort_35 : decode cX9_postShort 35 = .ok (.iconst 0, 1) := by decide +kernel
theorem dX9_postShort_36 : decode cX9_postShort 36 = .ok (.iastore, 1) := by decide +kernel
theorem dX9_postShort_37 : decode cX9_postShort 37 = .ok (.aload_n 0, 1) := by decide +kernel
theorem dX9_postShort_38 : decode cX9_postShort 38 = .ok (.getfield 39, 3) := by decide +kernel
theorem dX9_postShort_41 : decode cX9_postShort 41 = .ok (.iconst 5, 1) := by decide +kernel
theorem dX9_postShort_42 : decode cX9_postShort 42 = .ok (.iconst 0, 1) := by decide +kernel
theorem dX9_postShort_43 : decode cX9_postShort 43 = .ok (.iastore, 1) := by decide +kernel
theorem dX9_postShort_44 : decode cX9_postShort 44 = .ok (.aload_n 0, 1) := by decide +kernel
theorem dX9_postShort_45 : decode cX9_postShort 45 = .ok (.getfield 32, 3) := by decide +kernel
theorem dX9_postShort_48 : decode cX9_postShort 48 = .ok (.iload_n 1, 1) := by decide +kernel
theorem dX9_postShort_49 : decode cX9_postShort 49 = .ok (.iload_n 2, 1) := by decide +kernel
theorem dX9_postShort_50 : decode cX9_postShort 50 = .ok (.aload_n 0, 1) := by decide +kernel
theorem dX9_postShort_51 : decode cX9_postShort 51 = .ok (.getfield 39, 3) := by decide +kernel
theorem dX9_postShort_54 : decode cX9_postShort 54 = .ok (.invokevirtual 291, 3) := by decide +kernel
theorem dX9_postShort_57 : decode cX9_postShort 57 = .ok (.return_, 1) := by decide +kernel
def f_X9_postShort (σ : HS) (a0 : Option Nat) (a1 : Int32) (a2 : Int32) (a3 : Int32) (a4 : Int32) (a5 : Int32) : Option (Unit × HS) :=
  h_b1 (h_gR σ a0 10 6) fun x1 =>
  h_b1 (h_sI σ x1 100 0 a3) fun s3 =>
  h_b1 (h_gR s3 a0 10 6) fun x5 =>
  h_b1 (h_sI s3 x5 100 1 a4) fun s7 =>
  h_b1 (h_gR s7 a0 10 6) fun x9 =>
  h_b1 (h_sI s7 x9 100 2 a5) fun s11 =>
  h_b1 (h_gR s11 a0 10 6) fun x13 =>
  h_b1 (h_sI s11 x13 100 3 0) fun s15 =>
  h_b1 (h_gR s15 a0 10 6) fun x17 =>
  h_b1 (h_sI s15 x17 100 4 0) fun s19 =>
  h_b1 (h_gR s19 a0 10 6) fun x21 =>
  h_b1 (h_sI s19 x21 100 5 0) fun s23 =>
  h_b1 (h_gR s23 a0 10 4) fun x25 =>
  h_b1 (h_gR s23 a0 10 6) fun x27 =>
  h_b1 (h_rcv s23 x25 6) fun y32 =>
  h_bd (f_X5_add s23 x25 a1 a2 x27) fun _ s30 =>
  some ((), s30)
set_option maxHeartbeats 4000000 in
set_option maxRecDepth 100000 in
theorem m_X9_postShort (l : Launch) (D : va_G) (dA : Nat → ClassId) (bs : Nat) {σ σ' : HS} {a0 : Option Nat} {a1 : Int32} {a2 : Int32} {a3 : Int32} {a4 : Int32} {a5 : Int32} (h : f_X9_postShort σ a0 a1 a2 a3 a4 a5 = some ((), σ')) : MetC l yX9_postShort cX9_postShort 6 none 2 88 D dA bs [va_rf a0, .int a1, .int a2, .int a3, .int a4, .int a5] none σ σ' := by
  refine MetC.of (by decide) (h_avR (h_avI (h_avI (h_avI (h_avI (h_avI h_av0)))))) (Nat.le_of_ble_eq_true rfl) ?_
  intro p e R s m args below meth c C B hnm
  unfold f_X9_postShort at h
  refine V_sub (lv' := [(0, va_rf a0), (1, .int a1), (2, .int a2), (3, .int a3), (4, .int a4), (5, .int a5)]) [0, 1, 2, 3, 4, 5] rfl ?_
  refine V_aload_n C 0 dX9_postShort_0 rfl rfl ?_
  obtain ⟨x1, e2, h⟩ := h_b1_some h
  refine V_getR C fl_RX9_39 dX9_postShort_1 e2 ?_
  refine V_iconst (v := 0) C dX9_postShort_4 (by decide) ?_
  refine V_iload_n C 3 dX9_postShort_5 rfl rfl ?_
  obtain ⟨s3, e4, h⟩ := h_b1_some h
  refine V_iast C dX9_postShort_6 e4 ?_
  refine V_aload_n C 0 dX9_postShort_7 rfl rfl ?_
  obtain ⟨x5, e6, h⟩ := h_b1_some h
  refine V_getR C fl_RX9_39 dX9_postShort_8 e6 ?_
  refine V_iconst (v := 1) C dX9_postShort_11 (by decide) ?_
  refine V_iload C 4 dX9_postShort_12 rfl ?_
  obtain ⟨s7, e8, h⟩ := h_b1_some h
  refine V_iast C dX9_postShort_14 e8 ?_
  refine V_aload_n C 0 dX9_postShort_15 rfl rfl ?_
  obtain ⟨x9, e10, h⟩ := h_b1_some h
  refine V_getR C fl_RX9_39 dX9_postShort_16 e10 ?_
  refine V_iconst (v := 2) C dX9_postShort_19 (by decide) ?_
  refine V_iload C 5 dX9_postShort_20 rfl ?_
  obtain ⟨s11, e12, h⟩ := h_b1_some h
  refine V_iast C dX9_postShort_22 e12 ?_
  refine V_aload_n C 0 dX9_postShort_23 rfl rfl ?_
  obtain ⟨x13, e14, h⟩ := h_b1_some h
  refine V_getR C fl_RX9_39 dX9_postShort_24 e14 ?_
  refine V_iconst (v := 3) C dX9_postShort_27 (by decide) ?_
  refine V_iconst (v := 0) C dX9_postShort_28 (by decide) ?_
  obtain ⟨s15, e16, h⟩ := h_b1_some h
  refine V_iast C dX9_postShort_29 e16 ?_
  refine V_aload_n C 0 dX9_postShort_30 rfl rfl ?_
  obtain ⟨x17, e18, h⟩ := h_b1_some h
  refine V_getR C fl_RX9_39 dX9_postShort_31 e18 ?_
  refine V_iconst (v := 4) C dX9_postShort_34 (by decide) ?_
  refine V_iconst (v := 0) C dX9_postShort_35 (by decide) ?_
  obtain ⟨s19, e20, h⟩ := h_b1_some h
  refine V_iast C dX9_postShort_36 e20 ?_
  refine V_aload_n C 0 dX9_postShort_37 rfl rfl ?_
  obtain ⟨x21, e22, h⟩ := h_b1_some h
  refine V_getR C fl_RX9_39 dX9_postShort_38 e22 ?_
  refine V_iconst (v := 5) C dX9_postShort_41 (by decide) ?_
  refine V_iconst (v := 0) C dX9_postShort_42 (by decide) ?_
  obtain ⟨s23, e24, h⟩ := h_b1_some h
  refine V_iast C dX9_postShort_43 e24 ?_
  refine V_aload_n C 0 dX9_postShort_44 rfl rfl ?_
  obtain ⟨x25, e26, h⟩ := h_b1_some h
  refine V_getR C fl_RX9_32 dX9_postShort_45 e26 ?_
  refine V_iload_n C 1 dX9_postShort_48 rfl rfl ?_
  refine V_iload_n C 2 dX9_postShort_49 rfl rfl ?_
  refine V_aload_n C 0 dX9_postShort_50 rfl rfl ?_
  obtain ⟨x27, e28, h⟩ := h_b1_some h
  refine V_getR C fl_RX9_39 dX9_postShort_51 e28 ?_
  obtain ⟨y32, e33, h⟩ := h_b1_some h
  obtain ⟨r29, s30, e31, h⟩ := h_bd_some h
  refine V_cV (As := [.int a1, .int a2, va_rf x27]) (rest := []) C mv_RX9_291 (m_X5_add l D dA bs e31) e33 rfl rfl (Nat.le_trans h_w0 (by decide)) (h_fr B (by decide)) (h_lo B (by decide)) dX9_postShort_54 ?_
  cases h
  exact V_vret C B dX9_postShort_57
/-! X9_follow -/
theorem dX9_follow_0 : decode cX9_follow 0 = .ok (.aload_n 1, 1) := by decide +kernel
theorem dX9_follow_1 : decode cX9_follow 1 = .ok (.invokevirtual 326, 3) := by decide +kernel
theorem dX9_follow_4 : decode cX9_follow 4 = .ok (.ifCond .eq 11, 3) := by decide +kernel
theorem dX9_follow_7 : decode cX9_follow 7 = .ok (.aload_n 2, 1) := by decide +kernel
theorem dX9_follow_8 : decode cX9_follow 8 = .ok (.iconst 3, 1) := by decide +kernel
theorem dX9_follow_9 : decode cX9_follow 9 = .ok (.putfield 215, 3) := by decide +kernel
theorem dX9_follow_12 : decode cX9_follow 12 = .ok (.goto 29, 3) := by decide +kernel
theorem dX9_follow_15 : decode cX9_follow 15 = .ok (.aload_n 2, 1) := by decide +kernel
theorem dX9_follow_16 : decode cX9_follow 16 = .ok (.iconst 1, 1) := by decide +kernel
theorem dX9_follow_17 : decode cX9_follow 17 = .ok (.putfield 215, 3) := by decide +kernel
theorem dX9_follow_20 : decode cX9_follow 20 = .ok (.aload_n 0, 1) := by decide +kernel
theorem dX9_follow_21 : decode cX9_follow 21 = .ok (.iconst 3, 1) := by decide +kernel
theorem dX9_follow_22 : decode cX9_follow 22 = .ok (.aload_n 1, 1) := by decide +kernel
theorem dX9_follow_23 : decode cX9_follow 23 = .ok (.getfield 245, 3) := by decide +kernel
theorem dX9_follow_26 : decode cX9_follow 26 = .ok (.aload_n 2, 1) := by decide +kernel
theorem dX9_follow_27 : decode cX9_follow 27 = .ok (.getfield 304, 3) := by decide +kernel
theorem dX9_follow_30 : decode cX9_follow 30 = .ok (.aload_n 2, 1) := by decide +kernel
theorem dX9_follow_31 : decode cX9_follow 31 = .ok (.getfield 172, 3) := by decide +kernel
theorem dX9_follow_34 : decode cX9_follow 34 = .ok (.aload_n 2, 1) := by decide +kernel
theorem dX9_follow_35 : decode cX9_follow 35 = .ok (.getfield 305, 3) := by decide +kernel
theorem dX9_follow_38 : decode cX9_follow 38 = .ok (.invokevirtual 308, 3) := by decide +kernel
theorem dX9_follow_41 : decode cX9_follow 41 = .ok (.return_, 1) := by decide +kernel
def f_X9_follow (σ : HS) (a0 : Option Nat) (a1 : Option Nat) (a2 : Option Nat) : Option (Unit × HS) :=
  h_b1 (h_rcv σ a1 2) fun y4 =>
  h_bd (f_X1_isHole σ a1) fun r1 s2 =>
  if r1 = 0 then
    h_b1 (h_pI s2 a2 4 3 1) fun s7 =>
    h_b1 (h_gI s7 a1 2 1) fun x9 =>
    h_b1 (h_gI s7 a2 4 1) fun x11 =>
    h_b1 (h_gI s7 a2 4 0) fun x13 =>
    h_b1 (h_gI s7 a2 4 2) fun x15 =>
    h_b1 (h_rcv s7 a0 10) fun y20 =>
    h_bd (f_X9_postShort s7 a0 3 x9 x11 x13 x15) fun _ s18 =>
    some ((), s18)
  else
    h_b1 (h_pI s2 a2 4 3 3) fun s22 =>
    some ((), s22)
set_option maxHeartbeats 4000000 in
set_option maxRecDepth 100000 in
theorem m_X9_follow (l : Launch) (D : va_G) (dA : Nat → ClassId) (bs : Nat) {σ σ' : HS} {a0 : Option Nat} {a1 : Option Nat} {a2 : Option Nat} (h : f_X9_follow σ a0 a1 a2 = some ((), σ')) : MetC l yX9_follow cX9_follow 3 none 3 113 D dA bs [va_rf a0, va_rf a1, va_rf a2] none σ σ' := by
  refine MetC.of (by decide) (h_avR (h_avR (h_avR h_av0))) (Nat.le_of_ble_eq_true rfl) ?_
  intro p e R s m args below meth c C B hnm
  unfold f_X9_follow at h
  refine V_sub (lv' := [(0, va_rf a0), (1, va_rf a1), (2, va_rf a2)]) [0, 1, 2] rfl ?_
  refine V_aload_n C 1 dX9_follow_0 rfl rfl ?_
  obtain ⟨y4, e5, h⟩ := h_b1_some h
  obtain ⟨r1, s2, e3, h⟩ := h_bd_some h
  refine V_cV (As := []) (rest := []) C mv_RX9_326 (m_X1_isHole l D dA bs e3) e5 rfl rfl (Nat.le_trans h_w0 (by decide)) (h_fr B (by decide)) (h_lo B (by decide)) dX9_follow_1 ?_
  refine V_if_eq (tgt := 15) C dX9_follow_4 (by decide) (fun c6 => ?_) (fun c6 => ?_)
  · rw [if_pos c6] at h
    refine V_aload_n C 2 dX9_follow_15 rfl rfl ?_
    refine V_iconst (v := 1) C dX9_follow_16 (by decide) ?_
    obtain ⟨s7, e8, h⟩ := h_b1_some h
    refine V_putI C fw_RX9_215 dX9_follow_17 e8 ?_
    refine V_aload_n C 0 dX9_follow_20 rfl rfl ?_
    refine V_iconst (v := 3) C dX9_follow_21 (by decide) ?_
    refine V_aload_n C 1 dX9_follow_22 rfl rfl ?_
    obtain ⟨x9, e10, h⟩ := h_b1_some h
    refine V_getI C fl_RX9_245 dX9_follow_23 e10 ?_
    refine V_aload_n C 2 dX9_follow_26 rfl rfl ?_
    obtain ⟨x11, e12, h⟩ := h_b1_some h
    refine V_getI C fl_RX9_304 dX9_follow_27 e12 ?_
    refine V_aload_n C 2 dX9_follow_30 rfl rfl ?_
    obtain ⟨x13, e14, h⟩ := h_b1_some h
    refine V_getI C fl_RX9_172 dX9_follow_31 e14 ?_
    refine V_aload_n C 2 dX9_follow_34 rfl rfl ?_
    obtain ⟨x15, e16, h⟩ := h_b1_some h
    refine V_getI C fl_RX9_305 dX9_follow_35 e16 ?_
    obtain ⟨y20, e21, h⟩ := h_b1_some h
    obtain ⟨r17, s18, e19, h⟩ := h_bd_some h
    refine V_cV (As := [.int 3, .int x9, .int x11, .int x13, .int x15]) (rest := []) C mv_RX9_308 (m_X9_postShort l D dA bs e19) e21 rfl rfl (Nat.le_trans h_w0 (by decide)) (h_fr B (by decide)) (h_lo B (by decide)) dX9_follow_38 ?_
    cases h
    exact V_vret C B dX9_follow_41
  · rw [if_neg c6] at h
    refine V_aload_n C 2 dX9_follow_7 rfl rfl ?_
    refine V_iconst (v := 3) C dX9_follow_8 (by decide) ?_
    obtain ⟨s22, e23, h⟩ := h_b1_some h
    refine V_putI C fw_RX9_215 dX9_follow_9 e23 ?_
    refine V_goto (tgt := 41) C dX9_follow_12 (by decide) ?_
    cases h
    exact V_vret C B dX9_follow_41
/-! X9_draw -/
theorem dX9_draw_0 : decode cX9_draw 0 = .ok (.aload_n 0, 1) := by decide +kernel
theorem dX9_draw_1 : decode cX9_draw 1 = .ok (.dup, 1) := by decide +kernel
theorem dX9_draw_2 : decode cX9_draw 2 = .ok (.getfield 48, 3) := by decide +kernel
theorem dX9_draw_5 : decode cX9_draw 5 = .ok (.aload_n 0, 1) := by decide +kernel
theorem dX9_draw_6 : decode cX9_draw 6 = .ok (.getfield 48, 3) := by decide +kernel
theorem dX9_draw_9 : decode cX9_draw 9 = .ok (.bipush 13, 2) := by decide +kernel
theorem dX9_draw_11 : decode cX9_draw 11 = .ok (.ishl, 1) := by decide +kernel
theorem dX9_draw_12 : decode cX9_draw 12 = .ok (.ixor, 1) := by decide +kernel
theorem dX9_draw_13 : decode cX9_draw 13 = .ok (.putfield 48, 3) := by decide +kernel
theorem dX9_draw_16 : decode cX9_draw 16 = .ok (.aload_n 0, 1) := by decide +kernel
theorem dX9_draw_17 : decode cX9_draw 17 = .ok (.dup, 1) := by decide +kernel
theorem dX9_draw_18 : decode cX9_draw 18 = .ok (.getfield 48, 3) := by decide +kernel
theorem dX9_draw_21 : decode cX9_draw 21 = .ok (.aload_n 0, 1) := by decide +kernel
theorem dX9_draw_22 : decode cX9_draw 22 = .ok (.getfield 48, 3) := by decide +kernel
theorem dX9_draw_25 : decode cX9_draw 25 = .ok (.bipush 17, 2) := by decide +kernel
theorem dX9_draw_27 : decode cX9_draw 27 = .ok (.iushr, 1) := by decide +kernel
theorem dX9_draw_28 : decode cX9_draw 28 = .ok (.ixor, 1) := by decide +kernel
theorem dX9_draw_29 : decode cX9_draw 29 = .ok (.putfield 48, 3) := by decide +kernel
theorem dX9_draw_32 : decode cX9_draw 32 = .ok (.aload_n 0, 1) := by decide +kernel
theorem dX9_draw_33 : decode cX9_draw 33 = .ok (.dup, 1) := by decide +kernel
theorem dX9_draw_34 : decode cX9_draw 34 = .ok (.getfield 48, 3) := by decide +kernel
theorem dX9_draw_37 : decode cX9_draw 37 = .ok (.aload_n 0, 1) := by decide +kernel
theorem dX9_draw_38 : decode cX9_draw 38 = .ok (.getfield 48, 3) := by decide +kernel
theorem dX9_draw_41 : decode cX9_draw 41 = .ok (.iconst 5, 1) := by decide +kernel
theorem dX9_draw_42 : decode cX9_draw 42 = .ok (.ishl, 1) := by decide +kernel
theorem dX9_draw_43 : decode cX9_draw 43 = .ok (.ixor, 1) := by decide +kernel
theorem dX9_draw_44 : decode cX9_draw 44 = .ok (.putfield 48, 3) := by decide +kernel
theorem dX9_draw_47 : decode cX9_draw 47 = .ok (.aload_n 0, 1) := by decide +kernel
theorem dX9_draw_48 : decode cX9_draw 48 = .ok (.getfield 48, 3) := by decide +kernel
theorem dX9_draw_51 : decode cX9_draw 51 = .ok (.ireturn, 1) := by decide +kernel
def f_X9_draw (σ : HS) (a0 : Option Nat) : Option (Int32 × HS) :=
  h_b1 (h_gI σ a0 10 10) fun x1 =>
  h_b1 (h_gI σ a0 10 10) fun x3 =>
  h_b1 (h_pI σ a0 10 10 (x1 ^^^ (x3 <<< (13 &&& 31)))) fun s5 =>
  h_b1 (h_gI s5 a0 10 10) fun x7 =>
  h_b1 (h_gI s5 a0 10 10) fun x9 =>
  h_b1 (h_pI s5 a0 10 10 (x7 ^^^ (h_ushr x9 17))) fun s11 =>
  h_b1 (h_gI s11 a0 10 10) fun x13 =>
  h_b1 (h_gI s11 a0 10 10) fun x15 =>
  h_b1 (h_pI s11 a0 10 10 (x13 ^^^ (x15 <<< (5 &&& 31)))) fun s17 =>
  h_b1 (h_gI s17 a0 10 10) fun x19 =>
  some (x19, s17)
set_option maxHeartbeats 4000000 in
set_option maxRecDepth 100000 in
theorem m_X9_draw (l : Launch) (D : va_G) (dA : Nat → ClassId) (bs : Nat) {σ σ' : HS} {a0 : Option Nat} {r : Int32} (h : f_X9_draw σ a0 = some (r, σ')) : MetC l yX9_draw cX9_draw 1 (some .int) 0 0 D dA bs [va_rf a0] (some (.int r)) σ σ' := by
  refine MetC.of (by decide) (h_avR h_av0) (Nat.le_of_ble_eq_true rfl) ?_
  intro p e R s m args below meth c C B hnm
  unfold f_X9_draw at h
  refine V_sub (lv' := [(0, va_rf a0)]) [0] rfl ?_
  refine V_aload_n C 0 dX9_draw_0 rfl rfl ?_
  refine V_dupR C dX9_draw_1 ?_
  obtain ⟨x1, e2, h⟩ := h_b1_some h
  refine V_getI C fl_RX9_48 dX9_draw_2 e2 ?_
  refine V_aload_n C 0 dX9_draw_5 rfl rfl ?_
  obtain ⟨x3, e4, h⟩ := h_b1_some h
  refine V_getI C fl_RX9_48 dX9_draw_6 e4 ?_
  refine V_bipush (v := 13) C dX9_draw_9 (by decide) ?_
  refine V_ishl C dX9_draw_11 ?_
  refine V_ixor C dX9_draw_12 ?_
  obtain ⟨s5, e6, h⟩ := h_b1_some h
  refine V_putI C fw_RX9_48 dX9_draw_13 e6 ?_
  refine V_aload_n C 0 dX9_draw_16 rfl rfl ?_
  refine V_dupR C dX9_draw_17 ?_
  obtain ⟨x7, e8, h⟩ := h_b1_some h
  refine V_getI C fl_RX9_48 dX9_draw_18 e8 ?_
  refine V_aload_n C 0 dX9_draw_21 rfl rfl ?_
  obtain ⟨x9, e10, h⟩ := h_b1_some h
  refine V_getI C fl_RX9_48 dX9_draw_22 e10 ?_
  refine V_bipush (v := 17) C dX9_draw_25 (by decide) ?_
  refine V_iushr C dX9_draw_27 ?_
  refine V_ixor C dX9_draw_28 ?_
  obtain ⟨s11, e12, h⟩ := h_b1_some h
  refine V_putI C fw_RX9_48 dX9_draw_29 e12 ?_
  refine V_aload_n C 0 dX9_draw_32 rfl rfl ?_
  refine V_dupR C dX9_draw_33 ?_
  obtain ⟨x13, e14, h⟩ := h_b1_some h
  refine V_getI C fl_RX9_48 dX9_draw_34 e14 ?_
  refine V_aload_n C 0 dX9_draw_37 rfl rfl ?_
  obtain ⟨x15, e16, h⟩ := h_b1_some h
  refine V_getI C fl_RX9_48 dX9_draw_38 e16 ?_
  refine V_iconst (v := 5) C dX9_draw_41 (by decide) ?_
  refine V_ishl C dX9_draw_42 ?_
  refine V_ixor C dX9_draw_43 ?_
  obtain ⟨s17, e18, h⟩ := h_b1_some h
  refine V_putI C fw_RX9_48 dX9_draw_44 e18 ?_
  refine V_aload_n C 0 dX9_draw_47 rfl rfl ?_
  obtain ⟨x19, e20, h⟩ := h_b1_some h
  refine V_getI C fl_RX9_48 dX9_draw_48 e20 ?_
  cases h
  exact V_iret C B dX9_draw_51
/-! X9_postRequest -/
theorem dX9_postRequest_0 : decode cX9_postRequest 0 = .ok (.aload_n 2, 1) := by decide +kernel
theorem dX9_postRequest_1 : decode cX9_postRequest 1 = .ok (.aload_n 0, 1) := by decide +kernel
theorem dX9_postRequest_2 : decode cX9_postRequest 2 = .ok (.invokevirtual 298, 3) := by decide +kernel
theorem dX9_postRequest_5 : decode cX9_postRequest 5 = .ok (.putfield 301, 3) := by decide +kernel
theorem dX9_postRequest_8 : decode cX9_postRequest 8 = .ok (.aload_n 2, 1) := by decide +kernel
theorem dX9_postRequest_9 : decode cX9_postRequest 9 = .ok (.iconst 0, 1) := by decide +kernel
theorem dX9_postRequest_10 : decode cX9_postRequest 10 = .ok (.putfield 215, 3) := by decide +kernel
theorem dX9_postRequest_13 : decode cX9_postRequest 13 = .ok (.aload_n 0, 1) := by decide +kernel
theorem dX9_postRequest_14 : decode cX9_postRequest 14 = .ok (.iconst 1, 1) := by decide +kernel
theorem dX9_postRequest_15 : decode cX9_postRequest 15 = .ok (.iload_n 1, 1) := by decide +kernel
theorem dX9_postRequest_16 : decode cX9_postRequest 16 = .ok (.aload_n 2, 1) := by decide +kernel
theorem dX9_postRequest_17 : decode cX9_postRequest 17 = .ok (.getfield 304, 3) := by decide +kernel
theorem dX9_postRequest_20 : decode cX9_postRequest 20 = .ok (.aload_n 2, 1) := by decide +kernel
theorem dX9_postRequest_21 : decode cX9_postRequest 21 = .ok (.getfield 301, 3) := by decide +kernel
theorem dX9_postRequest_24 : decode cX9_postRequest 24 = .ok (.aload_n 2, 1) := by decide +kernel
theorem dX9_postRequest_25 : decode cX9_postRequest 25 = .ok (.getfield 305, 3) := by decide +kernel
theorem dX9_postRequest_28 : decode cX9_postRequest 28 = .ok (.invokevirtual 308, 3) := by decide +kernel
theorem dX9_postRequest_31 : decode cX9_postRequest 31 = .ok (.return_, 1) := by decide +kernel
def f_X9_postRequest (σ : HS) (a0 : Option Nat) (a1 : Int32) (a2 : Option Nat) : Option (Unit × HS) :=
  h_b1 (h_rcv σ a0 10) fun y4 =>
  h_bd (f_X9_draw σ a0) fun r1 s2 =>
  h_b1 (h_pI s2 a2 4 4 r1) fun s6 =>
  h_b1 (h_pI s6 a2 4 3 0) fun s8 =>
  h_b1 (h_gI s8 a2 4 1) fun x10 =>
  h_b1 (h_gI s8 a2 4 4) fun x12 =>
  h_b1 (h_gI s8 a2 4 2) fun x14 =>
  h_b1 (h_rcv s8 a0 10) fun y19 =>
  h_bd (f_X9_postShort s8 a0 1 a1 x10 x12 x14) fun _ s17 =>
  some ((), s17)
set_option maxHeartbeats 4000000 in
set_option maxRecDepth 100000 in
theorem m_X9_postRequest (l : Launch) (D : va_G) (dA : Nat → ClassId) (bs : Nat) {σ σ' : HS} {a0 : Option Nat} {a1 : Int32} {a2 : Option Nat} (h : f_X9_postRequest σ a0 a1 a2 = some ((), σ')) : MetC l yX9_postRequest cX9_postRequest 3 none 3 113 D dA bs [va_rf a0, .int a1, va_rf a2] none σ σ' := by
  refine MetC.of (by decide) (h_avR (h_avI (h_avR h_av0))) (Nat.le_of_ble_eq_true rfl) ?_
  intro p e R s m args below meth c C B hnm
  unfold f_X9_postRequest at h
  refine V_sub (lv' := [(0, va_rf a0), (1, .int a1), (2, va_rf a2)]) [0, 1, 2] rfl ?_
  refine V_aload_n C 2 dX9_postRequest_0 rfl rfl ?_
  refine V_aload_n C 0 dX9_postRequest_1 rfl rfl ?_
  obtain ⟨y4, e5, h⟩ := h_b1_some h
  obtain ⟨r1, s2, e3, h⟩ := h_bd_some h
  refine V_cV (As := []) (rest := [va_rf a2]) C mv_RX9_298 (m_X9_draw l D dA bs e3) e5 rfl rfl (Nat.le_trans (h_wR h_w0) (by decide)) (h_fr B (by decide)) (h_lo B (by decide)) dX9_postRequest_2 ?_
  obtain ⟨s6, e7, h⟩ := h_b1_some h
  refine V_putI C fw_RX9_301 dX9_postRequest_5 e7 ?_
  refine V_aload_n C 2 dX9_postRequest_8 rfl rfl ?_
  refine V_iconst (v := 0) C dX9_postRequest_9 (by decide) ?_
  obtain ⟨s8, e9, h⟩ := h_b1_some h
  refine V_putI C fw_RX9_215 dX9_postRequest_10 e9 ?_
  refine V_aload_n C 0 dX9_postRequest_13 rfl rfl ?_
  refine V_iconst (v := 1) C dX9_postRequest_14 (by decide) ?_
  refine V_iload_n C 1 dX9_postRequest_15 rfl rfl ?_
  refine V_aload_n C 2 dX9_postRequest_16 rfl rfl ?_
  obtain ⟨x10, e11, h⟩ := h_b1_some h
  refine V_getI C fl_RX9_304 dX9_postRequest_17 e11 ?_
  refine V_aload_n C 2 dX9_postRequest_20 rfl rfl ?_
  obtain ⟨x12, e13, h⟩ := h_b1_some h
  refine V_getI C fl_RX9_301 dX9_postRequest_21 e13 ?_
  refine V_aload_n C 2 dX9_postRequest_24 rfl rfl ?_
  obtain ⟨x14, e15, h⟩ := h_b1_some h
  refine V_getI C fl_RX9_305 dX9_postRequest_25 e15 ?_
  obtain ⟨y19, e20, h⟩ := h_b1_some h
  obtain ⟨r16, s17, e18, h⟩ := h_bd_some h
  refine V_cV (As := [.int 1, .int a1, .int x10, .int x12, .int x14]) (rest := []) C mv_RX9_308 (m_X9_postShort l D dA bs e18) e20 rfl rfl (Nat.le_trans h_w0 (by decide)) (h_fr B (by decide)) (h_lo B (by decide)) dX9_postRequest_28 ?_
  cases h
  exact V_vret C B dX9_postRequest_31
/-! X9_start -/
theorem dX9_start_0 : decode cX9_start 0 = .ok (.aload_n 2, 1) := by decide +kernel
theorem dX9_start_1 : decode cX9_start 1 = .ok (.aload_n 1, 1) := by decide +kernel
theorem dX9_start_2 : decode cX9_start 2 = .ok (.getfield 305, 3) := by decide +kernel
theorem dX9_start_5 : decode cX9_start 5 = .ok (.invokevirtual 312, 3) := by decide +kernel
theorem dX9_start_8 : decode cX9_start 8 = .ok (.ifCond .eq 12, 3) := by decide +kernel
theorem dX9_start_11 : decode cX9_start 11 = .ok (.aload_n 1, 1) := by decide +kernel
theorem dX9_start_12 : decode cX9_start 12 = .ok (.aload_n 1, 1) := by decide +kernel
theorem dX9_start_13 : decode cX9_start 13 = .ok (.getfield 304, 3) := by decide +kernel
theorem dX9_start_16 : decode cX9_start 16 = .ok (.invokevirtual 315, 3) := by decide +kernel
theorem dX9_start_19 : decode cX9_start 19 = .ok (.return_, 1) := by decide +kernel
theorem dX9_start_20 : decode cX9_start 20 = .ok (.aload_n 2, 1) := by decide +kernel
theorem dX9_start_21 : decode cX9_start 21 = .ok (.getfield 227, 3) := by decide +kernel
theorem dX9_start_24 : decode cX9_start 24 = .ok (.aload_n 1, 1) := by decide +kernel
theorem dX9_start_25 : decode cX9_start 25 = .ok (.getfield 305, 3) := by decide +kernel
theorem dX9_start_28 : decode cX9_start 28 = .ok (.aload_n 0, 1) := by decide +kernel
theorem dX9_start_29 : decode cX9_start 29 = .ok (.getfield 135, 3) := by decide +kernel
theorem dX9_start_32 : decode cX9_start 32 = .ok (.invokevirtual 231, 3) := by decide +kernel
theorem dX9_start_35 : decode cX9_start 35 = .ok (.astore_n 3, 1) := by decide +kernel
theorem dX9_start_36 : decode cX9_start 36 = .ok (.aload_n 3, 1) := by decide +kernel
theorem dX9_start_37 : decode cX9_start 37 = .ok (.ifnull 12, 3) := by decide +kernel
theorem dX9_start_40 : decode cX9_start 40 = .ok (.aload_n 0, 1) := by decide +kernel
theorem dX9_start_41 : decode cX9_start 41 = .ok (.aload_n 3, 1) := by decide +kernel
theorem dX9_start_42 : decode cX9_start 42 = .ok (.aload_n 1, 1) := by decide +kernel
theorem dX9_start_43 : decode cX9_start 43 = .ok (.invokevirtual 318, 3) := by decide +kernel
theorem dX9_start_46 : decode cX9_start 46 = .ok (.goto 9, 3) := by decide +kernel
theorem dX9_start_49 : decode cX9_start 49 = .ok (.aload_n 0, 1) := by decide +kernel
theorem dX9_start_50 : decode cX9_start 50 = .ok (.iconst 0, 1) := by decide +kernel
theorem dX9_start_51 : decode cX9_start 51 = .ok (.aload_n 1, 1) := by decide +kernel
theorem dX9_start_52 : decode cX9_start 52 = .ok (.invokevirtual 322, 3) := by decide +kernel
theorem dX9_start_55 : decode cX9_start 55 = .ok (.return_, 1) := by decide +kernel
def f_X9_start (σ : HS) (a0 : Option Nat) (a1 : Option Nat) (a2 : Option Nat) : Option (Unit × HS) :=
  h_b1 (h_gI σ a1 4 2) fun x1 =>
  h_b1 (h_rcv σ a2 8) fun y6 =>
  h_bd (f_X7_hasEndpoint σ a2 x1) fun r3 s4 =>
  if r3 = 0 then
    h_b1 (h_gR s4 a2 8 4) fun x9 =>
    h_b1 (h_gI s4 a1 4 2) fun x11 =>
    h_b1 (h_gI s4 a0 10 9) fun x13 =>
    h_b1 (h_rcv s4 x9 3) fun y18 =>
    h_bd (f_X2_find s4 x9 x11 x13) fun r15 s16 =>
    if r15 = none then
      h_b1 (h_rcv s16 a0 10) fun y24 =>
      h_bd (f_X9_postRequest s16 a0 0 a1) fun _ s22 =>
      some ((), s22)
    else
      h_b1 (h_rcv s16 a0 10) fun y29 =>
      h_bd (f_X9_follow s16 a0 r15 a1) fun _ s27 =>
      some ((), s27)
  else
    h_b1 (h_gI s4 a1 4 1) fun x31 =>
    h_b1 (h_rcv s4 a1 4) fun y36 =>
    h_bd (f_X3_arriveAt s4 a1 x31) fun _ s34 =>
    some ((), s34)
set_option maxHeartbeats 4000000 in
set_option maxRecDepth 100000 in
theorem m_X9_start (l : Launch) (D : va_G) (dA : Nat → ClassId) (bs : Nat) {σ σ' : HS} {a0 : Option Nat} {a1 : Option Nat} {a2 : Option Nat} (h : f_X9_start σ a0 a1 a2 = some ((), σ')) : MetC l yX9_start cX9_start 4 none 4 135 D dA bs [va_rf a0, va_rf a1, va_rf a2] none σ σ' := by
  refine MetC.of (by decide) (h_avR (h_avR (h_avR h_av0))) (Nat.le_of_ble_eq_true rfl) ?_
  intro p e R s m args below meth c C B hnm
  unfold f_X9_start at h
  refine V_sub (lv' := [(0, va_rf a0), (1, va_rf a1), (2, va_rf a2)]) [0, 1, 2] rfl ?_
  refine V_aload_n C 2 dX9_start_0 rfl rfl ?_
  refine V_aload_n C 1 dX9_start_1 rfl rfl ?_
  obtain ⟨x1, e2, h⟩ := h_b1_some h
  refine V_getI C fl_RX9_305 dX9_start_2 e2 ?_
  obtain ⟨y6, e7, h⟩ := h_b1_some h
  obtain ⟨r3, s4, e5, h⟩ := h_bd_some h
  refine V_cV (As := [.int x1]) (rest := []) C mv_RX9_312 (m_X7_hasEndpoint l D dA bs e5) e7 rfl rfl (Nat.le_trans h_w0 (by decide)) (h_fr B (by decide)) (h_lo B (by decide)) dX9_start_5 ?_
  refine V_if_eq (tgt := 20) C dX9_start_8 (by decide) (fun c8 => ?_) (fun c8 => ?_)
  · rw [if_pos c8] at h
    refine V_aload_n C 2 dX9_start_20 rfl rfl ?_
    obtain ⟨x9, e10, h⟩ := h_b1_some h
    refine V_getR C fl_RX9_227 dX9_start_21 e10 ?_
    refine V_aload_n C 1 dX9_start_24 rfl rfl ?_
    obtain ⟨x11, e12, h⟩ := h_b1_some h
    refine V_getI C fl_RX9_305 dX9_start_25 e12 ?_
    refine V_aload_n C 0 dX9_start_28 rfl rfl ?_
    obtain ⟨x13, e14, h⟩ := h_b1_some h
    refine V_getI C fl_RX9_135 dX9_start_29 e14 ?_
    obtain ⟨y18, e19, h⟩ := h_b1_some h
    obtain ⟨r15, s16, e17, h⟩ := h_bd_some h
    refine V_cV (As := [.int x11, .int x13]) (rest := []) C mv_RX9_231 (m_X2_find l D dA bs e17) e19 rfl rfl (Nat.le_trans h_w0 (by decide)) (h_fr B (by decide)) (h_lo B (by decide)) dX9_start_32 ?_
    refine V_astore_n (lv' := [(3, va_rf r15), (0, va_rf a0), (1, va_rf a1), (2, va_rf a2)]) C dX9_start_35 rfl (by decide) rfl ?_
    refine V_aload_n C 0 dX9_start_36 rfl rfl ?_
    refine V_ifnull (tgt := 49) C dX9_start_37 (by decide) (fun c20 => ?_) (fun c20 => ?_)
    · rw [if_pos c20] at h
      refine V_aload_n C 1 dX9_start_49 rfl rfl ?_
      refine V_iconst (v := 0) C dX9_start_50 (by decide) ?_
      refine V_aload_n C 2 dX9_start_51 rfl rfl ?_
      obtain ⟨y24, e25, h⟩ := h_b1_some h
      obtain ⟨r21, s22, e23, h⟩ := h_bd_some h
      refine V_cV (As := [.int 0, va_rf a1]) (rest := []) C mv_RX9_322 (m_X9_postRequest l D dA bs e23) e25 rfl rfl (Nat.le_trans h_w0 (by decide)) (h_fr B (by decide)) (h_lo B (by decide)) dX9_start_52 ?_
      cases h
      exact V_vret C B dX9_start_55
    · rw [if_neg c20] at h
      refine V_aload_n C 1 dX9_start_40 rfl rfl ?_
      refine V_aload_n C 0 dX9_start_41 rfl rfl ?_
      refine V_aload_n C 2 dX9_start_42 rfl rfl ?_
      obtain ⟨y29, e30, h⟩ := h_b1_some h
      obtain ⟨r26, s27, e28, h⟩ := h_bd_some h
      refine V_cV (As := [va_rf r15, va_rf a1]) (rest := []) C mv_RX9_318 (m_X9_follow l D dA bs e28) e30 rfl rfl (Nat.le_trans h_w0 (by decide)) (h_fr B (by decide)) (h_lo B (by decide)) dX9_start_43 ?_
      refine V_goto (tgt := 55) C dX9_start_46 (by decide) ?_
      cases h
      exact V_vret C B dX9_start_55
  · rw [if_neg c8] at h
    refine V_aload_n C 1 dX9_start_11 rfl rfl ?_
    refine V_aload_n C 1 dX9_start_12 rfl rfl ?_
    obtain ⟨x31, e32, h⟩ := h_b1_some h
    refine V_getI C fl_RX9_304 dX9_start_13 e32 ?_
    obtain ⟨y36, e37, h⟩ := h_b1_some h
    obtain ⟨r33, s34, e35, h⟩ := h_bd_some h
    refine V_cV (As := [.int x31]) (rest := []) C mv_RX9_315 (m_X3_arriveAt l D dA bs e35) e37 rfl rfl (Nat.le_trans h_w0 (by decide)) (h_fr B (by decide)) (h_lo B (by decide)) dX9_start_16 ?_
    cases h
    exact V_vret C B dX9_start_19
/-! X9_packetAt -/
theorem dX9_packetAt_0 : decode cX9_packetAt 0 = .ok (.iload_n 1, 1) := by decide +kernel
theorem dX9_packetAt_1 : decode cX9_packetAt 1 = .ok (.iconst 1, 1) := by decide +kernel
theorem dX9_packetAt_2 : decode cX9_packetAt 2 = .ok (.if_icmp .lt 11, 3) := by decide +kernel
theorem dX9_packetAt_5 : decode cX9_packetAt 5 = .ok (.iload_n 1, 1) := by decide +kernel
theorem dX9_packetAt_6 : decode cX9_packetAt 6 = .ok (.aload_n 0, 1) := by decide +kernel
theorem dX9_packetAt_7 : decode cX9_packetAt 7 = .ok (.getfield 157, 3) := by decide +kernel
theorem dX9_packetAt_10 : decode cX9_packetAt 10 = .ok (.if_icmp .le 7, 3) := by decide +kernel
theorem dX9_packetAt_13 : decode cX9_packetAt 13 = .ok (.aconst_null, 1) := by decide +kernel
theorem dX9_packetAt_14 : decode cX9_packetAt 14 = .ok (.goto 11, 3) := by decide +kernel
theorem dX9_packetAt_17 : decode cX9_packetAt 17 = .ok (.aload_n 0, 1) := by decide +kernel
theorem dX9_packetAt_18 : decode cX9_packetAt 18 = .ok (.getfield 44, 3) := by decide +kernel
theorem dX9_packetAt_21 : decode cX9_packetAt 21 = .ok (.iload_n 1, 1) := by decide +kernel
theorem dX9_packetAt_22 : decode cX9_packetAt 22 = .ok (.iconst 1, 1) := by decide +kernel
theorem dX9_packetAt_23 : decode cX9_packetAt 23 = .ok (.isub, 1) := by decide +kernel
theorem dX9_packetAt_24 : decode cX9_packetAt 24 = .ok (.aaload, 1) := by decide +kernel
theorem dX9_packetAt_25 : decode cX9_packetAt 25 = .ok (.areturn, 1) := by decide +kernel
def f_X9_packetAt (σ : HS) (a0 : Option Nat) (a1 : Int32) : Option (Option Nat × HS) :=
  if a1 < 1 then
    some ((none : Option Nat), σ)
  else
    h_b1 (h_gI σ a0 10 8) fun x2 =>
    if a1 ≤ x2 then
      h_b1 (h_gR σ a0 10 7) fun x5 =>
      h_b1 (h_aR σ x5 105 (a1 - 1)) fun x7 =>
      some (x7, σ)
    else
      some ((none : Option Nat), σ)
set_option maxHeartbeats 4000000 in
set_option maxRecDepth 100000 in
theorem m_X9_packetAt (l : Launch) (D : va_G) (dA : Nat → ClassId) (bs : Nat) {σ σ' : HS} {a0 : Option Nat} {a1 : Int32} {r : Option Nat} (h : f_X9_packetAt σ a0 a1 = some (r, σ')) : MetC l yX9_packetAt cX9_packetAt 2 (some (.object RX3)) 0 0 D dA bs [va_rf a0, .int a1] (some (va_rf r)) σ σ' := by
  refine MetC.of (by decide) (h_avR (h_avI h_av0)) (Nat.le_of_ble_eq_true rfl) ?_
  intro p e R s m args below meth c C B hnm
  unfold f_X9_packetAt at h
  refine V_sub (lv' := [(0, va_rf a0), (1, .int a1)]) [0, 1] rfl ?_
  refine V_iload_n C 1 dX9_packetAt_0 rfl rfl ?_
  refine V_iconst (v := 1) C dX9_packetAt_1 (by decide) ?_
  refine V_icmp_lt (tgt := 13) C dX9_packetAt_2 (by decide) (fun c1 => ?_) (fun c1 => ?_)
  · rw [if_pos c1] at h
    refine V_null C dX9_packetAt_13 ?_
    refine V_goto (tgt := 25) C dX9_packetAt_14 (by decide) ?_
    cases h
    exact V_aret C B dX9_packetAt_25
  · rw [if_neg c1] at h
    refine V_iload_n C 1 dX9_packetAt_5 rfl rfl ?_
    refine V_aload_n C 0 dX9_packetAt_6 rfl rfl ?_
    obtain ⟨x2, e3, h⟩ := h_b1_some h
    refine V_getI C fl_RX9_157 dX9_packetAt_7 e3 ?_
    refine V_icmp_le (tgt := 17) C dX9_packetAt_10 (by decide) (fun c4 => ?_) (fun c4 => ?_)
    · rw [if_pos c4] at h
      refine V_aload_n C 0 dX9_packetAt_17 rfl rfl ?_
      obtain ⟨x5, e6, h⟩ := h_b1_some h
      refine V_getR C fl_RX9_44 dX9_packetAt_18 e6 ?_
      refine V_iload_n C 1 dX9_packetAt_21 rfl rfl ?_
      refine V_iconst (v := 1) C dX9_packetAt_22 (by decide) ?_
      refine V_isub C dX9_packetAt_23 ?_
      obtain ⟨x7, e8, h⟩ := h_b1_some h
      refine V_aald C h_at105 dX9_packetAt_24 e8 ?_
      cases h
      exact V_aret C B dX9_packetAt_25
    · rw [if_neg c4] at h
      refine V_null C dX9_packetAt_13 ?_
      refine V_goto (tgt := 25) C dX9_packetAt_14 (by decide) ?_
      cases h
      exact V_aret C B dX9_packetAt_25
/-! X9_postSolicit -/
theorem dX9_postSolicit_0 : decode cX9_postSolicit 0 = .ok (.aload_n 0, 1) := by decide +kernel
theorem dX9_postSolicit_1 : decode cX9_postSolicit 1 = .ok (.dup, 1) := by decide +kernel
theorem dX9_postSolicit_2 : decode cX9_postSolicit 2 = .ok (.getfield 264, 3) := by decide +kernel
theorem dX9_postSolicit_5 : decode cX9_postSolicit 5 = .ok (.iconst 1, 1) := by decide +kernel
theorem dX9_postSolicit_6 : decode cX9_postSolicit 6 = .ok (.iadd, 1) := by decide +kernel
theorem dX9_postSolicit_7 : decode cX9_postSolicit 7 = .ok (.putfield 264, 3) := by decide +kernel
theorem dX9_postSolicit_10 : decode cX9_postSolicit 10 = .ok (.aload_n 0, 1) := by decide +kernel
theorem dX9_postSolicit_11 : decode cX9_postSolicit 11 = .ok (.iconst 4, 1) := by decide +kernel
theorem dX9_postSolicit_12 : decode cX9_postSolicit 12 = .ok (.iload_n 1, 1) := by decide +kernel
theorem dX9_postSolicit_13 : decode cX9_postSolicit 13 = .ok (.iload_n 2, 1) := by decide +kernel
theorem dX9_postSolicit_14 : decode cX9_postSolicit 14 = .ok (.iload_n 3, 1) := by decide +kernel
theorem dX9_postSolicit_15 : decode cX9_postSolicit 15 = .ok (.iconst 0, 1) := by decide +kernel
theorem dX9_postSolicit_16 : decode cX9_postSolicit 16 = .ok (.invokevirtual 308, 3) := by decide +kernel
theorem dX9_postSolicit_19 : decode cX9_postSolicit 19 = .ok (.return_, 1) := by decide +kernel
def f_X9_postSolicit (σ : HS) (a0 : Option Nat) (a1 : Int32) (a2 : Int32) (a3 : Int32) : Option (Unit × HS) :=
  h_b1 (h_gI σ a0 10 13) fun x1 =>
  h_b1 (h_pI σ a0 10 13 (x1 + 1)) fun s3 =>
  h_b1 (h_rcv s3 a0 10) fun y8 =>
  h_bd (f_X9_postShort s3 a0 4 a1 a2 a3 0) fun _ s6 =>
  some ((), s6)
set_option maxHeartbeats 4000000 in
set_option maxRecDepth 100000 in
theorem m_X9_postSolicit (l : Launch) (D : va_G) (dA : Nat → ClassId) (bs : Nat) {σ σ' : HS} {a0 : Option Nat} {a1 : Int32} {a2 : Int32} {a3 : Int32} (h : f_X9_postSolicit σ a0 a1 a2 a3 = some ((), σ')) : MetC l yX9_postSolicit cX9_postSolicit 4 none 3 113 D dA bs [va_rf a0, .int a1, .int a2, .int a3] none σ σ' := by
  refine MetC.of (by decide) (h_avR (h_avI (h_avI (h_avI h_av0)))) (Nat.le_of_ble_eq_true rfl) ?_
  intro p e R s m args below meth c C B hnm
  unfold f_X9_postSolicit at h
  refine V_sub (lv' := [(0, va_rf a0), (1, .int a1), (2, .int a2), (3, .int a3)]) [0, 1, 2, 3] rfl ?_
  refine V_aload_n C 0 dX9_postSolicit_0 rfl rfl ?_
  refine V_dupR C dX9_postSolicit_1 ?_
  obtain ⟨x1, e2, h⟩ := h_b1_some h
  refine V_getI C fl_RX9_264 dX9_postSolicit_2 e2 ?_
  refine V_iconst (v := 1) C dX9_postSolicit_5 (by decide) ?_
  refine V_iadd C dX9_postSolicit_6 ?_
  obtain ⟨s3, e4, h⟩ := h_b1_some h
  refine V_putI C fw_RX9_264 dX9_postSolicit_7 e4 ?_
  refine V_aload_n C 0 dX9_postSolicit_10 rfl rfl ?_
  refine V_iconst (v := 4) C dX9_postSolicit_11 (by decide) ?_
  refine V_iload_n C 1 dX9_postSolicit_12 rfl rfl ?_
  refine V_iload_n C 2 dX9_postSolicit_13 rfl rfl ?_
  refine V_iload_n C 3 dX9_postSolicit_14 rfl rfl ?_
  refine V_iconst (v := 0) C dX9_postSolicit_15 (by decide) ?_
  obtain ⟨y8, e9, h⟩ := h_b1_some h
  obtain ⟨r5, s6, e7, h⟩ := h_bd_some h
  refine V_cV (As := [.int 4, .int a1, .int a2, .int a3, .int 0]) (rest := []) C mv_RX9_308 (m_X9_postShort l D dA bs e7) e9 rfl rfl (Nat.le_trans h_w0 (by decide)) (h_fr B (by decide)) (h_lo B (by decide)) dX9_postSolicit_16 ?_
  cases h
  exact V_vret C B dX9_postSolicit_19
/-! X9_passOn -/
theorem dX9_passOn_0 : decode cX9_passOn 0 = .ok (.aload_n 0, 1) := by decide +kernel
theorem dX9_passOn_1 : decode cX9_passOn 1 = .ok (.aload_n 0, 1) := by decide +kernel
theorem dX9_passOn_2 : decode cX9_passOn 2 = .ok (.getfield 22, 3) := by decide +kernel
theorem dX9_passOn_5 : decode cX9_passOn 5 = .ok (.iload_n 2, 1) := by decide +kernel
theorem dX9_passOn_6 : decode cX9_passOn 6 = .ok (.iaload, 1) := by decide +kernel
theorem dX9_passOn_7 : decode cX9_passOn 7 = .ok (.invokevirtual 107, 3) := by decide +kernel
theorem dX9_passOn_10 : decode cX9_passOn 10 = .ok (.astore_n 3, 1) := by decide +kernel
theorem dX9_passOn_11 : decode cX9_passOn 11 = .ok (.aload_n 3, 1) := by decide +kernel
theorem dX9_passOn_12 : decode cX9_passOn 12 = .ok (.ifnull 19, 3) := by decide +kernel
theorem dX9_passOn_15 : decode cX9_passOn 15 = .ok (.aload_n 0, 1) := by decide +kernel
theorem dX9_passOn_16 : decode cX9_passOn 16 = .ok (.getfield 135, 3) := by decide +kernel
theorem dX9_passOn_19 : decode cX9_passOn 19 = .ok (.aload_n 0, 1) := by decide +kernel
theorem dX9_passOn_20 : decode cX9_passOn 20 = .ok (.getfield 26, 3) := by decide +kernel
theorem dX9_passOn_23 : decode cX9_passOn 23 = .ok (.iload_n 2, 1) := by decide +kernel
theorem dX9_passOn_24 : decode cX9_passOn 24 = .ok (.iaload, 1) := by decide +kernel
theorem dX9_passOn_25 : decode cX9_passOn 25 = .ok (.isub, 1) := by decide +kernel
theorem dX9_passOn_26 : decode cX9_passOn 26 = .ok (.bipush 30, 2) := by decide +kernel
theorem dX9_passOn_28 : decode cX9_passOn 28 = .ok (.if_icmp .lt 8, 3) := by decide +kernel
theorem dX9_passOn_31 : decode cX9_passOn 31 = .ok (.aload_n 1, 1) := by decide +kernel
theorem dX9_passOn_32 : decode cX9_passOn 32 = .ok (.invokevirtual 405, 3) := by decide +kernel
theorem dX9_passOn_35 : decode cX9_passOn 35 = .ok (.return_, 1) := by decide +kernel
theorem dX9_passOn_36 : decode cX9_passOn 36 = .ok (.aload_n 0, 1) := by decide +kernel
theorem dX9_passOn_37 : decode cX9_passOn 37 = .ok (.getfield 36, 3) := by decide +kernel
theorem dX9_passOn_40 : decode cX9_passOn 40 = .ok (.iconst 0, 1) := by decide +kernel
theorem dX9_passOn_41 : decode cX9_passOn 41 = .ok (.iaload, 1) := by decide +kernel
theorem dX9_passOn_42 : decode cX9_passOn 42 = .ok (.istore 4, 2) := by decide +kernel
theorem dX9_passOn_44 : decode cX9_passOn 44 = .ok (.aload_n 0, 1) := by decide +kernel
theorem dX9_passOn_45 : decode cX9_passOn 45 = .ok (.getfield 36, 3) := by decide +kernel
theorem dX9_passOn_48 : decode cX9_passOn 48 = .ok (.iconst 2, 1) := by decide +kernel
theorem dX9_passOn_49 : decode cX9_passOn 49 = .ok (.iaload, 1) := by decide +kernel
theorem dX9_passOn_50 : decode cX9_passOn 50 = .ok (.istore 5, 2) := by decide +kernel
theorem dX9_passOn_52 : decode cX9_passOn 52 = .ok (.aload_n 0, 1) := by decide +kernel
theorem dX9_passOn_53 : decode cX9_passOn 53 = .ok (.iconst 3, 1) := by decide +kernel
theorem dX9_passOn_54 : decode cX9_passOn 54 = .ok (.aload_n 3, 1) := by decide +kernel
theorem dX9_passOn_55 : decode cX9_passOn 55 = .ok (.getfield 132, 3) := by decide +kernel
theorem dX9_passOn_58 : decode cX9_passOn 58 = .ok (.iload 4, 2) := by decide +kernel
theorem dX9_passOn_60 : decode cX9_passOn 60 = .ok (.aload_n 1, 1) := by decide +kernel
theorem dX9_passOn_61 : decode cX9_passOn 61 = .ok (.getfield 172, 3) := by decide +kernel
theorem dX9_passOn_64 : decode cX9_passOn 64 = .ok (.iload 5, 2) := by decide +kernel
theorem dX9_passOn_66 : decode cX9_passOn 66 = .ok (.invokevirtual 308, 3) := by decide +kernel
theorem dX9_passOn_69 : decode cX9_passOn 69 = .ok (.aload_n 0, 1) := by decide +kernel
theorem dX9_passOn_70 : decode cX9_passOn 70 = .ok (.iload 4, 2) := by decide +kernel
theorem dX9_passOn_72 : decode cX9_passOn 72 = .ok (.iload 5, 2) := by decide +kernel
theorem dX9_passOn_74 : decode cX9_passOn 74 = .ok (.iload_n 2, 1) := by decide +kernel
theorem dX9_passOn_75 : decode cX9_passOn 75 = .ok (.invokevirtual 402, 3) := by decide +kernel
theorem dX9_passOn_78 : decode cX9_passOn 78 = .ok (.return_, 1) := by decide +kernel
def f_X9_passOn (σ : HS) (a0 : Option Nat) (a1 : Option Nat) (a2 : Int32) : Option (Unit × HS) :=
  h_b1 (h_gR σ a0 10 2) fun x1 =>
  h_b1 (h_aI σ x1 100 a2) fun x3 =>
  h_b1 (h_rcv σ a0 10) fun y8 =>
  h_bd (f_X9_siteAt σ a0 x3) fun r5 s6 =>
  if r5 = none then
    h_b1 (h_rcv s6 a1 4) fun y14 =>
    h_bd (f_X3_lose s6 a1) fun _ s12 =>
    some ((), s12)
  else
    h_b1 (h_gI s6 a0 10 9) fun x16 =>
    h_b1 (h_gR s6 a0 10 3) fun x18 =>
    h_b1 (h_aI s6 x18 100 a2) fun x20 =>
    if (x16 - x20) < 30 then
      h_b1 (h_gR s6 a0 10 5) fun x23 =>
      h_b1 (h_aI s6 x23 100 0) fun x25 =>
      h_b1 (h_gR s6 a0 10 5) fun x27 =>
      h_b1 (h_aI s6 x27 100 2) fun x29 =>
      h_b1 (h_gI s6 r5 8 0) fun x31 =>
      h_b1 (h_gI s6 a1 4 0) fun x33 =>
      h_b1 (h_rcv s6 a0 10) fun y38 =>
      h_bd (f_X9_postShort s6 a0 3 x31 x25 x33 x29) fun _ s36 =>
      h_b1 (h_rcv s36 a0 10) fun y43 =>
      h_bd (f_X9_postSolicit s36 a0 x25 x29 a2) fun _ s41 =>
      some ((), s41)
    else
      h_b1 (h_rcv s6 a1 4) fun y48 =>
      h_bd (f_X3_lose s6 a1) fun _ s46 =>
      some ((), s46)
set_option maxHeartbeats 4000000 in
set_option maxRecDepth 100000 in
theorem m_X9_passOn (l : Launch) (D : va_G) (dA : Nat → ClassId) (bs : Nat) {σ σ' : HS} {a0 : Option Nat} {a1 : Option Nat} {a2 : Int32} (h : f_X9_passOn σ a0 a1 a2 = some ((), σ')) : MetC l yX9_passOn cX9_passOn 6 none 4 136 D dA bs [va_rf a0, va_rf a1, .int a2] none σ σ' := by
  refine MetC.of (by decide) (h_avR (h_avR (h_avI h_av0))) (Nat.le_of_ble_eq_true rfl) ?_
  intro p e R s m args below meth c C B hnm
  unfold f_X9_passOn at h
  refine V_sub (lv' := [(0, va_rf a0), (1, va_rf a1), (2, .int a2)]) [0, 1, 2] rfl ?_
  refine V_aload_n C 0 dX9_passOn_0 rfl rfl ?_
  refine V_aload_n C 0 dX9_passOn_1 rfl rfl ?_
  obtain ⟨x1, e2, h⟩ := h_b1_some h
  refine V_getR C fl_RX9_22 dX9_passOn_2 e2 ?_
  refine V_iload_n C 2 dX9_passOn_5 rfl rfl ?_
  obtain ⟨x3, e4, h⟩ := h_b1_some h
  refine V_iald C dX9_passOn_6 e4 ?_
  obtain ⟨y8, e9, h⟩ := h_b1_some h
  obtain ⟨r5, s6, e7, h⟩ := h_bd_some h
  refine V_cV (As := [.int x3]) (rest := []) C mv_RX9_107 (m_X9_siteAt l D dA bs e7) e9 rfl rfl (Nat.le_trans h_w0 (by decide)) (h_fr B (by decide)) (h_lo B (by decide)) dX9_passOn_7 ?_
  refine V_astore_n (lv' := [(3, va_rf r5), (0, va_rf a0), (1, va_rf a1), (2, .int a2)]) C dX9_passOn_10 rfl (by decide) rfl ?_
  refine V_aload_n C 0 dX9_passOn_11 rfl rfl ?_
  refine V_ifnull (tgt := 31) C dX9_passOn_12 (by decide) (fun c10 => ?_) (fun c10 => ?_)
  · rw [if_pos c10] at h
    refine V_aload_n C 2 dX9_passOn_31 rfl rfl ?_
    obtain ⟨y14, e15, h⟩ := h_b1_some h
    obtain ⟨r11, s12, e13, h⟩ := h_bd_some h
    refine V_cV (As := []) (rest := []) C mv_RX9_405 (m_X3_lose l D dA bs e13) e15 rfl rfl (Nat.le_trans h_w0 (by decide)) (h_fr B (by decide)) (h_lo B (by decide)) dX9_passOn_32 ?_
    cases h
    exact V_vret C B dX9_passOn_35
  · rw [if_neg c10] at h
    refine V_aload_n C 1 dX9_passOn_15 rfl rfl ?_
    obtain ⟨x16, e17, h⟩ := h_b1_some h
    refine V_getI C fl_RX9_135 dX9_passOn_16 e17 ?_
    refine V_aload_n C 1 dX9_passOn_19 rfl rfl ?_
    obtain ⟨x18, e19, h⟩ := h_b1_some h
    refine V_getR C fl_RX9_26 dX9_passOn_20 e19 ?_
    refine V_iload_n C 3 dX9_passOn_23 rfl rfl ?_
    obtain ⟨x20, e21, h⟩ := h_b1_some h
    refine V_iald C dX9_passOn_24 e21 ?_
    refine V_isub C dX9_passOn_25 ?_
    refine V_bipush (v := 30) C dX9_passOn_26 (by decide) ?_
    refine V_icmp_lt (tgt := 36) C dX9_passOn_28 (by decide) (fun c22 => ?_) (fun c22 => ?_)
    · rw [if_pos c22] at h
      refine V_aload_n C 1 dX9_passOn_36 rfl rfl ?_
      obtain ⟨x23, e24, h⟩ := h_b1_some h
      refine V_getR C fl_RX9_36 dX9_passOn_37 e24 ?_
      refine V_iconst (v := 0) C dX9_passOn_40 (by decide) ?_
      obtain ⟨x25, e26, h⟩ := h_b1_some h
      refine V_iald C dX9_passOn_41 e26 ?_
      refine V_istore (lv' := [(4, .int x25), (3, va_rf r5), (0, va_rf a0), (1, va_rf a1), (2, .int a2)]) C dX9_passOn_42 (by decide) rfl ?_
      refine V_aload_n C 2 dX9_passOn_44 rfl rfl ?_
      obtain ⟨x27, e28, h⟩ := h_b1_some h
      refine V_getR C fl_RX9_36 dX9_passOn_45 e28 ?_
      refine V_iconst (v := 2) C dX9_passOn_48 (by decide) ?_
      obtain ⟨x29, e30, h⟩ := h_b1_some h
      refine V_iald C dX9_passOn_49 e30 ?_
      refine V_istore (lv' := [(5, .int x29), (4, .int x25), (3, va_rf r5), (0, va_rf a0), (1, va_rf a1), (2, .int a2)]) C dX9_passOn_50 (by decide) rfl ?_
      refine V_aload_n C 3 dX9_passOn_52 rfl rfl ?_
      refine V_iconst (v := 3) C dX9_passOn_53 (by decide) ?_
      refine V_aload_n C 2 dX9_passOn_54 rfl rfl ?_
      obtain ⟨x31, e32, h⟩ := h_b1_some h
      refine V_getI C fl_RX9_132 dX9_passOn_55 e32 ?_
      refine V_iload C 1 dX9_passOn_58 rfl ?_
      refine V_aload_n C 4 dX9_passOn_60 rfl rfl ?_
      obtain ⟨x33, e34, h⟩ := h_b1_some h
      refine V_getI C fl_RX9_172 dX9_passOn_61 e34 ?_
      refine V_iload C 0 dX9_passOn_64 rfl ?_
      obtain ⟨y38, e39, h⟩ := h_b1_some h
      obtain ⟨r35, s36, e37, h⟩ := h_bd_some h
      refine V_cV (As := [.int 3, .int x31, .int x25, .int x33, .int x29]) (rest := []) C mv_RX9_308 (m_X9_postShort l D dA bs e37) e39 rfl rfl (Nat.le_trans h_w0 (by decide)) (h_fr B (by decide)) (h_lo B (by decide)) dX9_passOn_66 ?_
      refine V_aload_n C 3 dX9_passOn_69 rfl rfl ?_
      refine V_iload C 1 dX9_passOn_70 rfl ?_
      refine V_iload C 0 dX9_passOn_72 rfl ?_
      refine V_iload_n C 5 dX9_passOn_74 rfl rfl ?_
      obtain ⟨y43, e44, h⟩ := h_b1_some h
      obtain ⟨r40, s41, e42, h⟩ := h_bd_some h
      refine V_cV (As := [.int x25, .int x29, .int a2]) (rest := []) C mv_RX9_402 (m_X9_postSolicit l D dA bs e42) e44 rfl rfl (Nat.le_trans h_w0 (by decide)) (h_fr B (by decide)) (h_lo B (by decide)) dX9_passOn_75 ?_
      cases h
      exact V_vret C B dX9_passOn_78
    · rw [if_neg c22] at h
      refine V_aload_n C 2 dX9_passOn_31 rfl rfl ?_
      obtain ⟨y48, e49, h⟩ := h_b1_some h
      obtain ⟨r45, s46, e47, h⟩ := h_bd_some h
      refine V_cV (As := []) (rest := []) C mv_RX9_405 (m_X3_lose l D dA bs e47) e49 rfl rfl (Nat.le_trans h_w0 (by decide)) (h_fr B (by decide)) (h_lo B (by decide)) dX9_passOn_32 ?_
      cases h
      exact V_vret C B dX9_passOn_35
/-! X9_takeData -/
theorem dX9_takeData_0 : decode cX9_takeData 0 = .ok (.aload_n 0, 1) := by decide +kernel
theorem dX9_takeData_1 : decode cX9_takeData 1 = .ok (.getfield 36, 3) := by decide +kernel
theorem dX9_takeData_4 : decode cX9_takeData 4 = .ok (.iconst 0, 1) := by decide +kernel
theorem dX9_takeData_5 : decode cX9_takeData 5 = .ok (.iaload, 1) := by decide +kernel
theorem dX9_takeData_6 : decode cX9_takeData 6 = .ok (.istore_n 2, 1) := by decide +kernel
theorem dX9_takeData_7 : decode cX9_takeData 7 = .ok (.aload_n 0, 1) := by decide +kernel
theorem dX9_takeData_8 : decode cX9_takeData 8 = .ok (.getfield 36, 3) := by decide +kernel
theorem dX9_takeData_11 : decode cX9_takeData 11 = .ok (.iconst 2, 1) := by decide +kernel
theorem dX9_takeData_12 : decode cX9_takeData 12 = .ok (.iaload, 1) := by decide +kernel
theorem dX9_takeData_13 : decode cX9_takeData 13 = .ok (.istore_n 3, 1) := by decide +kernel
theorem dX9_takeData_14 : decode cX9_takeData 14 = .ok (.aload_n 0, 1) := by decide +kernel
theorem dX9_takeData_15 : decode cX9_takeData 15 = .ok (.aload_n 0, 1) := by decide +kernel
theorem dX9_takeData_16 : decode cX9_takeData 16 = .ok (.getfield 36, 3) := by decide +kernel
theorem dX9_takeData_19 : decode cX9_takeData 19 = .ok (.iconst 1, 1) := by decide +kernel
theorem dX9_takeData_20 : decode cX9_takeData 20 = .ok (.iaload, 1) := by decide +kernel
theorem dX9_takeData_21 : decode cX9_takeData 21 = .ok (.invokevirtual 209, 3) := by decide +kernel
theorem dX9_takeData_24 : decode cX9_takeData 24 = .ok (.astore 4, 2) := by decide +kernel
theorem dX9_takeData_26 : decode cX9_takeData 26 = .ok (.aload_n 0, 1) := by decide +kernel
theorem dX9_takeData_27 : decode cX9_takeData 27 = .ok (.iload_n 2, 1) := by decide +kernel
theorem dX9_takeData_28 : decode cX9_takeData 28 = .ok (.invokevirtual 107, 3) := by decide +kernel
theorem dX9_takeData_31 : decode cX9_takeData 31 = .ok (.ifnull 15, 3) := by decide +kernel
theorem dX9_takeData_34 : decode cX9_takeData 34 = .ok (.aload 4, 2) := by decide +kernel
theorem dX9_takeData_36 : decode cX9_takeData 36 = .ok (.ifnull 10, 3) := by decide +kernel
theorem dX9_takeData_39 : decode cX9_takeData 39 = .ok (.iload_n 1, 1) := by decide +kernel
theorem dX9_takeData_40 : decode cX9_takeData 40 = .ok (.invokestatic 94, 3) := by decide +kernel
theorem dX9_takeData_43 : decode cX9_takeData 43 = .ok (.ifCond .ne 4, 3) := by decide +kernel
theorem dX9_takeData_46 : decode cX9_takeData 46 = .ok (.return_, 1) := by decide +kernel
theorem dX9_takeData_47 : decode cX9_takeData 47 = .ok (.aload_n 0, 1) := by decide +kernel
theorem dX9_takeData_48 : decode cX9_takeData 48 = .ok (.iload_n 1, 1) := by decide +kernel
theorem dX9_takeData_49 : decode cX9_takeData 49 = .ok (.invokevirtual 98, 3) := by decide +kernel
theorem dX9_takeData_52 : decode cX9_takeData 52 = .ok (.istore 5, 2) := by decide +kernel
theorem dX9_takeData_54 : decode cX9_takeData 54 = .ok (.iload 5, 2) := by decide +kernel
theorem dX9_takeData_56 : decode cX9_takeData 56 = .ok (.iconst (-1), 1) := by decide +kernel
theorem dX9_takeData_57 : decode cX9_takeData 57 = .ok (.if_icmp .ne 13, 3) := by decide +kernel
theorem dX9_takeData_60 : decode cX9_takeData 60 = .ok (.aload_n 0, 1) := by decide +kernel
theorem dX9_takeData_61 : decode cX9_takeData 61 = .ok (.aload 4, 2) := by decide +kernel
theorem dX9_takeData_63 : decode cX9_takeData 63 = .ok (.iload_n 1, 1) := by decide +kernel
theorem dX9_takeData_64 : decode cX9_takeData 64 = .ok (.invokevirtual 399, 3) := by decide +kernel
theorem dX9_takeData_67 : decode cX9_takeData 67 = .ok (.goto 39, 3) := by decide +kernel
theorem dX9_takeData_70 : decode cX9_takeData 70 = .ok (.aload_n 0, 1) := by decide +kernel
theorem dX9_takeData_71 : decode cX9_takeData 71 = .ok (.getfield 18, 3) := by decide +kernel
theorem dX9_takeData_74 : decode cX9_takeData 74 = .ok (.iload 5, 2) := by decide +kernel
theorem dX9_takeData_76 : decode cX9_takeData 76 = .ok (.aaload, 1) := by decide +kernel
theorem dX9_takeData_77 : decode cX9_takeData 77 = .ok (.iload_n 3, 1) := by decide +kernel
theorem dX9_takeData_78 : decode cX9_takeData 78 = .ok (.invokevirtual 312, 3) := by decide +kernel
theorem dX9_takeData_81 : decode cX9_takeData 81 = .ok (.ifCond .eq 13, 3) := by decide +kernel
theorem dX9_takeData_84 : decode cX9_takeData 84 = .ok (.aload 4, 2) := by decide +kernel
theorem dX9_takeData_86 : decode cX9_takeData 86 = .ok (.iload 5, 2) := by decide +kernel
theorem dX9_takeData_88 : decode cX9_takeData 88 = .ok (.invokevirtual 315, 3) := by decide +kernel
theorem dX9_takeData_91 : decode cX9_takeData 91 = .ok (.goto 15, 3) := by decide +kernel
theorem dX9_takeData_94 : decode cX9_takeData 94 = .ok (.aload_n 0, 1) := by decide +kernel
theorem dX9_takeData_95 : decode cX9_takeData 95 = .ok (.iload_n 2, 1) := by decide +kernel
theorem dX9_takeData_96 : decode cX9_takeData 96 = .ok (.iload_n 3, 1) := by decide +kernel
theorem dX9_takeData_97 : decode cX9_takeData 97 = .ok (.iload_n 1, 1) := by decide +kernel
theorem dX9_takeData_98 : decode cX9_takeData 98 = .ok (.invokevirtual 402, 3) := by decide +kernel
theorem dX9_takeData_101 : decode cX9_takeData 101 = .ok (.aload 4, 2) := by decide +kernel
theorem dX9_takeData_103 : decode cX9_takeData 103 = .ok (.invokevirtual 405, 3) := by decide +kernel
theorem dX9_takeData_106 : decode cX9_takeData 106 = .ok (.return_, 1) := by decide +kernel
def f_X9_takeData (σ : HS) (a0 : Option Nat) (a1 : Int32) : Option (Unit × HS) :=
  h_b1 (h_gR σ a0 10 5) fun x1 =>
  h_b1 (h_aI σ x1 100 0) fun x3 =>
  h_b1 (h_gR σ a0 10 5) fun x5 =>
  h_b1 (h_aI σ x5 100 2) fun x7 =>
  h_b1 (h_gR σ a0 10 5) fun x9 =>
  h_b1 (h_aI σ x9 100 1) fun x11 =>
  h_b1 (h_rcv σ a0 10) fun y16 =>
  h_bd (f_X9_packetAt σ a0 x11) fun r13 s14 =>
  h_b1 (h_rcv s14 a0 10) fun y21 =>
  h_bd (f_X9_siteAt s14 a0 x3) fun r18 s19 =>
  if r18 = none then
    some ((), s19)
  else
    if r13 = none then
      some ((), s19)
    else
      h_bd (f_X9_isPlace s19 a1) fun r25 s26 =>
      if r25 = 0 then
        some ((), s26)
      else
        h_b1 (h_rcv s26 a0 10) fun y32 =>
        h_bd (f_X9_hostOf s26 a0 a1) fun r29 s30 =>
        if r29 = (-1) then
          h_b1 (h_rcv s30 a0 10) fun y63 =>
          h_bd (f_X9_passOn s30 a0 r13 a1) fun _ s61 =>
          some ((), s61)
        else
          h_b1 (h_gR s30 a0 10 1) fun x35 =>
          h_b1 (h_aR s30 x35 108 r29) fun x37 =>
          h_b1 (h_rcv s30 x37 8) fun y42 =>
          h_bd (f_X7_hasEndpoint s30 x37 x7) fun r39 s40 =>
          if r39 = 0 then
            h_b1 (h_rcv s40 a0 10) fun y48 =>
            h_bd (f_X9_postSolicit s40 a0 x3 x7 a1) fun _ s46 =>
            h_b1 (h_rcv s46 r13 4) fun y53 =>
            h_bd (f_X3_lose s46 r13) fun _ s51 =>
            some ((), s51)
          else
            h_b1 (h_rcv s40 r13 4) fun y58 =>
            h_bd (f_X3_arriveAt s40 r13 r29) fun _ s56 =>
            some ((), s56)
set_option maxHeartbeats 4000000 in
set_option maxRecDepth 100000 in
theorem m_X9_takeData (l : Launch) (D : va_G) (dA : Nat → ClassId) (bs : Nat) {σ σ' : HS} {a0 : Option Nat} {a1 : Int32} (h : f_X9_takeData σ a0 a1 = some ((), σ')) : MetC l yX9_takeData cX9_takeData 6 none 5 161 D dA bs [va_rf a0, .int a1] none σ σ' := by
  refine MetC.of (by decide) (h_avR (h_avI h_av0)) (Nat.le_of_ble_eq_true rfl) ?_
  intro p e R s m args below meth c C B hnm
  unfold f_X9_takeData at h
  refine V_sub (lv' := [(0, va_rf a0), (1, .int a1)]) [0, 1] rfl ?_
  refine V_aload_n C 0 dX9_takeData_0 rfl rfl ?_
  obtain ⟨x1, e2, h⟩ := h_b1_some h
  refine V_getR C fl_RX9_36 dX9_takeData_1 e2 ?_
  refine V_iconst (v := 0) C dX9_takeData_4 (by decide) ?_
  obtain ⟨x3, e4, h⟩ := h_b1_some h
  refine V_iald C dX9_takeData_5 e4 ?_
  refine V_istore_n (lv' := [(2, .int x3), (0, va_rf a0), (1, .int a1)]) C dX9_takeData_6 rfl (by decide) rfl ?_
  refine V_aload_n C 1 dX9_takeData_7 rfl rfl ?_
  obtain ⟨x5, e6, h⟩ := h_b1_some h
  refine V_getR C fl_RX9_36 dX9_takeData_8 e6 ?_
  refine V_iconst (v := 2) C dX9_takeData_11 (by decide) ?_
  obtain ⟨x7, e8, h⟩ := h_b1_some h
  refine V_iald C dX9_takeData_12 e8 ?_
  refine V_istore_n (lv' := [(3, .int x7), (2, .int x3), (0, va_rf a0), (1, .int a1)]) C dX9_takeData_13 rfl (by decide) rfl ?_
  refine V_aload_n C 2 dX9_takeData_14 rfl rfl ?_
  refine V_aload_n C 2 dX9_takeData_15 rfl rfl ?_
  obtain ⟨x9, e10, h⟩ := h_b1_some h
  refine V_getR C fl_RX9_36 dX9_takeData_16 e10 ?_
  refine V_iconst (v := 1) C dX9_takeData_19 (by decide) ?_
  obtain ⟨x11, e12, h⟩ := h_b1_some h
  refine V_iald C dX9_takeData_20 e12 ?_
  obtain ⟨y16, e17, h⟩ := h_b1_some h
  obtain ⟨r13, s14, e15, h⟩ := h_bd_some h
  refine V_cV (As := [.int x11]) (rest := []) C mv_RX9_209 (m_X9_packetAt l D dA bs e15) e17 rfl rfl (Nat.le_trans h_w0 (by decide)) (h_fr B (by decide)) (h_lo B (by decide)) dX9_takeData_21 ?_
  refine V_astore (lv' := [(4, va_rf r13), (3, .int x7), (2, .int x3), (0, va_rf a0), (1, .int a1)]) C dX9_takeData_24 (by decide) rfl ?_
  refine V_aload_n C 3 dX9_takeData_26 rfl rfl ?_
  refine V_iload_n C 2 dX9_takeData_27 rfl rfl ?_
  obtain ⟨y21, e22, h⟩ := h_b1_some h
  obtain ⟨r18, s19, e20, h⟩ := h_bd_some h
  refine V_cV (As := [.int x3]) (rest := []) C mv_RX9_107 (m_X9_siteAt l D dA bs e20) e22 rfl rfl (Nat.le_trans h_w0 (by decide)) (h_fr B (by decide)) (h_lo B (by decide)) dX9_takeData_28 ?_
  refine V_ifnull (tgt := 46) C dX9_takeData_31 (by decide) (fun c23 => ?_) (fun c23 => ?_)
  · rw [if_pos c23] at h
    cases h
    exact V_vret C B dX9_takeData_46
  · rw [if_neg c23] at h
    refine V_aload C 0 dX9_takeData_34 rfl ?_
    refine V_ifnull (tgt := 46) C dX9_takeData_36 (by decide) (fun c24 => ?_) (fun c24 => ?_)
    · rw [if_pos c24] at h
      cases h
      exact V_vret C B dX9_takeData_46
    · rw [if_neg c24] at h
      refine V_iload_n C 4 dX9_takeData_39 rfl rfl ?_
      obtain ⟨r25, s26, e27, h⟩ := h_bd_some h
      refine V_cS (As := [.int a1]) (rest := []) C ms_RX9_94 (m_X9_isPlace l D dA bs e27) rfl rfl (Nat.le_trans h_w0 (by decide)) (h_fr B (by decide)) (h_lo B (by decide)) dX9_takeData_40 ?_
      refine V_if_ne (tgt := 47) C dX9_takeData_43 (by decide) (fun c28 => ?_) (fun c28 => ?_)
      · rw [if_neg c28] at h
        refine V_aload_n C 3 dX9_takeData_47 rfl rfl ?_
        refine V_iload_n C 4 dX9_takeData_48 rfl rfl ?_
        obtain ⟨y32, e33, h⟩ := h_b1_some h
        obtain ⟨r29, s30, e31, h⟩ := h_bd_some h
        refine V_cV (As := [.int a1]) (rest := []) C mv_RX9_98 (m_X9_hostOf l D dA bs e31) e33 rfl rfl (Nat.le_trans h_w0 (by decide)) (h_fr B (by decide)) (h_lo B (by decide)) dX9_takeData_49 ?_
        refine V_istore (lv' := [(5, .int r29), (4, va_rf r13), (3, .int x7), (2, .int x3), (0, va_rf a0), (1, .int a1)]) C dX9_takeData_52 (by decide) rfl ?_
        refine V_iload C 0 dX9_takeData_54 rfl ?_
        refine V_iconst (v := (-1)) C dX9_takeData_56 (by decide) ?_
        refine V_icmp_ne (tgt := 70) C dX9_takeData_57 (by decide) (fun c34 => ?_) (fun c34 => ?_)
        · rw [if_neg c34] at h
          refine V_aload_n C 4 dX9_takeData_70 rfl rfl ?_
          obtain ⟨x35, e36, h⟩ := h_b1_some h
          refine V_getR C fl_RX9_18 dX9_takeData_71 e36 ?_
          refine V_iload C 0 dX9_takeData_74 rfl ?_
          obtain ⟨x37, e38, h⟩ := h_b1_some h
          refine V_aald C h_at108 dX9_takeData_76 e38 ?_
          refine V_iload_n C 2 dX9_takeData_77 rfl rfl ?_
          obtain ⟨y42, e43, h⟩ := h_b1_some h
          obtain ⟨r39, s40, e41, h⟩ := h_bd_some h
          refine V_cV (As := [.int x7]) (rest := []) C mv_RX9_312 (m_X7_hasEndpoint l D dA bs e41) e43 rfl rfl (Nat.le_trans h_w0 (by decide)) (h_fr B (by decide)) (h_lo B (by decide)) dX9_takeData_78 ?_
          refine V_if_eq (tgt := 94) C dX9_takeData_81 (by decide) (fun c44 => ?_) (fun c44 => ?_)
          · rw [if_pos c44] at h
            refine V_aload_n C 4 dX9_takeData_94 rfl rfl ?_
            refine V_iload_n C 3 dX9_takeData_95 rfl rfl ?_
            refine V_iload_n C 2 dX9_takeData_96 rfl rfl ?_
            refine V_iload_n C 5 dX9_takeData_97 rfl rfl ?_
            obtain ⟨y48, e49, h⟩ := h_b1_some h
            obtain ⟨r45, s46, e47, h⟩ := h_bd_some h
            refine V_cV (As := [.int x3, .int x7, .int a1]) (rest := []) C mv_RX9_402 (m_X9_postSolicit l D dA bs e47) e49 rfl rfl (Nat.le_trans h_w0 (by decide)) (h_fr B (by decide)) (h_lo B (by decide)) dX9_takeData_98 ?_
            refine V_aload C 1 dX9_takeData_101 rfl ?_
            obtain ⟨y53, e54, h⟩ := h_b1_some h
            obtain ⟨r50, s51, e52, h⟩ := h_bd_some h
            refine V_cV (As := []) (rest := []) C mv_RX9_405 (m_X3_lose l D dA bs e52) e54 rfl rfl (Nat.le_trans h_w0 (by decide)) (h_fr B (by decide)) (h_lo B (by decide)) dX9_takeData_103 ?_
            cases h
            exact V_vret C B dX9_takeData_106
          · rw [if_neg c44] at h
            refine V_aload C 1 dX9_takeData_84 rfl ?_
            refine V_iload C 0 dX9_takeData_86 rfl ?_
            obtain ⟨y58, e59, h⟩ := h_b1_some h
            obtain ⟨r55, s56, e57, h⟩ := h_bd_some h
            refine V_cV (As := [.int r29]) (rest := []) C mv_RX9_315 (m_X3_arriveAt l D dA bs e57) e59 rfl rfl (Nat.le_trans h_w0 (by decide)) (h_fr B (by decide)) (h_lo B (by decide)) dX9_takeData_88 ?_
            refine V_goto (tgt := 106) C dX9_takeData_91 (by decide) ?_
            cases h
            exact V_vret C B dX9_takeData_106
        · rw [if_pos c34] at h
          refine V_aload_n C 4 dX9_takeData_60 rfl rfl ?_
          refine V_aload C 1 dX9_takeData_61 rfl ?_
          refine V_iload_n C 5 dX9_takeData_63 rfl rfl ?_
          obtain ⟨y63, e64, h⟩ := h_b1_some h
          obtain ⟨r60, s61, e62, h⟩ := h_bd_some h
          refine V_cV (As := [va_rf r13, .int a1]) (rest := []) C mv_RX9_399 (m_X9_passOn l D dA bs e62) e64 rfl rfl (Nat.le_trans h_w0 (by decide)) (h_fr B (by decide)) (h_lo B (by decide)) dX9_takeData_64 ?_
          refine V_goto (tgt := 106) C dX9_takeData_67 (by decide) ?_
          cases h
          exact V_vret C B dX9_takeData_106
      · rw [if_pos c28] at h
        cases h
        exact V_vret C B dX9_takeData_46
/-! X9_takeRegister -/
theorem dX9_takeRegister_0 : decode cX9_takeRegister 0 = .ok (.aload_n 1, 1) := by decide +kernel
theorem dX9_takeRegister_1 : decode cX9_takeRegister 1 = .ok (.ifnonnull 4, 3) := by decide +kernel
theorem dX9_takeRegister_4 : decode cX9_takeRegister 4 = .ok (.return_, 1) := by decide +kernel
theorem dX9_takeRegister_5 : decode cX9_takeRegister 5 = .ok (.aload_n 0, 1) := by decide +kernel
theorem dX9_takeRegister_6 : decode cX9_takeRegister 6 = .ok (.getfield 36, 3) := by decide +kernel
theorem dX9_takeRegister_9 : decode cX9_takeRegister 9 = .ok (.iconst 0, 1) := by decide +kernel
theorem dX9_takeRegister_10 : decode cX9_takeRegister 10 = .ok (.iaload, 1) := by decide +kernel
theorem dX9_takeRegister_11 : decode cX9_takeRegister 11 = .ok (.istore_n 2, 1) := by decide +kernel
theorem dX9_takeRegister_12 : decode cX9_takeRegister 12 = .ok (.aload_n 0, 1) := by decide +kernel
theorem dX9_takeRegister_13 : decode cX9_takeRegister 13 = .ok (.getfield 36, 3) := by decide +kernel
theorem dX9_takeRegister_16 : decode cX9_takeRegister 16 = .ok (.iconst 3, 1) := by decide +kernel
theorem dX9_takeRegister_17 : decode cX9_takeRegister 17 = .ok (.iaload, 1) := by decide +kernel
theorem dX9_takeRegister_18 : decode cX9_takeRegister 18 = .ok (.istore_n 3, 1) := by decide +kernel
theorem dX9_takeRegister_19 : decode cX9_takeRegister 19 = .ok (.aload_n 0, 1) := by decide +kernel
theorem dX9_takeRegister_20 : decode cX9_takeRegister 20 = .ok (.getfield 36, 3) := by decide +kernel
theorem dX9_takeRegister_23 : decode cX9_takeRegister 23 = .ok (.iconst 4, 1) := by decide +kernel
theorem dX9_takeRegister_24 : decode cX9_takeRegister 24 = .ok (.iaload, 1) := by decide +kernel
theorem dX9_takeRegister_25 : decode cX9_takeRegister 25 = .ok (.istore 4, 2) := by decide +kernel
theorem dX9_takeRegister_27 : decode cX9_takeRegister 27 = .ok (.aload_n 0, 1) := by decide +kernel
theorem dX9_takeRegister_28 : decode cX9_takeRegister 28 = .ok (.getfield 36, 3) := by decide +kernel
theorem dX9_takeRegister_31 : decode cX9_takeRegister 31 = .ok (.iconst 1, 1) := by decide +kernel
theorem dX9_takeRegister_32 : decode cX9_takeRegister 32 = .ok (.iaload, 1) := by decide +kernel
theorem dX9_takeRegister_33 : decode cX9_takeRegister 33 = .ok (.aload_n 0, 1) := by decide +kernel
theorem dX9_takeRegister_34 : decode cX9_takeRegister 34 = .ok (.getfield 36, 3) := by decide +kernel
theorem dX9_takeRegister_37 : decode cX9_takeRegister 37 = .ok (.iconst 2, 1) := by decide +kernel
theorem dX9_takeRegister_38 : decode cX9_takeRegister 38 = .ok (.iaload, 1) := by decide +kernel
theorem dX9_takeRegister_39 : decode cX9_takeRegister 39 = .ok (.invokestatic 63, 3) := by decide +kernel
theorem dX9_takeRegister_42 : decode cX9_takeRegister 42 = .ok (.astore 5, 2) := by decide +kernel
theorem dX9_takeRegister_44 : decode cX9_takeRegister 44 = .ok (.aload 5, 2) := by decide +kernel
theorem dX9_takeRegister_46 : decode cX9_takeRegister 46 = .ok (.ifnull 73, 3) := by decide +kernel
theorem dX9_takeRegister_49 : decode cX9_takeRegister 49 = .ok (.aload_n 0, 1) := by decide +kernel
theorem dX9_takeRegister_50 : decode cX9_takeRegister 50 = .ok (.iload_n 2, 1) := by decide +kernel
theorem dX9_takeRegister_51 : decode cX9_takeRegister 51 = .ok (.invokevirtual 107, 3) := by decide +kernel
theorem dX9_takeRegister_54 : decode cX9_takeRegister 54 = .ok (.ifnull 65, 3) := by decide +kernel
theorem dX9_takeRegister_57 : decode cX9_takeRegister 57 = .ok (.iload_n 3, 1) := by decide +kernel
theorem dX9_takeRegister_58 : decode cX9_takeRegister 58 = .ok (.invokestatic 94, 3) := by decide +kernel
theorem dX9_takeRegister_61 : decode cX9_takeRegister 61 = .ok (.ifCond .eq 58, 3) := by decide +kernel
theorem dX9_takeRegister_64 : decode cX9_takeRegister 64 = .ok (.aload_n 0, 1) := by decide +kernel
theorem dX9_takeRegister_65 : decode cX9_takeRegister 65 = .ok (.getfield 36, 3) := by decide +kernel
theorem dX9_takeRegister_68 : decode cX9_takeRegister 68 = .ok (.iconst 5, 1) := by decide +kernel
theorem dX9_takeRegister_69 : decode cX9_takeRegister 69 = .ok (.iaload, 1) := by decide +kernel
theorem dX9_takeRegister_70 : decode cX9_takeRegister 70 = .ok (.iload_n 2, 1) := by decide +kernel
theorem dX9_takeRegister_71 : decode cX9_takeRegister 71 = .ok (.aload 5, 2) := by decide +kernel
theorem dX9_takeRegister_73 : decode cX9_takeRegister 73 = .ok (.iload_n 3, 1) := by decide +kernel
theorem dX9_takeRegister_74 : decode cX9_takeRegister 74 = .ok (.iload 4, 2) := by decide +kernel
theorem dX9_takeRegister_76 : decode cX9_takeRegister 76 = .ok (.invokestatic 294, 3) := by decide +kernel
theorem dX9_takeRegister_79 : decode cX9_takeRegister 79 = .ok (.if_icmp .ne 40, 3) := by decide +kernel
theorem dX9_takeRegister_82 : decode cX9_takeRegister 82 = .ok (.aload_n 0, 1) := by decide +kernel
theorem dX9_takeRegister_83 : decode cX9_takeRegister 83 = .ok (.getfield 10, 3) := by decide +kernel
theorem dX9_takeRegister_86 : decode cX9_takeRegister 86 = .ok (.aload_n 1, 1) := by decide +kernel
theorem dX9_takeRegister_87 : decode cX9_takeRegister 87 = .ok (.aload 5, 2) := by decide +kernel
theorem dX9_takeRegister_89 : decode cX9_takeRegister 89 = .ok (.invokevirtual 79, 3) := by decide +kernel
theorem dX9_takeRegister_92 : decode cX9_takeRegister 92 = .ok (.ifCond .eq 27, 3) := by decide +kernel
theorem dX9_takeRegister_95 : decode cX9_takeRegister 95 = .ok (.aload_n 1, 1) := by decide +kernel
theorem dX9_takeRegister_96 : decode cX9_takeRegister 96 = .ok (.iload_n 2, 1) := by decide +kernel
theorem dX9_takeRegister_97 : decode cX9_takeRegister 97 = .ok (.iload 4, 2) := by decide +kernel
theorem dX9_takeRegister_99 : decode cX9_takeRegister 99 = .ok (.invokevirtual 349, 3) := by decide +kernel
theorem dX9_takeRegister_102 : decode cX9_takeRegister 102 = .ok (.ifCond .eq 17, 3) := by decide +kernel
theorem dX9_takeRegister_105 : decode cX9_takeRegister 105 = .ok (.aload_n 1, 1) := by decide +kernel
theorem dX9_takeRegister_106 : decode cX9_takeRegister 106 = .ok (.aload 5, 2) := by decide +kernel
theorem dX9_takeRegister_108 : decode cX9_takeRegister 108 = .ok (.iload_n 2, 1) := by decide +kernel
theorem dX9_takeRegister_109 : decode cX9_takeRegister 109 = .ok (.aload_n 0, 1) := by decide +kernel
theorem dX9_takeRegister_110 : decode cX9_takeRegister 110 = .ok (.getfield 135, 3) := by decide +kernel
theorem dX9_takeRegister_113 : decode cX9_takeRegister 113 = .ok (.invokevirtual 353, 3) := by decide +kernel
theorem dX9_takeRegister_116 : decode cX9_takeRegister 116 = .ok (.ifCond .ne 14, 3) := by decide +kernel
theorem dX9_takeRegister_119 : decode cX9_takeRegister 119 = .ok (.aload_n 0, 1) := by decide +kernel
theorem dX9_takeRegister_120 : decode cX9_takeRegister 120 = .ok (.dup, 1) := by decide +kernel
theorem dX9_takeRegister_121 : decode cX9_takeRegister 121 = .ok (.getfield 258, 3) := by decide +kernel
theorem dX9_takeRegister_124 : decode cX9_takeRegister 124 = .ok (.iconst 1, 1) := by decide +kernel
theorem dX9_takeRegister_125 : decode cX9_takeRegister 125 = .ok (.iadd, 1) := by decide +kernel
theorem dX9_takeRegister_126 : decode cX9_takeRegister 126 = .ok (.putfield 258, 3) := by decide +kernel
theorem dX9_takeRegister_129 : decode cX9_takeRegister 129 = .ok (.return_, 1) := by decide +kernel
theorem dX9_takeRegister_130 : decode cX9_takeRegister 130 = .ok (.aload_n 1, 1) := by decide +kernel
theorem dX9_takeRegister_131 : decode cX9_takeRegister 131 = .ok (.new 254, 3) := by decide +kernel
theorem dX9_takeRegister_134 : decode cX9_takeRegister 134 = .ok (.dup, 1) := by decide +kernel
theorem dX9_takeRegister_135 : decode cX9_takeRegister 135 = .ok (.aload 5, 2) := by decide +kernel
theorem dX9_takeRegister_137 : decode cX9_takeRegister 137 = .ok (.iload_n 2, 1) := by decide +kernel
theorem dX9_takeRegister_138 : decode cX9_takeRegister 138 = .ok (.iload_n 3, 1) := by decide +kernel
theorem dX9_takeRegister_139 : decode cX9_takeRegister 139 = .ok (.iload 4, 2) := by decide +kernel
theorem dX9_takeRegister_141 : decode cX9_takeRegister 141 = .ok (.aload_n 0, 1) := by decide +kernel
theorem dX9_takeRegister_142 : decode cX9_takeRegister 142 = .ok (.getfield 135, 3) := by decide +kernel
theorem dX9_takeRegister_145 : decode cX9_takeRegister 145 = .ok (.invokespecial 357, 3) := by decide +kernel
theorem dX9_takeRegister_148 : decode cX9_takeRegister 148 = .ok (.aload_n 0, 1) := by decide +kernel
theorem dX9_takeRegister_149 : decode cX9_takeRegister 149 = .ok (.getfield 135, 3) := by decide +kernel
theorem dX9_takeRegister_152 : decode cX9_takeRegister 152 = .ok (.invokevirtual 360, 3) := by decide +kernel
theorem dX9_takeRegister_155 : decode cX9_takeRegister 155 = .ok (.return_, 1) := by decide +kernel
def f_X9_takeRegister (σ : HS) (a0 : Option Nat) (a1 : Option Nat) : Option (Unit × HS) :=
  if a1 = none then
    some ((), σ)
  else
    h_b1 (h_gR σ a0 10 5) fun x2 =>
    h_b1 (h_aI σ x2 100 0) fun x4 =>
    h_b1 (h_gR σ a0 10 5) fun x6 =>
    h_b1 (h_aI σ x6 100 3) fun x8 =>
    h_b1 (h_gR σ a0 10 5) fun x10 =>
    h_b1 (h_aI σ x10 100 4) fun x12 =>
    h_b1 (h_gR σ a0 10 5) fun x14 =>
    h_b1 (h_aI σ x14 100 1) fun x16 =>
    h_b1 (h_gR σ a0 10 5) fun x18 =>
    h_b1 (h_aI σ x18 100 2) fun x20 =>
    h_bd (f_X4_of σ x16 x20) fun r22 s23 =>
    if r22 = none then
      h_b1 (h_gI s23 a0 10 11) fun x26 =>
      h_b1 (h_pI s23 a0 10 11 (x26 + 1)) fun s28 =>
      some ((), s28)
    else
      h_b1 (h_rcv s23 a0 10) fun y33 =>
      h_bd (f_X9_siteAt s23 a0 x4) fun r30 s31 =>
      if r30 = none then
        h_b1 (h_gI s31 a0 10 11) fun x36 =>
        h_b1 (h_pI s31 a0 10 11 (x36 + 1)) fun s38 =>
        some ((), s38)
      else
        h_bd (f_X9_isPlace s31 x8) fun r40 s41 =>
        if r40 = 0 then
          h_b1 (h_gI s41 a0 10 11) fun x44 =>
          h_b1 (h_pI s41 a0 10 11 (x44 + 1)) fun s46 =>
          some ((), s46)
        else
          h_b1 (h_gR s41 a0 10 5) fun x48 =>
          h_b1 (h_aI s41 x48 100 5) fun x50 =>
          h_bd (f_X9_tag s41 x4 r22 x8 x12) fun r52 s53 =>
          if x50 = r52 then
            h_b1 (h_gR s53 a0 10 0) fun x60 =>
            h_b1 (h_rcv s53 x60 9) fun y65 =>
            h_bd (f_X8_owns s53 x60 a1 r22) fun r62 s63 =>
            if r62 = 0 then
              h_b1 (h_gI s63 a0 10 11) fun x68 =>
              h_b1 (h_pI s63 a0 10 11 (x68 + 1)) fun s70 =>
              some ((), s70)
            else
              h_b1 (h_rcv s63 a1 7) fun y75 =>
              h_bd (f_X6_isFresh s63 a1 x4 x12) fun r72 s73 =>
              if r72 = 0 then
                h_b1 (h_gI s73 a0 10 11) fun x78 =>
                h_b1 (h_pI s73 a0 10 11 (x78 + 1)) fun s80 =>
                some ((), s80)
              else
                h_b1 (h_gI s73 a0 10 9) fun x82 =>
                h_b1 (h_rcv s73 a1 7) fun y87 =>
                h_bd (f_X6_hasRoom s73 a1 r22 x4 x82) fun r84 s85 =>
                if r84 = 0 then
                  h_b1 (h_gI s85 a0 10 11) fun x107 =>
                  h_b1 (h_pI s85 a0 10 11 (x107 + 1)) fun s109 =>
                  some ((), s109)
                else
                  h_bd (h_mk s85 1 5) fun x90 s91 =>
                  h_b1 (h_gI s91 a0 10 9) fun x93 =>
                  h_b1 (h_rcv s91 x90 1) fun y98 =>
                  h_bd (f_X0_init s91 x90 r22 x4 x8 x12 x93) fun _ s96 =>
                  h_b1 (h_gI s96 a0 10 9) fun x100 =>
                  h_b1 (h_rcv s96 a1 7) fun y105 =>
                  h_bd (f_X6_keep s96 a1 x90 x100) fun _ s103 =>
                  some ((), s103)
          else
            h_b1 (h_gI s53 a0 10 11) fun x56 =>
            h_b1 (h_pI s53 a0 10 11 (x56 + 1)) fun s58 =>
            some ((), s58)
set_option maxHeartbeats 4000000 in
set_option maxRecDepth 100000 in
theorem m_X9_takeRegister (l : Launch) (D : va_G) (dA : Nat → ClassId) (bs : Nat) {σ σ' : HS} {a0 : Option Nat} {a1 : Option Nat} (h : f_X9_takeRegister σ a0 a1 = some ((), σ')) : MetC l yX9_takeRegister cX9_takeRegister 6 none 4 91 D dA bs [va_rf a0, va_rf a1] none σ σ' := by
  refine MetC.of (by decide) (h_avR (h_avR h_av0)) (Nat.le_of_ble_eq_true rfl) ?_
  intro p e R s m args below meth c C B hnm
  unfold f_X9_takeRegister at h
  refine V_sub (lv' := [(0, va_rf a0), (1, va_rf a1)]) [0, 1] rfl ?_
  refine V_aload_n C 1 dX9_takeRegister_0 rfl rfl ?_
  refine V_ifnonnull (tgt := 5) C dX9_takeRegister_1 (by decide) (fun c1 => ?_) (fun c1 => ?_)
  · rw [if_neg c1] at h
    refine V_aload_n C 0 dX9_takeRegister_5 rfl rfl ?_
    obtain ⟨x2, e3, h⟩ := h_b1_some h
    refine V_getR C fl_RX9_36 dX9_takeRegister_6 e3 ?_
    refine V_iconst (v := 0) C dX9_takeRegister_9 (by decide) ?_
    obtain ⟨x4, e5, h⟩ := h_b1_some h
    refine V_iald C dX9_takeRegister_10 e5 ?_
    refine V_istore_n (lv' := [(2, .int x4), (0, va_rf a0), (1, va_rf a1)]) C dX9_takeRegister_11 rfl (by decide) rfl ?_
    refine V_aload_n C 1 dX9_takeRegister_12 rfl rfl ?_
    obtain ⟨x6, e7, h⟩ := h_b1_some h
    refine V_getR C fl_RX9_36 dX9_takeRegister_13 e7 ?_
    refine V_iconst (v := 3) C dX9_takeRegister_16 (by decide) ?_
    obtain ⟨x8, e9, h⟩ := h_b1_some h
    refine V_iald C dX9_takeRegister_17 e9 ?_
    refine V_istore_n (lv' := [(3, .int x8), (2, .int x4), (0, va_rf a0), (1, va_rf a1)]) C dX9_takeRegister_18 rfl (by decide) rfl ?_
    refine V_aload_n C 2 dX9_takeRegister_19 rfl rfl ?_
    obtain ⟨x10, e11, h⟩ := h_b1_some h
    refine V_getR C fl_RX9_36 dX9_takeRegister_20 e11 ?_
    refine V_iconst (v := 4) C dX9_takeRegister_23 (by decide) ?_
    obtain ⟨x12, e13, h⟩ := h_b1_some h
    refine V_iald C dX9_takeRegister_24 e13 ?_
    refine V_istore (lv' := [(4, .int x12), (3, .int x8), (2, .int x4), (0, va_rf a0), (1, va_rf a1)]) C dX9_takeRegister_25 (by decide) rfl ?_
    refine V_aload_n C 3 dX9_takeRegister_27 rfl rfl ?_
    obtain ⟨x14, e15, h⟩ := h_b1_some h
    refine V_getR C fl_RX9_36 dX9_takeRegister_28 e15 ?_
    refine V_iconst (v := 1) C dX9_takeRegister_31 (by decide) ?_
    obtain ⟨x16, e17, h⟩ := h_b1_some h
    refine V_iald C dX9_takeRegister_32 e17 ?_
    refine V_aload_n C 3 dX9_takeRegister_33 rfl rfl ?_
    obtain ⟨x18, e19, h⟩ := h_b1_some h
    refine V_getR C fl_RX9_36 dX9_takeRegister_34 e19 ?_
    refine V_iconst (v := 2) C dX9_takeRegister_37 (by decide) ?_
    obtain ⟨x20, e21, h⟩ := h_b1_some h
    refine V_iald C dX9_takeRegister_38 e21 ?_
    obtain ⟨r22, s23, e24, h⟩ := h_bd_some h
    refine V_cS (As := [.int x16, .int x20]) (rest := []) C ms_RX9_63 (m_X4_of l D dA bs e24) rfl rfl (Nat.le_trans h_w0 (by decide)) (h_fr B (by decide)) (h_lo B (by decide)) dX9_takeRegister_39 ?_
    refine V_astore (lv' := [(5, va_rf r22), (4, .int x12), (3, .int x8), (2, .int x4), (0, va_rf a0), (1, va_rf a1)]) C dX9_takeRegister_42 (by decide) rfl ?_
    refine V_aload C 0 dX9_takeRegister_44 rfl ?_
    refine V_ifnull (tgt := 119) C dX9_takeRegister_46 (by decide) (fun c25 => ?_) (fun c25 => ?_)
    · rw [if_pos c25] at h
      refine V_aload_n C 4 dX9_takeRegister_119 rfl rfl ?_
      refine V_dupR C dX9_takeRegister_120 ?_
      obtain ⟨x26, e27, h⟩ := h_b1_some h
      refine V_getI C fl_RX9_258 dX9_takeRegister_121 e27 ?_
      refine V_iconst (v := 1) C dX9_takeRegister_124 (by decide) ?_
      refine V_iadd C dX9_takeRegister_125 ?_
      obtain ⟨s28, e29, h⟩ := h_b1_some h
      refine V_putI C fw_RX9_258 dX9_takeRegister_126 e29 ?_
      cases h
      exact V_vret C B dX9_takeRegister_129
    · rw [if_neg c25] at h
      refine V_aload_n C 4 dX9_takeRegister_49 rfl rfl ?_
      refine V_iload_n C 3 dX9_takeRegister_50 rfl rfl ?_
      obtain ⟨y33, e34, h⟩ := h_b1_some h
      obtain ⟨r30, s31, e32, h⟩ := h_bd_some h
      refine V_cV (As := [.int x4]) (rest := []) C mv_RX9_107 (m_X9_siteAt l D dA bs e32) e34 rfl rfl (Nat.le_trans h_w0 (by decide)) (h_fr B (by decide)) (h_lo B (by decide)) dX9_takeRegister_51 ?_
      refine V_ifnull (tgt := 119) C dX9_takeRegister_54 (by decide) (fun c35 => ?_) (fun c35 => ?_)
      · rw [if_pos c35] at h
        refine V_aload_n C 4 dX9_takeRegister_119 rfl rfl ?_
        refine V_dupR C dX9_takeRegister_120 ?_
        obtain ⟨x36, e37, h⟩ := h_b1_some h
        refine V_getI C fl_RX9_258 dX9_takeRegister_121 e37 ?_
        refine V_iconst (v := 1) C dX9_takeRegister_124 (by decide) ?_
        refine V_iadd C dX9_takeRegister_125 ?_
        obtain ⟨s38, e39, h⟩ := h_b1_some h
        refine V_putI C fw_RX9_258 dX9_takeRegister_126 e39 ?_
        cases h
        exact V_vret C B dX9_takeRegister_129
      · rw [if_neg c35] at h
        refine V_iload_n C 2 dX9_takeRegister_57 rfl rfl ?_
        obtain ⟨r40, s41, e42, h⟩ := h_bd_some h
        refine V_cS (As := [.int x8]) (rest := []) C ms_RX9_94 (m_X9_isPlace l D dA bs e42) rfl rfl (Nat.le_trans h_w0 (by decide)) (h_fr B (by decide)) (h_lo B (by decide)) dX9_takeRegister_58 ?_
        refine V_if_eq (tgt := 119) C dX9_takeRegister_61 (by decide) (fun c43 => ?_) (fun c43 => ?_)
        · rw [if_pos c43] at h
          refine V_aload_n C 4 dX9_takeRegister_119 rfl rfl ?_
          refine V_dupR C dX9_takeRegister_120 ?_
          obtain ⟨x44, e45, h⟩ := h_b1_some h
          refine V_getI C fl_RX9_258 dX9_takeRegister_121 e45 ?_
          refine V_iconst (v := 1) C dX9_takeRegister_124 (by decide) ?_
          refine V_iadd C dX9_takeRegister_125 ?_
          obtain ⟨s46, e47, h⟩ := h_b1_some h
          refine V_putI C fw_RX9_258 dX9_takeRegister_126 e47 ?_
          cases h
          exact V_vret C B dX9_takeRegister_129
        · rw [if_neg c43] at h
          refine V_aload_n C 4 dX9_takeRegister_64 rfl rfl ?_
          obtain ⟨x48, e49, h⟩ := h_b1_some h
          refine V_getR C fl_RX9_36 dX9_takeRegister_65 e49 ?_
          refine V_iconst (v := 5) C dX9_takeRegister_68 (by decide) ?_
          obtain ⟨x50, e51, h⟩ := h_b1_some h
          refine V_iald C dX9_takeRegister_69 e51 ?_
          refine V_iload_n C 3 dX9_takeRegister_70 rfl rfl ?_
          refine V_aload C 0 dX9_takeRegister_71 rfl ?_
          refine V_iload_n C 2 dX9_takeRegister_73 rfl rfl ?_
          refine V_iload C 1 dX9_takeRegister_74 rfl ?_
          obtain ⟨r52, s53, e54, h⟩ := h_bd_some h
          refine V_cS (As := [.int x4, va_rf r22, .int x8, .int x12]) (rest := [.int x50]) C ms_RX9_294 (m_X9_tag l D dA bs e54) rfl rfl (Nat.le_trans (h_wI h_w0) (by decide)) (h_fr B (by decide)) (h_lo B (by decide)) dX9_takeRegister_76 ?_
          refine V_icmp_ne (tgt := 119) C dX9_takeRegister_79 (by decide) (fun c55 => ?_) (fun c55 => ?_)
          · rw [if_neg c55] at h
            refine V_aload_n C 4 dX9_takeRegister_119 rfl rfl ?_
            refine V_dupR C dX9_takeRegister_120 ?_
            obtain ⟨x56, e57, h⟩ := h_b1_some h
            refine V_getI C fl_RX9_258 dX9_takeRegister_121 e57 ?_
            refine V_iconst (v := 1) C dX9_takeRegister_124 (by decide) ?_
            refine V_iadd C dX9_takeRegister_125 ?_
            obtain ⟨s58, e59, h⟩ := h_b1_some h
            refine V_putI C fw_RX9_258 dX9_takeRegister_126 e59 ?_
            cases h
            exact V_vret C B dX9_takeRegister_129
          · rw [if_pos c55] at h
            refine V_aload_n C 4 dX9_takeRegister_82 rfl rfl ?_
            obtain ⟨x60, e61, h⟩ := h_b1_some h
            refine V_getR C fl_RX9_10 dX9_takeRegister_83 e61 ?_
            refine V_aload_n C 5 dX9_takeRegister_86 rfl rfl ?_
            refine V_aload C 0 dX9_takeRegister_87 rfl ?_
            obtain ⟨y65, e66, h⟩ := h_b1_some h
            obtain ⟨r62, s63, e64, h⟩ := h_bd_some h
            refine V_cV (As := [va_rf a1, va_rf r22]) (rest := []) C mv_RX9_79 (m_X8_owns l D dA bs e64) e66 rfl rfl (Nat.le_trans h_w0 (by decide)) (h_fr B (by decide)) (h_lo B (by decide)) dX9_takeRegister_89 ?_
            refine V_if_eq (tgt := 119) C dX9_takeRegister_92 (by decide) (fun c67 => ?_) (fun c67 => ?_)
            · rw [if_pos c67] at h
              refine V_aload_n C 4 dX9_takeRegister_119 rfl rfl ?_
              refine V_dupR C dX9_takeRegister_120 ?_
              obtain ⟨x68, e69, h⟩ := h_b1_some h
              refine V_getI C fl_RX9_258 dX9_takeRegister_121 e69 ?_
              refine V_iconst (v := 1) C dX9_takeRegister_124 (by decide) ?_
              refine V_iadd C dX9_takeRegister_125 ?_
              obtain ⟨s70, e71, h⟩ := h_b1_some h
              refine V_putI C fw_RX9_258 dX9_takeRegister_126 e71 ?_
              cases h
              exact V_vret C B dX9_takeRegister_129
            · rw [if_neg c67] at h
              refine V_aload_n C 5 dX9_takeRegister_95 rfl rfl ?_
              refine V_iload_n C 3 dX9_takeRegister_96 rfl rfl ?_
              refine V_iload C 1 dX9_takeRegister_97 rfl ?_
              obtain ⟨y75, e76, h⟩ := h_b1_some h
              obtain ⟨r72, s73, e74, h⟩ := h_bd_some h
              refine V_cV (As := [.int x4, .int x12]) (rest := []) C mv_RX9_349 (m_X6_isFresh l D dA bs e74) e76 rfl rfl (Nat.le_trans h_w0 (by decide)) (h_fr B (by decide)) (h_lo B (by decide)) dX9_takeRegister_99 ?_
              refine V_if_eq (tgt := 119) C dX9_takeRegister_102 (by decide) (fun c77 => ?_) (fun c77 => ?_)
              · rw [if_pos c77] at h
                refine V_aload_n C 4 dX9_takeRegister_119 rfl rfl ?_
                refine V_dupR C dX9_takeRegister_120 ?_
                obtain ⟨x78, e79, h⟩ := h_b1_some h
                refine V_getI C fl_RX9_258 dX9_takeRegister_121 e79 ?_
                refine V_iconst (v := 1) C dX9_takeRegister_124 (by decide) ?_
                refine V_iadd C dX9_takeRegister_125 ?_
                obtain ⟨s80, e81, h⟩ := h_b1_some h
                refine V_putI C fw_RX9_258 dX9_takeRegister_126 e81 ?_
                cases h
                exact V_vret C B dX9_takeRegister_129
              · rw [if_neg c77] at h
                refine V_aload_n C 5 dX9_takeRegister_105 rfl rfl ?_
                refine V_aload C 0 dX9_takeRegister_106 rfl ?_
                refine V_iload_n C 3 dX9_takeRegister_108 rfl rfl ?_
                refine V_aload_n C 4 dX9_takeRegister_109 rfl rfl ?_
                obtain ⟨x82, e83, h⟩ := h_b1_some h
                refine V_getI C fl_RX9_135 dX9_takeRegister_110 e83 ?_
                obtain ⟨y87, e88, h⟩ := h_b1_some h
                obtain ⟨r84, s85, e86, h⟩ := h_bd_some h
                refine V_cV (As := [va_rf r22, .int x4, .int x82]) (rest := []) C mv_RX9_353 (m_X6_hasRoom l D dA bs e86) e88 rfl rfl (Nat.le_trans h_w0 (by decide)) (h_fr B (by decide)) (h_lo B (by decide)) dX9_takeRegister_113 ?_
                refine V_if_ne (tgt := 130) C dX9_takeRegister_116 (by decide) (fun c89 => ?_) (fun c89 => ?_)
                · rw [if_neg c89] at h
                  refine V_aload_n C 5 dX9_takeRegister_130 rfl rfl ?_
                  obtain ⟨x90, s91, e92, h⟩ := h_bd_some h
                  refine V_new C hcl_0 lk_RX9_254 dX9_takeRegister_131 e92 ?_
                  refine V_dupR C dX9_takeRegister_134 ?_
                  refine V_aload C 0 dX9_takeRegister_135 rfl ?_
                  refine V_iload_n C 3 dX9_takeRegister_137 rfl rfl ?_
                  refine V_iload_n C 2 dX9_takeRegister_138 rfl rfl ?_
                  refine V_iload C 1 dX9_takeRegister_139 rfl ?_
                  refine V_aload_n C 4 dX9_takeRegister_141 rfl rfl ?_
                  obtain ⟨x93, e94, h⟩ := h_b1_some h
                  refine V_getI C fl_RX9_135 dX9_takeRegister_142 e94 ?_
                  obtain ⟨y98, e99, h⟩ := h_b1_some h
                  obtain ⟨r95, s96, e97, h⟩ := h_bd_some h
                  refine V_cI (As := [va_rf r22, .int x4, .int x8, .int x12, .int x93]) (rest := [va_rf x90, va_rf a1]) C mi_RX9_357 (m_X0_init l D dA bs e97) e99 rfl rfl (Nat.le_trans (h_wR (h_wR h_w0)) (by decide)) (h_fr B (by decide)) (h_lo B (by decide)) dX9_takeRegister_145 ?_
                  refine V_aload_n C 4 dX9_takeRegister_148 rfl rfl ?_
                  obtain ⟨x100, e101, h⟩ := h_b1_some h
                  refine V_getI C fl_RX9_135 dX9_takeRegister_149 e101 ?_
                  obtain ⟨y105, e106, h⟩ := h_b1_some h
                  obtain ⟨r102, s103, e104, h⟩ := h_bd_some h
                  refine V_cV (As := [va_rf x90, .int x100]) (rest := []) C mv_RX9_360 (m_X6_keep l D dA bs e104) e106 rfl rfl (Nat.le_trans h_w0 (by decide)) (h_fr B (by decide)) (h_lo B (by decide)) dX9_takeRegister_152 ?_
                  cases h
                  exact V_vret C B dX9_takeRegister_155
                · rw [if_pos c89] at h
                  refine V_aload_n C 4 dX9_takeRegister_119 rfl rfl ?_
                  refine V_dupR C dX9_takeRegister_120 ?_
                  obtain ⟨x107, e108, h⟩ := h_b1_some h
                  refine V_getI C fl_RX9_258 dX9_takeRegister_121 e108 ?_
                  refine V_iconst (v := 1) C dX9_takeRegister_124 (by decide) ?_
                  refine V_iadd C dX9_takeRegister_125 ?_
                  obtain ⟨s109, e110, h⟩ := h_b1_some h
                  refine V_putI C fw_RX9_258 dX9_takeRegister_126 e110 ?_
                  cases h
                  exact V_vret C B dX9_takeRegister_129
  · rw [if_pos c1] at h
    cases h
    exact V_vret C B dX9_takeRegister_4
/-! X9_isValue -/
theorem dX9_isValue_0 : decode cX9_isValue 0 = .ok (.iload_n 0, 1) := by decide +kernel
theorem dX9_isValue_1 : decode cX9_isValue 1 = .ok (.lookupswitch 48 #[(0, 27), (1, 43)], 27) := by decide +kernel
theorem dX9_isValue_28 : decode cX9_isValue 28 = .ok (.iload_n 1, 1) := by decide +kernel
theorem dX9_isValue_29 : decode cX9_isValue 29 = .ok (.ifCond .lt 13, 3) := by decide +kernel
theorem dX9_isValue_32 : decode cX9_isValue 32 = .ok (.iload_n 1, 1) := by decide +kernel
theorem dX9_isValue_33 : decode cX9_isValue 33 = .ok (.bipush 8, 2) := by decide +kernel
theorem dX9_isValue_35 : decode cX9_isValue 35 = .ok (.if_icmp .ge 7, 3) := by decide +kernel
theorem dX9_isValue_38 : decode cX9_isValue 38 = .ok (.iconst 1, 1) := by decide +kernel
theorem dX9_isValue_39 : decode cX9_isValue 39 = .ok (.goto 4, 3) := by decide +kernel
theorem dX9_isValue_42 : decode cX9_isValue 42 = .ok (.iconst 0, 1) := by decide +kernel
theorem dX9_isValue_43 : decode cX9_isValue 43 = .ok (.ireturn, 1) := by decide +kernel
theorem dX9_isValue_44 : decode cX9_isValue 44 = .ok (.iload_n 1, 1) := by decide +kernel
theorem dX9_isValue_45 : decode cX9_isValue 45 = .ok (.invokestatic 94, 3) := by decide +kernel
theorem dX9_isValue_48 : decode cX9_isValue 48 = .ok (.ireturn, 1) := by decide +kernel
theorem dX9_isValue_49 : decode cX9_isValue 49 = .ok (.iload_n 0, 1) := by decide +kernel
theorem dX9_isValue_50 : decode cX9_isValue 50 = .ok (.iconst 2, 1) := by decide +kernel
theorem dX9_isValue_51 : decode cX9_isValue 51 = .ok (.if_icmp .ne 7, 3) := by decide +kernel
theorem dX9_isValue_54 : decode cX9_isValue 54 = .ok (.iconst 1, 1) := by decide +kernel
theorem dX9_isValue_55 : decode cX9_isValue 55 = .ok (.goto 4, 3) := by decide +kernel
theorem dX9_isValue_58 : decode cX9_isValue 58 = .ok (.iconst 0, 1) := by decide +kernel
theorem dX9_isValue_59 : decode cX9_isValue 59 = .ok (.ireturn, 1) := by decide +kernel
def f_X9_isValue (σ : HS) (a0 : Int32) (a1 : Int32) : Option (Int32 × HS) :=
  if a0 = 0 then
    if a1 < 0 then
      some (0, σ)
    else
      if 8 ≤ a1 then
        some (0, σ)
      else
        some (1, σ)
  else
    if a0 = 1 then
      h_bd (f_X9_isPlace σ a1) fun r5 s6 =>
      if r5 = (0 : Int32) ∨ r5 = (1 : Int32) then some (r5, s6) else none
    else
      if a0 = 2 then
        some (1, σ)
      else
        some (0, σ)
set_option maxHeartbeats 4000000 in
set_option maxRecDepth 100000 in
theorem m_X9_isValue (l : Launch) (D : va_G) (dA : Nat → ClassId) (bs : Nat) {σ σ' : HS} {a0 : Int32} {a1 : Int32} {r : Int32} (h : f_X9_isValue σ a0 a1 = some (r, σ')) : MetC l yX9_isValue cX9_isValue 2 (some .boolean) 1 20 D dA bs [.int a0, .int a1] (some (.int r)) σ σ' := by
  refine MetC.of (by decide) (h_avI (h_avI h_av0)) (Nat.le_of_ble_eq_true rfl) ?_
  intro p e R s m args below meth c C B hnm
  unfold f_X9_isValue at h
  refine V_sub (lv' := [(0, .int a0), (1, .int a1)]) [0, 1] rfl ?_
  refine V_iload_n C 0 dX9_isValue_0 rfl rfl ?_
  by_cases c1 : a0 = 0
  · rw [if_pos c1] at h
    refine V_lookup (off := 27) (tgt := 28) C dX9_isValue_1 (by decide) (by rw [c1]; decide) (by decide) ?_
    refine V_iload_n C 1 dX9_isValue_28 rfl rfl ?_
    refine V_if_lt (tgt := 42) C dX9_isValue_29 (by decide) (fun c2 => ?_) (fun c2 => ?_)
    · rw [if_pos c2] at h
      refine V_iconst (v := 0) C dX9_isValue_42 (by decide) ?_
      cases h
      exact V_zret C B dX9_isValue_43 (Or.inl rfl)
    · rw [if_neg c2] at h
      refine V_iload_n C 1 dX9_isValue_32 rfl rfl ?_
      refine V_bipush (v := 8) C dX9_isValue_33 (by decide) ?_
      refine V_icmp_ge (tgt := 42) C dX9_isValue_35 (by decide) (fun c3 => ?_) (fun c3 => ?_)
      · rw [if_pos c3] at h
        refine V_iconst (v := 0) C dX9_isValue_42 (by decide) ?_
        cases h
        exact V_zret C B dX9_isValue_43 (Or.inl rfl)
      · rw [if_neg c3] at h
        refine V_iconst (v := 1) C dX9_isValue_38 (by decide) ?_
        refine V_goto (tgt := 43) C dX9_isValue_39 (by decide) ?_
        cases h
        exact V_zret C B dX9_isValue_43 (Or.inr rfl)
  · rw [if_neg c1] at h
    by_cases c4 : a0 = 1
    · rw [if_pos c4] at h
      refine V_lookup (off := 43) (tgt := 44) C dX9_isValue_1 (by decide) (by rw [c4]; decide) (by decide) ?_
      refine V_iload_n C 1 dX9_isValue_44 rfl rfl ?_
      obtain ⟨r5, s6, e7, h⟩ := h_bd_some h
      refine V_cS (As := [.int a1]) (rest := []) C ms_RX9_94 (m_X9_isPlace l D dA bs e7) rfl rfl (Nat.le_trans h_w0 (by decide)) (h_fr B (by decide)) (h_lo B (by decide)) dX9_isValue_45 ?_
      by_cases c8 : r5 = 0 ∨ r5 = 1
      · rw [if_pos c8] at h; cases h; exact V_zret C B dX9_isValue_48 c8
      · rw [if_neg c8] at h; cases h
    · rw [if_neg c4] at h
      refine V_lookup (off := 48) (tgt := 49) C dX9_isValue_1 (by decide) (by show Op.lookupswitch.offset _ _ _ = _; rw [lv_osw c1 (show (0 : Int32).toInt = 0 by decide), lv_osw c4 (show (1 : Int32).toInt = 1 by decide)]; rfl) (by decide) ?_
      refine V_iload_n C 0 dX9_isValue_49 rfl rfl ?_
      refine V_iconst (v := 2) C dX9_isValue_50 (by decide) ?_
      refine V_icmp_ne (tgt := 58) C dX9_isValue_51 (by decide) (fun c9 => ?_) (fun c9 => ?_)
      · rw [if_neg c9] at h
        refine V_iconst (v := 0) C dX9_isValue_58 (by decide) ?_
        cases h
        exact V_zret C B dX9_isValue_59 (Or.inl rfl)
      · rw [if_pos c9] at h
        refine V_iconst (v := 1) C dX9_isValue_54 (by decide) ?_
        refine V_goto (tgt := 59) C dX9_isValue_55 (by decide) ?_
        cases h
        exact V_zret C B dX9_isValue_59 (Or.inr rfl)
/-! X9_refer -/
theorem dX9_refer_0 : decode cX9_refer 0 = .ok (.aload_n 1, 1) := by decide +kernel
theorem dX9_refer_1 : decode cX9_refer 1 = .ok (.dup, 1) := by decide +kernel
theorem dX9_refer_2 : decode cX9_refer 2 = .ok (.getfield 221, 3) := by decide +kernel
theorem dX9_refer_5 : decode cX9_refer 5 = .ok (.iconst 1, 1) := by decide +kernel
theorem dX9_refer_6 : decode cX9_refer 6 = .ok (.iadd, 1) := by decide +kernel
theorem dX9_refer_7 : decode cX9_refer 7 = .ok (.putfield 221, 3) := by decide +kernel
theorem dX9_refer_10 : decode cX9_refer 10 = .ok (.aload_n 1, 1) := by decide +kernel
theorem dX9_refer_11 : decode cX9_refer 11 = .ok (.getfield 221, 3) := by decide +kernel
theorem dX9_refer_14 : decode cX9_refer 14 = .ok (.bipush 9, 2) := by decide +kernel
theorem dX9_refer_16 : decode cX9_refer 16 = .ok (.if_icmp .lt 11, 3) := by decide +kernel
theorem dX9_refer_19 : decode cX9_refer 19 = .ok (.aload_n 1, 1) := by decide +kernel
theorem dX9_refer_20 : decode cX9_refer 20 = .ok (.iconst 3, 1) := by decide +kernel
theorem dX9_refer_21 : decode cX9_refer 21 = .ok (.putfield 215, 3) := by decide +kernel
theorem dX9_refer_24 : decode cX9_refer 24 = .ok (.goto 9, 3) := by decide +kernel
theorem dX9_refer_27 : decode cX9_refer 27 = .ok (.aload_n 0, 1) := by decide +kernel
theorem dX9_refer_28 : decode cX9_refer 28 = .ok (.iload_n 2, 1) := by decide +kernel
theorem dX9_refer_29 : decode cX9_refer 29 = .ok (.aload_n 1, 1) := by decide +kernel
theorem dX9_refer_30 : decode cX9_refer 30 = .ok (.invokevirtual 322, 3) := by decide +kernel
theorem dX9_refer_33 : decode cX9_refer 33 = .ok (.return_, 1) := by decide +kernel
def f_X9_refer (σ : HS) (a0 : Option Nat) (a1 : Option Nat) (a2 : Int32) : Option (Unit × HS) :=
  h_b1 (h_gI σ a1 4 6) fun x1 =>
  h_b1 (h_pI σ a1 4 6 (x1 + 1)) fun s3 =>
  h_b1 (h_gI s3 a1 4 6) fun x5 =>
  if x5 < 9 then
    h_b1 (h_rcv s3 a0 10) fun y11 =>
    h_bd (f_X9_postRequest s3 a0 a2 a1) fun _ s9 =>
    some ((), s9)
  else
    h_b1 (h_pI s3 a1 4 3 3) fun s13 =>
    some ((), s13)
set_option maxHeartbeats 4000000 in
set_option maxRecDepth 100000 in
theorem m_X9_refer (l : Launch) (D : va_G) (dA : Nat → ClassId) (bs : Nat) {σ σ' : HS} {a0 : Option Nat} {a1 : Option Nat} {a2 : Int32} (h : f_X9_refer σ a0 a1 a2 = some ((), σ')) : MetC l yX9_refer cX9_refer 3 none 4 135 D dA bs [va_rf a0, va_rf a1, .int a2] none σ σ' := by
  refine MetC.of (by decide) (h_avR (h_avR (h_avI h_av0))) (Nat.le_of_ble_eq_true rfl) ?_
  intro p e R s m args below meth c C B hnm
  unfold f_X9_refer at h
  refine V_sub (lv' := [(0, va_rf a0), (1, va_rf a1), (2, .int a2)]) [0, 1, 2] rfl ?_
  refine V_aload_n C 1 dX9_refer_0 rfl rfl ?_
  refine V_dupR C dX9_refer_1 ?_
  obtain ⟨x1, e2, h⟩ := h_b1_some h
  refine V_getI C fl_RX9_221 dX9_refer_2 e2 ?_
  refine V_iconst (v := 1) C dX9_refer_5 (by decide) ?_
  refine V_iadd C dX9_refer_6 ?_
  obtain ⟨s3, e4, h⟩ := h_b1_some h
  refine V_putI C fw_RX9_221 dX9_refer_7 e4 ?_
  refine V_aload_n C 1 dX9_refer_10 rfl rfl ?_
  obtain ⟨x5, e6, h⟩ := h_b1_some h
  refine V_getI C fl_RX9_221 dX9_refer_11 e6 ?_
  refine V_bipush (v := 9) C dX9_refer_14 (by decide) ?_
  refine V_icmp_lt (tgt := 27) C dX9_refer_16 (by decide) (fun c7 => ?_) (fun c7 => ?_)
  · rw [if_pos c7] at h
    refine V_aload_n C 0 dX9_refer_27 rfl rfl ?_
    refine V_iload_n C 2 dX9_refer_28 rfl rfl ?_
    refine V_aload_n C 1 dX9_refer_29 rfl rfl ?_
    obtain ⟨y11, e12, h⟩ := h_b1_some h
    obtain ⟨r8, s9, e10, h⟩ := h_bd_some h
    refine V_cV (As := [.int a2, va_rf a1]) (rest := []) C mv_RX9_322 (m_X9_postRequest l D dA bs e10) e12 rfl rfl (Nat.le_trans h_w0 (by decide)) (h_fr B (by decide)) (h_lo B (by decide)) dX9_refer_30 ?_
    cases h
    exact V_vret C B dX9_refer_33
  · rw [if_neg c7] at h
    refine V_aload_n C 1 dX9_refer_19 rfl rfl ?_
    refine V_iconst (v := 3) C dX9_refer_20 (by decide) ?_
    obtain ⟨s13, e14, h⟩ := h_b1_some h
    refine V_putI C fw_RX9_215 dX9_refer_21 e14 ?_
    refine V_goto (tgt := 33) C dX9_refer_24 (by decide) ?_
    cases h
    exact V_vret C B dX9_refer_33
/-! X9_waiting -/
theorem dX9_waiting_0 : decode cX9_waiting 0 = .ok (.iconst 0, 1) := by decide +kernel
theorem dX9_waiting_1 : decode cX9_waiting 1 = .ok (.istore_n 3, 1) := by decide +kernel
theorem dX9_waiting_2 : decode cX9_waiting 2 = .ok (.iload_n 3, 1) := by decide +kernel
theorem dX9_waiting_3 : decode cX9_waiting 3 = .ok (.aload_n 0, 1) := by decide +kernel
theorem dX9_waiting_4 : decode cX9_waiting 4 = .ok (.getfield 157, 3) := by decide +kernel
theorem dX9_waiting_7 : decode cX9_waiting 7 = .ok (.if_icmp .ge 46, 3) := by decide +kernel
theorem dX9_waiting_10 : decode cX9_waiting 10 = .ok (.aload_n 0, 1) := by decide +kernel
theorem dX9_waiting_11 : decode cX9_waiting 11 = .ok (.getfield 44, 3) := by decide +kernel
theorem dX9_waiting_14 : decode cX9_waiting 14 = .ok (.iload_n 3, 1) := by decide +kernel
theorem dX9_waiting_15 : decode cX9_waiting 15 = .ok (.aaload, 1) := by decide +kernel
theorem dX9_waiting_16 : decode cX9_waiting 16 = .ok (.astore 4, 2) := by decide +kernel
theorem dX9_waiting_18 : decode cX9_waiting 18 = .ok (.aload 4, 2) := by decide +kernel
theorem dX9_waiting_20 : decode cX9_waiting 20 = .ok (.getfield 215, 3) := by decide +kernel
theorem dX9_waiting_23 : decode cX9_waiting 23 = .ok (.ifCond .ne 24, 3) := by decide +kernel
theorem dX9_waiting_26 : decode cX9_waiting 26 = .ok (.aload 4, 2) := by decide +kernel
theorem dX9_waiting_28 : decode cX9_waiting 28 = .ok (.getfield 304, 3) := by decide +kernel
theorem dX9_waiting_31 : decode cX9_waiting 31 = .ok (.iload_n 1, 1) := by decide +kernel
theorem dX9_waiting_32 : decode cX9_waiting 32 = .ok (.if_icmp .ne 15, 3) := by decide +kernel
theorem dX9_waiting_35 : decode cX9_waiting 35 = .ok (.aload 4, 2) := by decide +kernel
theorem dX9_waiting_37 : decode cX9_waiting 37 = .ok (.getfield 301, 3) := by decide +kernel
theorem dX9_waiting_40 : decode cX9_waiting 40 = .ok (.iload_n 2, 1) := by decide +kernel
theorem dX9_waiting_41 : decode cX9_waiting 41 = .ok (.if_icmp .ne 6, 3) := by decide +kernel
theorem dX9_waiting_44 : decode cX9_waiting 44 = .ok (.aload 4, 2) := by decide +kernel
theorem dX9_waiting_46 : decode cX9_waiting 46 = .ok (.areturn, 1) := by decide +kernel
theorem dX9_waiting_47 : decode cX9_waiting 47 = .ok (.iinc 3 1, 3) := by decide +kernel
theorem dX9_waiting_50 : decode cX9_waiting 50 = .ok (.goto (-48), 3) := by decide +kernel
theorem dX9_waiting_53 : decode cX9_waiting 53 = .ok (.aconst_null, 1) := by decide +kernel
theorem dX9_waiting_54 : decode cX9_waiting 54 = .ok (.areturn, 1) := by decide +kernel
def g_X9_waiting_2 : Nat → HS → Option Nat → Int32 → Int32 → Int32 → Option (Option Nat × HS)
  | 0, _, _, _, _, _ => none
  | n + 1, σ, l0, l1, l2, l3 =>
    h_b1 (h_gI σ l0 10 8) fun x1 =>
    if x1 ≤ l3 then
      some ((none : Option Nat), σ)
    else
      h_b1 (h_gR σ l0 10 7) fun x4 =>
      h_b1 (h_aR σ x4 105 l3) fun x6 =>
      h_b1 (h_gI σ x6 4 3) fun x8 =>
      if x8 = 0 then
        h_b1 (h_gI σ x6 4 1) fun x11 =>
        if x11 = l1 then
          h_b1 (h_gI σ x6 4 4) fun x14 =>
          if x14 = l2 then
            some (x6, σ)
          else
            g_X9_waiting_2 n σ l0 l1 l2 (l3 + 1)
        else
          g_X9_waiting_2 n σ l0 l1 l2 (l3 + 1)
      else
        g_X9_waiting_2 n σ l0 l1 l2 (l3 + 1)
def f_X9_waiting (σ : HS) (a0 : Option Nat) (a1 : Int32) (a2 : Int32) : Option (Option Nat × HS) :=
  g_X9_waiting_2 h_hN σ a0 a1 a2 0
set_option maxHeartbeats 4000000 in
set_option maxRecDepth 100000 in
theorem w_X9_waiting_2 {p : Program} {l : Launch} {e : Env} {R : Room} {s : State} {m : MethodId} {args : Array Value} {below : List Frame} {meth : Method} {c : Code} {D : va_G} {dA : Nat → ClassId} {bs : Nat} (C : h_C p m c cX9_waiting 5 s args RX9 D dA) {σ0 : HS} (B : h_B R s meth σ0 (some (.object RX3)) 0 0) {σ' : HS} {r : Option Nat} : ∀ (n : Nat) (σ : HS) (l0 : Option Nat) (l1 : Int32) (l2 : Int32) (l3 : Int32), g_X9_waiting_2 n σ l0 l1 l2 l3 = some (r, σ') → V p l e R s m args below meth c D dA bs 5 (MQ below (h_Q D dA bs (some (va_rf r)) σ0 σ') args s R.cells R.slots (fun q => bs ≤ q)) σ 2 [(0, va_rf l0), (1, .int l1), (2, .int l2), (3, .int l3)] [] := by
  intro n
  induction n with
  | zero =>
    intro σ l0 l1 l2 l3 h
    rw [g_X9_waiting_2] at h
    cases h
  | succ n ih =>
    intro σ l0 l1 l2 l3 h
    rw [g_X9_waiting_2] at h
    refine V_iload_n C 3 dX9_waiting_2 rfl rfl ?_
    refine V_aload_n C 0 dX9_waiting_3 rfl rfl ?_
    obtain ⟨x1, e2, h⟩ := h_b1_some h
    refine V_getI C fl_RX9_157 dX9_waiting_4 e2 ?_
    refine V_icmp_ge (tgt := 53) C dX9_waiting_7 (by decide) (fun c3 => ?_) (fun c3 => ?_)
    · rw [if_pos c3] at h
      refine V_null C dX9_waiting_53 ?_
      cases h
      exact V_aret C B dX9_waiting_54
    · rw [if_neg c3] at h
      refine V_aload_n C 0 dX9_waiting_10 rfl rfl ?_
      obtain ⟨x4, e5, h⟩ := h_b1_some h
      refine V_getR C fl_RX9_44 dX9_waiting_11 e5 ?_
      refine V_iload_n C 3 dX9_waiting_14 rfl rfl ?_
      obtain ⟨x6, e7, h⟩ := h_b1_some h
      refine V_aald C h_at105 dX9_waiting_15 e7 ?_
      refine V_astore (lv' := [(4, va_rf x6), (0, va_rf l0), (1, .int l1), (2, .int l2), (3, .int l3)]) C dX9_waiting_16 (by decide) rfl ?_
      refine V_aload C 0 dX9_waiting_18 rfl ?_
      obtain ⟨x8, e9, h⟩ := h_b1_some h
      refine V_getI C fl_RX9_215 dX9_waiting_20 e9 ?_
      refine V_if_ne (tgt := 47) C dX9_waiting_23 (by decide) (fun c10 => ?_) (fun c10 => ?_)
      · rw [if_neg c10] at h
        refine V_iinc (v := (l3 + 1)) (lv' := [(3, .int (l3 + 1)), (4, va_rf x6), (0, va_rf l0), (1, .int l1), (2, .int l2)]) C 4 dX9_waiting_47 rfl rfl (by decide) rfl ?_
        refine V_goto (tgt := 2) C dX9_waiting_50 (by decide) ?_
        exact V_sub [2, 3, 4, 0] rfl (ih σ l0 l1 l2 (l3 + 1) h)
      · rw [if_pos c10] at h
        refine V_aload C 0 dX9_waiting_26 rfl ?_
        obtain ⟨x11, e12, h⟩ := h_b1_some h
        refine V_getI C fl_RX9_304 dX9_waiting_28 e12 ?_
        refine V_iload_n C 2 dX9_waiting_31 rfl rfl ?_
        refine V_icmp_ne (tgt := 47) C dX9_waiting_32 (by decide) (fun c13 => ?_) (fun c13 => ?_)
        · rw [if_neg c13] at h
          refine V_iinc (v := (l3 + 1)) (lv' := [(3, .int (l3 + 1)), (4, va_rf x6), (0, va_rf l0), (1, .int l1), (2, .int l2)]) C 4 dX9_waiting_47 rfl rfl (by decide) rfl ?_
          refine V_goto (tgt := 2) C dX9_waiting_50 (by decide) ?_
          exact V_sub [2, 3, 4, 0] rfl (ih σ l0 l1 l2 (l3 + 1) h)
        · rw [if_pos c13] at h
          refine V_aload C 0 dX9_waiting_35 rfl ?_
          obtain ⟨x14, e15, h⟩ := h_b1_some h
          refine V_getI C fl_RX9_301 dX9_waiting_37 e15 ?_
          refine V_iload_n C 3 dX9_waiting_40 rfl rfl ?_
          refine V_icmp_ne (tgt := 47) C dX9_waiting_41 (by decide) (fun c16 => ?_) (fun c16 => ?_)
          · rw [if_neg c16] at h
            refine V_iinc (v := (l3 + 1)) (lv' := [(3, .int (l3 + 1)), (4, va_rf x6), (0, va_rf l0), (1, .int l1), (2, .int l2)]) C 4 dX9_waiting_47 rfl rfl (by decide) rfl ?_
            refine V_goto (tgt := 2) C dX9_waiting_50 (by decide) ?_
            exact V_sub [2, 3, 4, 0] rfl (ih σ l0 l1 l2 (l3 + 1) h)
          · rw [if_pos c16] at h
            refine V_aload C 0 dX9_waiting_44 rfl ?_
            cases h
            exact V_aret C B dX9_waiting_46
set_option maxHeartbeats 4000000 in
set_option maxRecDepth 100000 in
theorem m_X9_waiting (l : Launch) (D : va_G) (dA : Nat → ClassId) (bs : Nat) {σ σ' : HS} {a0 : Option Nat} {a1 : Int32} {a2 : Int32} {r : Option Nat} (h : f_X9_waiting σ a0 a1 a2 = some (r, σ')) : MetC l yX9_waiting cX9_waiting 5 (some (.object RX3)) 0 0 D dA bs [va_rf a0, .int a1, .int a2] (some (va_rf r)) σ σ' := by
  refine MetC.of (by decide) (h_avR (h_avI (h_avI h_av0))) (Nat.le_of_ble_eq_true rfl) ?_
  intro p e R s m args below meth c C B hnm
  unfold f_X9_waiting at h
  refine V_sub (lv' := [(0, va_rf a0), (1, .int a1), (2, .int a2)]) [0, 1, 2] rfl ?_
  refine V_iconst (v := 0) C dX9_waiting_0 (by decide) ?_
  refine V_istore_n (lv' := [(3, .int 0), (0, va_rf a0), (1, .int a1), (2, .int a2)]) C dX9_waiting_1 rfl (by decide) rfl ?_
  exact V_sub [1, 2, 3, 0] rfl (w_X9_waiting_2 C B h_hN σ a0 a1 a2 0 h)
