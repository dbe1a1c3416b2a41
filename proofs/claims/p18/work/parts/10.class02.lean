/-! X5_copy -/
theorem dX5_copy_0 : decode cX5_copy 0 = .ok (.aload_n 0, 1) := by decide +kernel
theorem dX5_copy_1 : decode cX5_copy 1 = .ok (.getfield 11, 3) := by decide +kernel
theorem dX5_copy_4 : decode cX5_copy 4 = .ok (.aload_n 0, 1) := by decide +kernel
theorem dX5_copy_5 : decode cX5_copy 5 = .ok (.iload_n 1, 1) := by decide +kernel
theorem dX5_copy_6 : decode cX5_copy 6 = .ok (.invokevirtual 19, 3) := by decide +kernel
theorem dX5_copy_9 : decode cX5_copy 9 = .ok (.aload_n 2, 1) := by decide +kernel
theorem dX5_copy_10 : decode cX5_copy 10 = .ok (.iconst 0, 1) := by decide +kernel
theorem dX5_copy_11 : decode cX5_copy 11 = .ok (.bipush 8, 2) := by decide +kernel
theorem dX5_copy_13 : decode cX5_copy 13 = .ok (.invokestatic 23, 3) := by decide +kernel
theorem dX5_copy_16 : decode cX5_copy 16 = .ok (.return_, 1) := by decide +kernel
def f_X5_copy (σ : HS) (a0 : Option Nat) (a1 : Int32) (a2 : Option Nat) : Option (Unit × HS) :=
  h_b1 (h_gR σ a0 6 0) fun x1 =>
  h_b1 (h_rcv σ a0 6) fun y6 =>
  h_bd (f_X5_cell σ a0 a1) fun r3 s4 =>
  h_b1 (h_cpI s4 x1 r3 a2 0 8) fun s8 =>
  some ((), s8)
set_option maxHeartbeats 4000000 in
set_option maxRecDepth 100000 in
theorem m_X5_copy (l : Launch) (D : va_G) (dA : Nat → ClassId) (bs : Nat) {σ σ' : HS} {a0 : Option Nat} {a1 : Int32} {a2 : Option Nat} (h : f_X5_copy σ a0 a1 a2 = some ((), σ')) : MetC l yX5_copy cX5_copy 3 none 1 64 D dA bs [va_rf a0, .int a1, va_rf a2] none σ σ' := by
  refine MetC.of (by decide) (h_avR (h_avI (h_avR h_av0))) (Nat.le_of_ble_eq_true rfl) ?_
  intro p e R s m args below meth c C B hnm
  unfold f_X5_copy at h
  refine V_sub (lv' := [(0, va_rf a0), (1, .int a1), (2, va_rf a2)]) [0, 1, 2] rfl ?_
  refine V_aload_n C 0 dX5_copy_0 rfl rfl ?_
  obtain ⟨x1, e2, h⟩ := h_b1_some h
  refine V_getR C fl_RX5_11 dX5_copy_1 e2 ?_
  refine V_aload_n C 0 dX5_copy_4 rfl rfl ?_
  refine V_iload_n C 1 dX5_copy_5 rfl rfl ?_
  obtain ⟨y6, e7, h⟩ := h_b1_some h
  obtain ⟨r3, s4, e5, h⟩ := h_bd_some h
  refine V_cV (As := [.int a1]) (rest := [va_rf x1]) C mv_RX5_19 (m_X5_cell l D dA bs e5) e7 rfl rfl (Nat.le_trans (h_wR h_w0) (by decide)) (h_fr B (by decide)) (h_lo B (by decide)) dX5_copy_6 ?_
  refine V_aload_n C 2 dX5_copy_9 rfl rfl ?_
  refine V_iconst (v := 0) C dX5_copy_10 (by decide) ?_
  refine V_bipush (v := 8) C dX5_copy_11 (by decide) ?_
  obtain ⟨s8, e9, h⟩ := h_b1_some h
  refine V_copyI C cy_RX5 cy_n cy_s cy_i (h_fr B (by decide)) (h_lo B (by decide +kernel)) dX5_copy_13 e9 ?_
  cases h
  exact V_vret C B dX5_copy_16
/-! X5_add -/
theorem dX5_add_0 : decode cX5_add 0 = .ok (.aload_n 0, 1) := by decide +kernel
theorem dX5_add_1 : decode cX5_add 1 = .ok (.getfield 15, 3) := by decide +kernel
theorem dX5_add_4 : decode cX5_add 4 = .ok (.sipush 200, 3) := by decide +kernel
theorem dX5_add_7 : decode cX5_add 7 = .ok (.if_icmp .lt 14, 3) := by decide +kernel
theorem dX5_add_10 : decode cX5_add 10 = .ok (.aload_n 0, 1) := by decide +kernel
theorem dX5_add_11 : decode cX5_add 11 = .ok (.dup, 1) := by decide +kernel
theorem dX5_add_12 : decode cX5_add 12 = .ok (.getfield 29, 3) := by decide +kernel
theorem dX5_add_15 : decode cX5_add 15 = .ok (.iconst 1, 1) := by decide +kernel
theorem dX5_add_16 : decode cX5_add 16 = .ok (.iadd, 1) := by decide +kernel
theorem dX5_add_17 : decode cX5_add 17 = .ok (.putfield 29, 3) := by decide +kernel
theorem dX5_add_20 : decode cX5_add 20 = .ok (.return_, 1) := by decide +kernel
theorem dX5_add_21 : decode cX5_add 21 = .ok (.aload_n 0, 1) := by decide +kernel
theorem dX5_add_22 : decode cX5_add 22 = .ok (.aload_n 0, 1) := by decide +kernel
theorem dX5_add_23 : decode cX5_add 23 = .ok (.getfield 15, 3) := by decide +kernel
theorem dX5_add_26 : decode cX5_add 26 = .ok (.invokevirtual 19, 3) := by decide +kernel
theorem dX5_add_29 : decode cX5_add 29 = .ok (.istore 4, 2) := by decide +kernel
theorem dX5_add_31 : decode cX5_add 31 = .ok (.aload_n 3, 1) := by decide +kernel
theorem dX5_add_32 : decode cX5_add 32 = .ok (.iconst 0, 1) := by decide +kernel
theorem dX5_add_33 : decode cX5_add 33 = .ok (.aload_n 0, 1) := by decide +kernel
theorem dX5_add_34 : decode cX5_add 34 = .ok (.getfield 11, 3) := by decide +kernel
theorem dX5_add_37 : decode cX5_add 37 = .ok (.iload 4, 2) := by decide +kernel
theorem dX5_add_39 : decode cX5_add 39 = .ok (.bipush 6, 2) := by decide +kernel
theorem dX5_add_41 : decode cX5_add 41 = .ok (.invokestatic 23, 3) := by decide +kernel
theorem dX5_add_44 : decode cX5_add 44 = .ok (.aload_n 0, 1) := by decide +kernel
theorem dX5_add_45 : decode cX5_add 45 = .ok (.getfield 11, 3) := by decide +kernel
theorem dX5_add_48 : decode cX5_add 48 = .ok (.iload 4, 2) := by decide +kernel
theorem dX5_add_50 : decode cX5_add 50 = .ok (.bipush 6, 2) := by decide +kernel
theorem dX5_add_52 : decode cX5_add 52 = .ok (.iadd, 1) := by decide +kernel
theorem dX5_add_53 : decode cX5_add 53 = .ok (.iload_n 1, 1) := by decide +kernel
theorem dX5_add_54 : decode cX5_add 54 = .ok (.iastore, 1) := by decide +kernel
theorem dX5_add_55 : decode cX5_add 55 = .ok (.aload_n 0, 1) := by decide +kernel
theorem dX5_add_56 : decode cX5_add 56 = .ok (.getfield 11, 3) := by decide +kernel
theorem dX5_add_59 : decode cX5_add 59 = .ok (.iload 4, 2) := by decide +kernel
theorem dX5_add_61 : decode cX5_add 61 = .ok (.bipush 7, 2) := by decide +kernel
theorem dX5_add_63 : decode cX5_add 63 = .ok (.iadd, 1) := by decide +kernel
theorem dX5_add_64 : decode cX5_add 64 = .ok (.iload_n 2, 1) := by decide +kernel
theorem dX5_add_65 : decode cX5_add 65 = .ok (.iastore, 1) := by decide +kernel
theorem dX5_add_66 : decode cX5_add 66 = .ok (.aload_n 0, 1) := by decide +kernel
theorem dX5_add_67 : decode cX5_add 67 = .ok (.dup, 1) := by decide +kernel
theorem dX5_add_68 : decode cX5_add 68 = .ok (.getfield 15, 3) := by decide +kernel
theorem dX5_add_71 : decode cX5_add 71 = .ok (.iconst 1, 1) := by decide +kernel
theorem dX5_add_72 : decode cX5_add 72 = .ok (.iadd, 1) := by decide +kernel
theorem dX5_add_73 : decode cX5_add 73 = .ok (.putfield 15, 3) := by decide +kernel
theorem dX5_add_76 : decode cX5_add 76 = .ok (.return_, 1) := by decide +kernel
def f_X5_add (σ : HS) (a0 : Option Nat) (a1 : Int32) (a2 : Int32) (a3 : Option Nat) : Option (Unit × HS) :=
  h_b1 (h_gI σ a0 6 2) fun x1 =>
  if x1 < 200 then
    h_b1 (h_gI σ a0 6 2) fun x4 =>
    h_b1 (h_rcv σ a0 6) fun y9 =>
    h_bd (f_X5_cell σ a0 x4) fun r6 s7 =>
    h_b1 (h_gR s7 a0 6 0) fun x11 =>
    h_b1 (h_cpI s7 a3 0 x11 r6 6) fun s13 =>
    h_b1 (h_gR s13 a0 6 0) fun x15 =>
    h_b1 (h_sI s13 x15 100 (r6 + 6) a1) fun s17 =>
    h_b1 (h_gR s17 a0 6 0) fun x19 =>
    h_b1 (h_sI s17 x19 100 (r6 + 7) a2) fun s21 =>
    h_b1 (h_gI s21 a0 6 2) fun x23 =>
    h_b1 (h_pI s21 a0 6 2 (x23 + 1)) fun s25 =>
    some ((), s25)
  else
    h_b1 (h_gI σ a0 6 3) fun x27 =>
    h_b1 (h_pI σ a0 6 3 (x27 + 1)) fun s29 =>
    some ((), s29)
set_option maxHeartbeats 4000000 in
set_option maxRecDepth 100000 in
theorem m_X5_add (l : Launch) (D : va_G) (dA : Nat → ClassId) (bs : Nat) {σ σ' : HS} {a0 : Option Nat} {a1 : Int32} {a2 : Int32} {a3 : Option Nat} (h : f_X5_add σ a0 a1 a2 a3 = some ((), σ')) : MetC l yX5_add cX5_add 5 none 1 64 D dA bs [va_rf a0, .int a1, .int a2, va_rf a3] none σ σ' := by
  refine MetC.of (by decide) (h_avR (h_avI (h_avI (h_avR h_av0)))) (Nat.le_of_ble_eq_true rfl) ?_
  intro p e R s m args below meth c C B hnm
  unfold f_X5_add at h
  refine V_sub (lv' := [(0, va_rf a0), (1, .int a1), (2, .int a2), (3, va_rf a3)]) [0, 1, 2, 3] rfl ?_
  refine V_aload_n C 0 dX5_add_0 rfl rfl ?_
  obtain ⟨x1, e2, h⟩ := h_b1_some h
  refine V_getI C fl_RX5_15 dX5_add_1 e2 ?_
  refine V_sipush (v := 200) C dX5_add_4 (by decide) ?_
  refine V_icmp_lt (tgt := 21) C dX5_add_7 (by decide) (fun c3 => ?_) (fun c3 => ?_)
  · rw [if_pos c3] at h
    refine V_aload_n C 0 dX5_add_21 rfl rfl ?_
    refine V_aload_n C 0 dX5_add_22 rfl rfl ?_
    obtain ⟨x4, e5, h⟩ := h_b1_some h
    refine V_getI C fl_RX5_15 dX5_add_23 e5 ?_
    obtain ⟨y9, e10, h⟩ := h_b1_some h
    obtain ⟨r6, s7, e8, h⟩ := h_bd_some h
    refine V_cV (As := [.int x4]) (rest := []) C mv_RX5_19 (m_X5_cell l D dA bs e8) e10 rfl rfl (Nat.le_trans h_w0 (by decide)) (h_fr B (by decide)) (h_lo B (by decide)) dX5_add_26 ?_
    refine V_istore (lv' := [(4, .int r6), (0, va_rf a0), (1, .int a1), (2, .int a2), (3, va_rf a3)]) C dX5_add_29 (by decide) rfl ?_
    refine V_aload_n C 4 dX5_add_31 rfl rfl ?_
    refine V_iconst (v := 0) C dX5_add_32 (by decide) ?_
    refine V_aload_n C 1 dX5_add_33 rfl rfl ?_
    obtain ⟨x11, e12, h⟩ := h_b1_some h
    refine V_getR C fl_RX5_11 dX5_add_34 e12 ?_
    refine V_iload C 0 dX5_add_37 rfl ?_
    refine V_bipush (v := 6) C dX5_add_39 (by decide) ?_
    obtain ⟨s13, e14, h⟩ := h_b1_some h
    refine V_copyI C cy_RX5 cy_n cy_s cy_i (h_fr B (by decide)) (h_lo B (by decide +kernel)) dX5_add_41 e14 ?_
    refine V_aload_n C 1 dX5_add_44 rfl rfl ?_
    obtain ⟨x15, e16, h⟩ := h_b1_some h
    refine V_getR C fl_RX5_11 dX5_add_45 e16 ?_
    refine V_iload C 0 dX5_add_48 rfl ?_
    refine V_bipush (v := 6) C dX5_add_50 (by decide) ?_
    refine V_iadd C dX5_add_52 ?_
    refine V_iload_n C 2 dX5_add_53 rfl rfl ?_
    obtain ⟨s17, e18, h⟩ := h_b1_some h
    refine V_iast C dX5_add_54 e18 ?_
    refine V_aload_n C 1 dX5_add_55 rfl rfl ?_
    obtain ⟨x19, e20, h⟩ := h_b1_some h
    refine V_getR C fl_RX5_11 dX5_add_56 e20 ?_
    refine V_iload C 0 dX5_add_59 rfl ?_
    refine V_bipush (v := 7) C dX5_add_61 (by decide) ?_
    refine V_iadd C dX5_add_63 ?_
    refine V_iload_n C 3 dX5_add_64 rfl rfl ?_
    obtain ⟨s21, e22, h⟩ := h_b1_some h
    refine V_iast C dX5_add_65 e22 ?_
    refine V_aload_n C 1 dX5_add_66 rfl rfl ?_
    refine V_dupR C dX5_add_67 ?_
    obtain ⟨x23, e24, h⟩ := h_b1_some h
    refine V_getI C fl_RX5_15 dX5_add_68 e24 ?_
    refine V_iconst (v := 1) C dX5_add_71 (by decide) ?_
    refine V_iadd C dX5_add_72 ?_
    obtain ⟨s25, e26, h⟩ := h_b1_some h
    refine V_putI C fw_RX5_15 dX5_add_73 e26 ?_
    cases h
    exact V_vret C B dX5_add_76
  · rw [if_neg c3] at h
    refine V_aload_n C 0 dX5_add_10 rfl rfl ?_
    refine V_dupR C dX5_add_11 ?_
    obtain ⟨x27, e28, h⟩ := h_b1_some h
    refine V_getI C fl_RX5_29 dX5_add_12 e28 ?_
    refine V_iconst (v := 1) C dX5_add_15 (by decide) ?_
    refine V_iadd C dX5_add_16 ?_
    obtain ⟨s29, e30, h⟩ := h_b1_some h
    refine V_putI C fw_RX5_29 dX5_add_17 e30 ?_
    cases h
    exact V_vret C B dX5_add_20
/-! X5_addAgain -/
theorem dX5_addAgain_0 : decode cX5_addAgain 0 = .ok (.aload_n 0, 1) := by decide +kernel
theorem dX5_addAgain_1 : decode cX5_addAgain 1 = .ok (.getfield 15, 3) := by decide +kernel
theorem dX5_addAgain_4 : decode cX5_addAgain 4 = .ok (.sipush 200, 3) := by decide +kernel
theorem dX5_addAgain_7 : decode cX5_addAgain 7 = .ok (.if_icmp .lt 14, 3) := by decide +kernel
theorem dX5_addAgain_10 : decode cX5_addAgain 10 = .ok (.aload_n 0, 1) := by decide +kernel
theorem dX5_addAgain_11 : decode cX5_addAgain 11 = .ok (.dup, 1) := by decide +kernel
theorem dX5_addAgain_12 : decode cX5_addAgain 12 = .ok (.getfield 29, 3) := by decide +kernel
theorem dX5_addAgain_15 : decode cX5_addAgain 15 = .ok (.iconst 1, 1) := by decide +kernel
theorem dX5_addAgain_16 : decode cX5_addAgain 16 = .ok (.iadd, 1) := by decide +kernel
theorem dX5_addAgain_17 : decode cX5_addAgain 17 = .ok (.putfield 29, 3) := by decide +kernel
theorem dX5_addAgain_20 : decode cX5_addAgain 20 = .ok (.return_, 1) := by decide +kernel
theorem dX5_addAgain_21 : decode cX5_addAgain 21 = .ok (.aload_n 0, 1) := by decide +kernel
theorem dX5_addAgain_22 : decode cX5_addAgain 22 = .ok (.getfield 11, 3) := by decide +kernel
theorem dX5_addAgain_25 : decode cX5_addAgain 25 = .ok (.aload_n 0, 1) := by decide +kernel
theorem dX5_addAgain_26 : decode cX5_addAgain 26 = .ok (.iload_n 1, 1) := by decide +kernel
theorem dX5_addAgain_27 : decode cX5_addAgain 27 = .ok (.invokevirtual 19, 3) := by decide +kernel
theorem dX5_addAgain_30 : decode cX5_addAgain 30 = .ok (.aload_n 0, 1) := by decide +kernel
theorem dX5_addAgain_31 : decode cX5_addAgain 31 = .ok (.getfield 11, 3) := by decide +kernel
theorem dX5_addAgain_34 : decode cX5_addAgain 34 = .ok (.aload_n 0, 1) := by decide +kernel
theorem dX5_addAgain_35 : decode cX5_addAgain 35 = .ok (.aload_n 0, 1) := by decide +kernel
theorem dX5_addAgain_36 : decode cX5_addAgain 36 = .ok (.getfield 15, 3) := by decide +kernel
theorem dX5_addAgain_39 : decode cX5_addAgain 39 = .ok (.invokevirtual 19, 3) := by decide +kernel
theorem dX5_addAgain_42 : decode cX5_addAgain 42 = .ok (.bipush 8, 2) := by decide +kernel
theorem dX5_addAgain_44 : decode cX5_addAgain 44 = .ok (.invokestatic 23, 3) := by decide +kernel
theorem dX5_addAgain_47 : decode cX5_addAgain 47 = .ok (.aload_n 0, 1) := by decide +kernel
theorem dX5_addAgain_48 : decode cX5_addAgain 48 = .ok (.dup, 1) := by decide +kernel
theorem dX5_addAgain_49 : decode cX5_addAgain 49 = .ok (.getfield 15, 3) := by decide +kernel
theorem dX5_addAgain_52 : decode cX5_addAgain 52 = .ok (.iconst 1, 1) := by decide +kernel
theorem dX5_addAgain_53 : decode cX5_addAgain 53 = .ok (.iadd, 1) := by decide +kernel
theorem dX5_addAgain_54 : decode cX5_addAgain 54 = .ok (.putfield 15, 3) := by decide +kernel
theorem dX5_addAgain_57 : decode cX5_addAgain 57 = .ok (.return_, 1) := by decide +kernel
def f_X5_addAgain (σ : HS) (a0 : Option Nat) (a1 : Int32) : Option (Unit × HS) :=
  h_b1 (h_gI σ a0 6 2) fun x1 =>
  if x1 < 200 then
    h_b1 (h_gR σ a0 6 0) fun x4 =>
    h_b1 (h_rcv σ a0 6) fun y9 =>
    h_bd (f_X5_cell σ a0 a1) fun r6 s7 =>
    h_b1 (h_gR s7 a0 6 0) fun x11 =>
    h_b1 (h_gI s7 a0 6 2) fun x13 =>
    h_b1 (h_rcv s7 a0 6) fun y18 =>
    h_bd (f_X5_cell s7 a0 x13) fun r15 s16 =>
    h_b1 (h_cpI s16 x4 r6 x11 r15 8) fun s20 =>
    h_b1 (h_gI s20 a0 6 2) fun x22 =>
    h_b1 (h_pI s20 a0 6 2 (x22 + 1)) fun s24 =>
    some ((), s24)
  else
    h_b1 (h_gI σ a0 6 3) fun x26 =>
    h_b1 (h_pI σ a0 6 3 (x26 + 1)) fun s28 =>
    some ((), s28)
set_option maxHeartbeats 4000000 in
set_option maxRecDepth 100000 in
theorem m_X5_addAgain (l : Launch) (D : va_G) (dA : Nat → ClassId) (bs : Nat) {σ σ' : HS} {a0 : Option Nat} {a1 : Int32} (h : f_X5_addAgain σ a0 a1 = some ((), σ')) : MetC l yX5_addAgain cX5_addAgain 2 none 1 64 D dA bs [va_rf a0, .int a1] none σ σ' := by
  refine MetC.of (by decide) (h_avR (h_avI h_av0)) (Nat.le_of_ble_eq_true rfl) ?_
  intro p e R s m args below meth c C B hnm
  unfold f_X5_addAgain at h
  refine V_sub (lv' := [(0, va_rf a0), (1, .int a1)]) [0, 1] rfl ?_
  refine V_aload_n C 0 dX5_addAgain_0 rfl rfl ?_
  obtain ⟨x1, e2, h⟩ := h_b1_some h
  refine V_getI C fl_RX5_15 dX5_addAgain_1 e2 ?_
  refine V_sipush (v := 200) C dX5_addAgain_4 (by decide) ?_
  refine V_icmp_lt (tgt := 21) C dX5_addAgain_7 (by decide) (fun c3 => ?_) (fun c3 => ?_)
  · rw [if_pos c3] at h
    refine V_aload_n C 0 dX5_addAgain_21 rfl rfl ?_
    obtain ⟨x4, e5, h⟩ := h_b1_some h
    refine V_getR C fl_RX5_11 dX5_addAgain_22 e5 ?_
    refine V_aload_n C 0 dX5_addAgain_25 rfl rfl ?_
    refine V_iload_n C 1 dX5_addAgain_26 rfl rfl ?_
    obtain ⟨y9, e10, h⟩ := h_b1_some h
    obtain ⟨r6, s7, e8, h⟩ := h_bd_some h
    refine V_cV (As := [.int a1]) (rest := [va_rf x4]) C mv_RX5_19 (m_X5_cell l D dA bs e8) e10 rfl rfl (Nat.le_trans (h_wR h_w0) (by decide)) (h_fr B (by decide)) (h_lo B (by decide)) dX5_addAgain_27 ?_
    refine V_aload_n C 0 dX5_addAgain_30 rfl rfl ?_
    obtain ⟨x11, e12, h⟩ := h_b1_some h
    refine V_getR C fl_RX5_11 dX5_addAgain_31 e12 ?_
    refine V_aload_n C 0 dX5_addAgain_34 rfl rfl ?_
    refine V_aload_n C 0 dX5_addAgain_35 rfl rfl ?_
    obtain ⟨x13, e14, h⟩ := h_b1_some h
    refine V_getI C fl_RX5_15 dX5_addAgain_36 e14 ?_
    obtain ⟨y18, e19, h⟩ := h_b1_some h
    obtain ⟨r15, s16, e17, h⟩ := h_bd_some h
    refine V_cV (As := [.int x13]) (rest := [va_rf x11, .int r6, va_rf x4]) C mv_RX5_19 (m_X5_cell l D dA bs e17) e19 rfl rfl (Nat.le_trans (h_wR (h_wI (h_wR h_w0))) (by decide)) (h_fr B (by decide)) (h_lo B (by decide)) dX5_addAgain_39 ?_
    refine V_bipush (v := 8) C dX5_addAgain_42 (by decide) ?_
    obtain ⟨s20, e21, h⟩ := h_b1_some h
    refine V_copyI C cy_RX5 cy_n cy_s cy_i (h_fr B (by decide)) (h_lo B (by decide +kernel)) dX5_addAgain_44 e21 ?_
    refine V_aload_n C 0 dX5_addAgain_47 rfl rfl ?_
    refine V_dupR C dX5_addAgain_48 ?_
    obtain ⟨x22, e23, h⟩ := h_b1_some h
    refine V_getI C fl_RX5_15 dX5_addAgain_49 e23 ?_
    refine V_iconst (v := 1) C dX5_addAgain_52 (by decide) ?_
    refine V_iadd C dX5_addAgain_53 ?_
    obtain ⟨s24, e25, h⟩ := h_b1_some h
    refine V_putI C fw_RX5_15 dX5_addAgain_54 e25 ?_
    cases h
    exact V_vret C B dX5_addAgain_57
  · rw [if_neg c3] at h
    refine V_aload_n C 0 dX5_addAgain_10 rfl rfl ?_
    refine V_dupR C dX5_addAgain_11 ?_
    obtain ⟨x26, e27, h⟩ := h_b1_some h
    refine V_getI C fl_RX5_29 dX5_addAgain_12 e27 ?_
    refine V_iconst (v := 1) C dX5_addAgain_15 (by decide) ?_
    refine V_iadd C dX5_addAgain_16 ?_
    obtain ⟨s28, e29, h⟩ := h_b1_some h
    refine V_putI C fw_RX5_29 dX5_addAgain_17 e29 ?_
    cases h
    exact V_vret C B dX5_addAgain_20
/-! X5_remove -/
theorem dX5_remove_0 : decode cX5_remove 0 = .ok (.iload_n 1, 1) := by decide +kernel
theorem dX5_remove_1 : decode cX5_remove 1 = .ok (.istore_n 2, 1) := by decide +kernel
theorem dX5_remove_2 : decode cX5_remove 2 = .ok (.iload_n 2, 1) := by decide +kernel
theorem dX5_remove_3 : decode cX5_remove 3 = .ok (.ifCond .le 34, 3) := by decide +kernel
theorem dX5_remove_6 : decode cX5_remove 6 = .ok (.aload_n 0, 1) := by decide +kernel
theorem dX5_remove_7 : decode cX5_remove 7 = .ok (.getfield 11, 3) := by decide +kernel
theorem dX5_remove_10 : decode cX5_remove 10 = .ok (.aload_n 0, 1) := by decide +kernel
theorem dX5_remove_11 : decode cX5_remove 11 = .ok (.iload_n 2, 1) := by decide +kernel
theorem dX5_remove_12 : decode cX5_remove 12 = .ok (.iconst 1, 1) := by decide +kernel
theorem dX5_remove_13 : decode cX5_remove 13 = .ok (.isub, 1) := by decide +kernel
theorem dX5_remove_14 : decode cX5_remove 14 = .ok (.invokevirtual 19, 3) := by decide +kernel
theorem dX5_remove_17 : decode cX5_remove 17 = .ok (.aload_n 0, 1) := by decide +kernel
theorem dX5_remove_18 : decode cX5_remove 18 = .ok (.getfield 11, 3) := by decide +kernel
theorem dX5_remove_21 : decode cX5_remove 21 = .ok (.aload_n 0, 1) := by decide +kernel
theorem dX5_remove_22 : decode cX5_remove 22 = .ok (.iload_n 2, 1) := by decide +kernel
theorem dX5_remove_23 : decode cX5_remove 23 = .ok (.invokevirtual 19, 3) := by decide +kernel
theorem dX5_remove_26 : decode cX5_remove 26 = .ok (.bipush 8, 2) := by decide +kernel
theorem dX5_remove_28 : decode cX5_remove 28 = .ok (.invokestatic 23, 3) := by decide +kernel
theorem dX5_remove_31 : decode cX5_remove 31 = .ok (.iinc 2 (-1), 3) := by decide +kernel
theorem dX5_remove_34 : decode cX5_remove 34 = .ok (.goto (-32), 3) := by decide +kernel
theorem dX5_remove_37 : decode cX5_remove 37 = .ok (.aload_n 0, 1) := by decide +kernel
theorem dX5_remove_38 : decode cX5_remove 38 = .ok (.aload_n 0, 1) := by decide +kernel
theorem dX5_remove_39 : decode cX5_remove 39 = .ok (.getfield 32, 3) := by decide +kernel
theorem dX5_remove_42 : decode cX5_remove 42 = .ok (.iconst 1, 1) := by decide +kernel
theorem dX5_remove_43 : decode cX5_remove 43 = .ok (.iadd, 1) := by decide +kernel
theorem dX5_remove_44 : decode cX5_remove 44 = .ok (.sipush 200, 3) := by decide +kernel
theorem dX5_remove_47 : decode cX5_remove 47 = .ok (.irem, 1) := by decide +kernel
theorem dX5_remove_48 : decode cX5_remove 48 = .ok (.putfield 32, 3) := by decide +kernel
theorem dX5_remove_51 : decode cX5_remove 51 = .ok (.aload_n 0, 1) := by decide +kernel
theorem dX5_remove_52 : decode cX5_remove 52 = .ok (.dup, 1) := by decide +kernel
theorem dX5_remove_53 : decode cX5_remove 53 = .ok (.getfield 15, 3) := by decide +kernel
theorem dX5_remove_56 : decode cX5_remove 56 = .ok (.iconst 1, 1) := by decide +kernel
theorem dX5_remove_57 : decode cX5_remove 57 = .ok (.isub, 1) := by decide +kernel
theorem dX5_remove_58 : decode cX5_remove 58 = .ok (.putfield 15, 3) := by decide +kernel
theorem dX5_remove_61 : decode cX5_remove 61 = .ok (.return_, 1) := by decide +kernel
def g_X5_remove_2 : Nat → HS → Option Nat → Int32 → Option (Unit × HS)
  | 0, _, _, _ => none
  | n + 1, σ, l0, l2 =>
    if l2 ≤ 0 then
      h_b1 (h_gI σ l0 6 1) fun x2 =>
      h_b1 (h_pI σ l0 6 1 ((x2 + 1) - (x2 + 1) / 200 * 200)) fun s4 =>
      h_b1 (h_gI s4 l0 6 2) fun x6 =>
      h_b1 (h_pI s4 l0 6 2 (x6 - 1)) fun s8 =>
      some ((), s8)
    else
      h_b1 (h_gR σ l0 6 0) fun x10 =>
      h_b1 (h_rcv σ l0 6) fun y15 =>
      h_bd (f_X5_cell σ l0 (l2 - 1)) fun r12 s13 =>
      h_b1 (h_gR s13 l0 6 0) fun x17 =>
      h_b1 (h_rcv s13 l0 6) fun y22 =>
      h_bd (f_X5_cell s13 l0 l2) fun r19 s20 =>
      h_b1 (h_cpI s20 x10 r12 x17 r19 8) fun s24 =>
      g_X5_remove_2 n s24 l0 (l2 + (-1))
def f_X5_remove (σ : HS) (a0 : Option Nat) (a1 : Int32) : Option (Unit × HS) :=
  g_X5_remove_2 h_hN σ a0 a1
set_option maxHeartbeats 4000000 in
set_option maxRecDepth 100000 in
theorem w_X5_remove_2 {p : Program} {l : Launch} {e : Env} {R : Room} {s : State} {m : MethodId} {args : Array Value} {below : List Frame} {meth : Method} {c : Code} {D : va_G} {dA : Nat → ClassId} {bs : Nat} (C : h_C p m c cX5_remove 3 s args RX5 D dA) {σ0 : HS} (B : h_B R s meth σ0 none 1 64) {σ' : HS} : ∀ (n : Nat) (σ : HS) (l0 : Option Nat) (l2 : Int32), g_X5_remove_2 n σ l0 l2 = some ((), σ') → V p l e R s m args below meth c D dA bs 3 (MQ below (h_Q D dA bs none σ0 σ') args s R.cells R.slots (fun q => bs ≤ q)) σ 2 [(0, va_rf l0), (2, .int l2)] [] := by
  intro n
  induction n with
  | zero =>
    intro σ l0 l2 h
    rw [g_X5_remove_2] at h
    cases h
  | succ n ih =>
    intro σ l0 l2 h
    rw [g_X5_remove_2] at h
    refine V_iload_n C 1 dX5_remove_2 rfl rfl ?_
    refine V_if_le (tgt := 37) C dX5_remove_3 (by decide) (fun c1 => ?_) (fun c1 => ?_)
    · rw [if_pos c1] at h
      refine V_aload_n C 0 dX5_remove_37 rfl rfl ?_
      refine V_aload_n C 0 dX5_remove_38 rfl rfl ?_
      obtain ⟨x2, e3, h⟩ := h_b1_some h
      refine V_getI C fl_RX5_32 dX5_remove_39 e3 ?_
      refine V_iconst (v := 1) C dX5_remove_42 (by decide) ?_
      refine V_iadd C dX5_remove_43 ?_
      refine V_sipush (v := 200) C dX5_remove_44 (by decide) ?_
      refine V_irem C dX5_remove_47 (by decide) ?_
      obtain ⟨s4, e5, h⟩ := h_b1_some h
      refine V_putI C fw_RX5_32 dX5_remove_48 e5 ?_
      refine V_aload_n C 0 dX5_remove_51 rfl rfl ?_
      refine V_dupR C dX5_remove_52 ?_
      obtain ⟨x6, e7, h⟩ := h_b1_some h
      refine V_getI C fl_RX5_15 dX5_remove_53 e7 ?_
      refine V_iconst (v := 1) C dX5_remove_56 (by decide) ?_
      refine V_isub C dX5_remove_57 ?_
      obtain ⟨s8, e9, h⟩ := h_b1_some h
      refine V_putI C fw_RX5_15 dX5_remove_58 e9 ?_
      cases h
      exact V_vret C B dX5_remove_61
    · rw [if_neg c1] at h
      refine V_aload_n C 0 dX5_remove_6 rfl rfl ?_
      obtain ⟨x10, e11, h⟩ := h_b1_some h
      refine V_getR C fl_RX5_11 dX5_remove_7 e11 ?_
      refine V_aload_n C 0 dX5_remove_10 rfl rfl ?_
      refine V_iload_n C 1 dX5_remove_11 rfl rfl ?_
      refine V_iconst (v := 1) C dX5_remove_12 (by decide) ?_
      refine V_isub C dX5_remove_13 ?_
      obtain ⟨y15, e16, h⟩ := h_b1_some h
      obtain ⟨r12, s13, e14, h⟩ := h_bd_some h
      refine V_cV (As := [.int (l2 - 1)]) (rest := [va_rf x10]) C mv_RX5_19 (m_X5_cell l D dA bs e14) e16 rfl rfl (Nat.le_trans (h_wR h_w0) (by decide)) (h_fr B (by decide)) (h_lo B (by decide)) dX5_remove_14 ?_
      refine V_aload_n C 0 dX5_remove_17 rfl rfl ?_
      obtain ⟨x17, e18, h⟩ := h_b1_some h
      refine V_getR C fl_RX5_11 dX5_remove_18 e18 ?_
      refine V_aload_n C 0 dX5_remove_21 rfl rfl ?_
      refine V_iload_n C 1 dX5_remove_22 rfl rfl ?_
      obtain ⟨y22, e23, h⟩ := h_b1_some h
      obtain ⟨r19, s20, e21, h⟩ := h_bd_some h
      refine V_cV (As := [.int l2]) (rest := [va_rf x17, .int r12, va_rf x10]) C mv_RX5_19 (m_X5_cell l D dA bs e21) e23 rfl rfl (Nat.le_trans (h_wR (h_wI (h_wR h_w0))) (by decide)) (h_fr B (by decide)) (h_lo B (by decide)) dX5_remove_23 ?_
      refine V_bipush (v := 8) C dX5_remove_26 (by decide) ?_
      obtain ⟨s24, e25, h⟩ := h_b1_some h
      refine V_copyI C cy_RX5 cy_n cy_s cy_i (h_fr B (by decide)) (h_lo B (by decide +kernel)) dX5_remove_28 e25 ?_
      refine V_iinc (v := (l2 + (-1))) (lv' := [(2, .int (l2 + (-1))), (0, va_rf l0)]) C 1 dX5_remove_31 rfl rfl (by decide) rfl ?_
      refine V_goto (tgt := 2) C dX5_remove_34 (by decide) ?_
      exact V_sub [1, 0] rfl (ih s24 l0 (l2 + (-1)) h)
set_option maxHeartbeats 4000000 in
set_option maxRecDepth 100000 in
theorem m_X5_remove (l : Launch) (D : va_G) (dA : Nat → ClassId) (bs : Nat) {σ σ' : HS} {a0 : Option Nat} {a1 : Int32} (h : f_X5_remove σ a0 a1 = some ((), σ')) : MetC l yX5_remove cX5_remove 3 none 1 64 D dA bs [va_rf a0, .int a1] none σ σ' := by
  refine MetC.of (by decide) (h_avR (h_avI h_av0)) (Nat.le_of_ble_eq_true rfl) ?_
  intro p e R s m args below meth c C B hnm
  unfold f_X5_remove at h
  refine V_sub (lv' := [(0, va_rf a0), (1, .int a1)]) [0, 1] rfl ?_
  refine V_iload_n C 1 dX5_remove_0 rfl rfl ?_
  refine V_istore_n (lv' := [(2, .int a1), (0, va_rf a0), (1, .int a1)]) C dX5_remove_1 rfl (by decide) rfl ?_
  exact V_sub [1, 0] rfl (w_X5_remove_2 C B h_hN σ a0 a1 h)
/-! X6_init -/
theorem dX6_init_0 : decode cX6_init 0 = .ok (.aload_n 0, 1) := by decide +kernel
theorem dX6_init_1 : decode cX6_init 1 = .ok (.invokespecial 3, 3) := by decide +kernel
theorem dX6_init_4 : decode cX6_init 4 = .ok (.aload_n 0, 1) := by decide +kernel
theorem dX6_init_5 : decode cX6_init 5 = .ok (.iload_n 1, 1) := by decide +kernel
theorem dX6_init_6 : decode cX6_init 6 = .ok (.putfield 9, 3) := by decide +kernel
theorem dX6_init_9 : decode cX6_init 9 = .ok (.aload_n 0, 1) := by decide +kernel
theorem dX6_init_10 : decode cX6_init 10 = .ok (.iload_n 2, 1) := by decide +kernel
theorem dX6_init_11 : decode cX6_init 11 = .ok (.putfield 15, 3) := by decide +kernel
theorem dX6_init_14 : decode cX6_init 14 = .ok (.aload_n 0, 1) := by decide +kernel
theorem dX6_init_15 : decode cX6_init 15 = .ok (.aload_n 3, 1) := by decide +kernel
theorem dX6_init_16 : decode cX6_init 16 = .ok (.putfield 18, 3) := by decide +kernel
theorem dX6_init_19 : decode cX6_init 19 = .ok (.aload_n 0, 1) := by decide +kernel
theorem dX6_init_20 : decode cX6_init 20 = .ok (.bipush 16, 2) := by decide +kernel
theorem dX6_init_22 : decode cX6_init 22 = .ok (.anewarray 22, 3) := by decide +kernel
theorem dX6_init_25 : decode cX6_init 25 = .ok (.putfield 24, 3) := by decide +kernel
theorem dX6_init_28 : decode cX6_init 28 = .ok (.aload_n 0, 1) := by decide +kernel
theorem dX6_init_29 : decode cX6_init 29 = .ok (.bipush 8, 2) := by decide +kernel
theorem dX6_init_31 : decode cX6_init 31 = .ok (.newarray .long, 2) := by decide +kernel
theorem dX6_init_33 : decode cX6_init 33 = .ok (.putfield 28, 3) := by decide +kernel
theorem dX6_init_36 : decode cX6_init 36 = .ok (.iconst 0, 1) := by decide +kernel
theorem dX6_init_37 : decode cX6_init 37 = .ok (.istore 4, 2) := by decide +kernel
theorem dX6_init_39 : decode cX6_init 39 = .ok (.iload 4, 2) := by decide +kernel
theorem dX6_init_41 : decode cX6_init 41 = .ok (.bipush 8, 2) := by decide +kernel
theorem dX6_init_43 : decode cX6_init 43 = .ok (.if_icmp .ge 19, 3) := by decide +kernel
theorem dX6_init_46 : decode cX6_init 46 = .ok (.aload_n 0, 1) := by decide +kernel
theorem dX6_init_47 : decode cX6_init 47 = .ok (.getfield 28, 3) := by decide +kernel
theorem dX6_init_50 : decode cX6_init 50 = .ok (.iload 4, 2) := by decide +kernel
theorem dX6_init_52 : decode cX6_init 52 = .ok (.ldc2_w 34, 3) := by decide +kernel
theorem dX6_init_55 : decode cX6_init 55 = .ok (.lastore, 1) := by decide +kernel
theorem dX6_init_56 : decode cX6_init 56 = .ok (.iinc 4 1, 3) := by decide +kernel
theorem dX6_init_59 : decode cX6_init 59 = .ok (.goto (-20), 3) := by decide +kernel
theorem dX6_init_62 : decode cX6_init 62 = .ok (.return_, 1) := by decide +kernel
def g_X6_init_39 : Nat → HS → Option Nat → Int32 → Option (Unit × HS)
  | 0, _, _, _ => none
  | n + 1, σ, l0, l4 =>
    if 8 ≤ l4 then
      some ((), σ)
    else
      h_b1 (h_gR σ l0 7 4) fun x20 =>
      h_b1 (h_sL σ x20 101 l4 (-9223372036854775808)) fun s22 =>
      g_X6_init_39 n s22 l0 (l4 + 1)
def f_X6_init (σ : HS) (a0 : Option Nat) (a1 : Int32) (a2 : Int32) (a3 : Option Nat) : Option (Unit × HS) :=
  h_b1 a0 fun y1 =>
  h_b1 (h_pI σ a0 7 0 a1) fun s3 =>
  h_b1 (h_pI s3 a0 7 1 a2) fun s5 =>
  h_b1 (h_pR s5 a0 7 2 a3) fun s7 =>
  h_bd (h_mkA s7 103 16) fun x9 s10 =>
  h_b1 (h_pR s10 a0 7 3 x9) fun s12 =>
  h_bd (h_mkA s12 101 8) fun x14 s15 =>
  h_b1 (h_pR s15 a0 7 4 x14) fun s17 =>
  g_X6_init_39 h_hN s17 a0 0
set_option maxHeartbeats 4000000 in
set_option maxRecDepth 100000 in
theorem w_X6_init_39 {p : Program} {l : Launch} {e : Env} {R : Room} {s : State} {m : MethodId} {args : Array Value} {below : List Frame} {meth : Method} {c : Code} {D : va_G} {dA : Nat → ClassId} {bs : Nat} (C : h_C p m c cX6_init 5 s args RX6 D dA) {σ0 : HS} (B : h_B R s meth σ0 none 1 12) (hnm : meth.name = "<init>") {σ' : HS} : ∀ (n : Nat) (σ : HS) (l0 : Option Nat) (l4 : Int32), g_X6_init_39 n σ l0 l4 = some ((), σ') → V p l e R s m args below meth c D dA bs 5 (MQ below (h_Q D dA bs none σ0 σ') args s R.cells R.slots (fun q => bs ≤ q)) σ 39 [(0, va_rf l0), (4, .int l4)] [] := by
  intro n
  induction n with
  | zero =>
    intro σ l0 l4 h
    rw [g_X6_init_39] at h
    cases h
  | succ n ih =>
    intro σ l0 l4 h
    rw [g_X6_init_39] at h
    refine V_iload C 1 dX6_init_39 rfl ?_
    refine V_bipush (v := 8) C dX6_init_41 (by decide) ?_
    refine V_icmp_ge (tgt := 62) C dX6_init_43 (by decide) (fun c19 => ?_) (fun c19 => ?_)
    · rw [if_pos c19] at h
      cases h
      exact V_vret C B dX6_init_62
    · rw [if_neg c19] at h
      refine V_aload_n C 0 dX6_init_46 rfl rfl ?_
      obtain ⟨x20, e21, h⟩ := h_b1_some h
      refine V_getR C fl_RX6_28 dX6_init_47 e21 ?_
      refine V_iload C 1 dX6_init_50 rfl ?_
      refine V_ldc2 (v := (-9223372036854775808)) C dX6_init_52 ck_RX6_34 ?_
      obtain ⟨s22, e23, h⟩ := h_b1_some h
      refine V_last C dX6_init_55 e23 ?_
      refine V_iinc (v := (l4 + 1)) (lv' := [(4, .int (l4 + 1)), (0, va_rf l0)]) C 1 dX6_init_56 rfl rfl (by decide) rfl ?_
      refine V_goto (tgt := 39) C dX6_init_59 (by decide) ?_
      exact V_sub [1, 0] rfl (ih s22 l0 (l4 + 1) h)
set_option maxHeartbeats 4000000 in
set_option maxRecDepth 100000 in
theorem m_X6_init (l : Launch) (D : va_G) (dA : Nat → ClassId) (bs : Nat) {σ σ' : HS} {a0 : Option Nat} {a1 : Int32} {a2 : Int32} {a3 : Option Nat} (h : f_X6_init σ a0 a1 a2 a3 = some ((), σ')) : MetC l yX6_init cX6_init 5 none 1 12 D dA bs [va_rf a0, .int a1, .int a2, va_rf a3] none σ σ' := by
  refine MetC.of (by decide) (h_avR (h_avI (h_avI (h_avR h_av0)))) (Nat.le_of_ble_eq_true rfl) ?_
  intro p e R s m args below meth c C B hnm
  unfold f_X6_init at h
  refine V_sub (lv' := [(0, va_rf a0), (1, .int a1), (2, .int a2), (3, va_rf a3)]) [0, 1, 2, 3] rfl ?_
  refine V_aload_n C 0 dX6_init_0 rfl rfl ?_
  obtain ⟨y1, e2, h⟩ := h_b1_some h
  refine V_objInit C ob_RX6 ob_i ob_c dX6_init_1 e2 (h_fr B (by decide)) (h_lo B (by decide)) ?_
  refine V_aload_n C 0 dX6_init_4 rfl rfl ?_
  refine V_iload_n C 1 dX6_init_5 rfl rfl ?_
  obtain ⟨s3, e4, h⟩ := h_b1_some h
  refine V_putFI C hnm ff_RX6_9 dX6_init_6 e4 ?_
  refine V_aload_n C 0 dX6_init_9 rfl rfl ?_
  refine V_iload_n C 2 dX6_init_10 rfl rfl ?_
  obtain ⟨s5, e6, h⟩ := h_b1_some h
  refine V_putFI C hnm ff_RX6_15 dX6_init_11 e6 ?_
  refine V_aload_n C 0 dX6_init_14 rfl rfl ?_
  refine V_aload_n C 3 dX6_init_15 rfl rfl ?_
  obtain ⟨s7, e8, h⟩ := h_b1_some h
  refine V_putFR C hnm ff_RX6_18 dX6_init_16 e8 ?_
  refine V_aload_n C 0 dX6_init_19 rfl rfl ?_
  refine V_bipush (v := 16) C dX6_init_20 (by decide) ?_
  obtain ⟨x9, s10, e11, h⟩ := h_bd_some h
  refine V_anew (u := 1) C (by decide) rfl rfl lk_RX6_22 ao_0 dX6_init_22 e11 ?_
  obtain ⟨s12, e13, h⟩ := h_b1_some h
  refine V_putFR C hnm ff_RX6_24 dX6_init_25 e13 ?_
  refine V_aload_n C 0 dX6_init_28 rfl rfl ?_
  refine V_bipush (v := 8) C dX6_init_29 (by decide) ?_
  obtain ⟨x14, s15, e16, h⟩ := h_bd_some h
  refine V_newL C ac_long dX6_init_31 e16 ?_
  obtain ⟨s17, e18, h⟩ := h_b1_some h
  refine V_putFR C hnm ff_RX6_28 dX6_init_33 e18 ?_
  refine V_iconst (v := 0) C dX6_init_36 (by decide) ?_
  refine V_istore (lv' := [(4, .int 0), (0, va_rf a0), (1, .int a1), (2, .int a2), (3, va_rf a3)]) C dX6_init_37 (by decide) rfl ?_
  exact V_sub [1, 0] rfl (w_X6_init_39 C B hnm h_hN s17 a0 0 h)
/-! X6_isFresh -/
theorem dX6_isFresh_0 : decode cX6_isFresh 0 = .ok (.iload_n 1, 1) := by decide +kernel
theorem dX6_isFresh_1 : decode cX6_isFresh 1 = .ok (.ifCond .lt 25, 3) := by decide +kernel
theorem dX6_isFresh_4 : decode cX6_isFresh 4 = .ok (.iload_n 1, 1) := by decide +kernel
theorem dX6_isFresh_5 : decode cX6_isFresh 5 = .ok (.bipush 8, 2) := by decide +kernel
theorem dX6_isFresh_7 : decode cX6_isFresh 7 = .ok (.if_icmp .ge 19, 3) := by decide +kernel
theorem dX6_isFresh_10 : decode cX6_isFresh 10 = .ok (.iload_n 2, 1) := by decide +kernel
theorem dX6_isFresh_11 : decode cX6_isFresh 11 = .ok (.i2l, 1) := by decide +kernel
theorem dX6_isFresh_12 : decode cX6_isFresh 12 = .ok (.aload_n 0, 1) := by decide +kernel
theorem dX6_isFresh_13 : decode cX6_isFresh 13 = .ok (.getfield 28, 3) := by decide +kernel
theorem dX6_isFresh_16 : decode cX6_isFresh 16 = .ok (.iload_n 1, 1) := by decide +kernel
theorem dX6_isFresh_17 : decode cX6_isFresh 17 = .ok (.laload, 1) := by decide +kernel
theorem dX6_isFresh_18 : decode cX6_isFresh 18 = .ok (.lcmp, 1) := by decide +kernel
theorem dX6_isFresh_19 : decode cX6_isFresh 19 = .ok (.ifCond .le 7, 3) := by decide +kernel
theorem dX6_isFresh_22 : decode cX6_isFresh 22 = .ok (.iconst 1, 1) := by decide +kernel
theorem dX6_isFresh_23 : decode cX6_isFresh 23 = .ok (.goto 4, 3) := by decide +kernel
theorem dX6_isFresh_26 : decode cX6_isFresh 26 = .ok (.iconst 0, 1) := by decide +kernel
theorem dX6_isFresh_27 : decode cX6_isFresh 27 = .ok (.ireturn, 1) := by decide +kernel
def f_X6_isFresh (σ : HS) (a0 : Option Nat) (a1 : Int32) (a2 : Int32) : Option (Int32 × HS) :=
  if a1 < 0 then
    some (0, σ)
  else
    if 8 ≤ a1 then
      some (0, σ)
    else
      h_b1 (h_gR σ a0 7 4) fun x3 =>
      h_b1 (h_aL σ x3 101 a1) fun x5 =>
      if (lg_cmp (Int32.toInt64 a2) x5) ≤ 0 then
        some (0, σ)
      else
        some (1, σ)
set_option maxHeartbeats 4000000 in
set_option maxRecDepth 100000 in
theorem m_X6_isFresh (l : Launch) (D : va_G) (dA : Nat → ClassId) (bs : Nat) {σ σ' : HS} {a0 : Option Nat} {a1 : Int32} {a2 : Int32} {r : Int32} (h : f_X6_isFresh σ a0 a1 a2 = some (r, σ')) : MetC l yX6_isFresh cX6_isFresh 3 (some .boolean) 0 0 D dA bs [va_rf a0, .int a1, .int a2] (some (.int r)) σ σ' := by
  refine MetC.of (by decide) (h_avR (h_avI (h_avI h_av0))) (Nat.le_of_ble_eq_true rfl) ?_
  intro p e R s m args below meth c C B hnm
  unfold f_X6_isFresh at h
  refine V_sub (lv' := [(0, va_rf a0), (1, .int a1), (2, .int a2)]) [0, 1, 2] rfl ?_
  refine V_iload_n C 1 dX6_isFresh_0 rfl rfl ?_
  refine V_if_lt (tgt := 26) C dX6_isFresh_1 (by decide) (fun c1 => ?_) (fun c1 => ?_)
  · rw [if_pos c1] at h
    refine V_iconst (v := 0) C dX6_isFresh_26 (by decide) ?_
    cases h
    exact V_zret C B dX6_isFresh_27 (Or.inl rfl)
  · rw [if_neg c1] at h
    refine V_iload_n C 1 dX6_isFresh_4 rfl rfl ?_
    refine V_bipush (v := 8) C dX6_isFresh_5 (by decide) ?_
    refine V_icmp_ge (tgt := 26) C dX6_isFresh_7 (by decide) (fun c2 => ?_) (fun c2 => ?_)
    · rw [if_pos c2] at h
      refine V_iconst (v := 0) C dX6_isFresh_26 (by decide) ?_
      cases h
      exact V_zret C B dX6_isFresh_27 (Or.inl rfl)
    · rw [if_neg c2] at h
      refine V_iload_n C 2 dX6_isFresh_10 rfl rfl ?_
      refine V_i2l C dX6_isFresh_11 ?_
      refine V_aload_n C 0 dX6_isFresh_12 rfl rfl ?_
      obtain ⟨x3, e4, h⟩ := h_b1_some h
      refine V_getR C fl_RX6_28 dX6_isFresh_13 e4 ?_
      refine V_iload_n C 1 dX6_isFresh_16 rfl rfl ?_
      obtain ⟨x5, e6, h⟩ := h_b1_some h
      refine V_lald C dX6_isFresh_17 e6 ?_
      refine V_lcmp C dX6_isFresh_18 ?_
      refine V_if_le (tgt := 26) C dX6_isFresh_19 (by decide) (fun c7 => ?_) (fun c7 => ?_)
      · rw [if_pos c7] at h
        refine V_iconst (v := 0) C dX6_isFresh_26 (by decide) ?_
        cases h
        exact V_zret C B dX6_isFresh_27 (Or.inl rfl)
      · rw [if_neg c7] at h
        refine V_iconst (v := 1) C dX6_isFresh_22 (by decide) ?_
        refine V_goto (tgt := 27) C dX6_isFresh_23 (by decide) ?_
        cases h
        exact V_zret C B dX6_isFresh_27 (Or.inr rfl)
/-! X6_isLive -/
theorem dX6_isLive_0 : decode cX6_isLive 0 = .ok (.aload_n 0, 1) := by decide +kernel
theorem dX6_isLive_1 : decode cX6_isLive 1 = .ok (.getfield 24, 3) := by decide +kernel
theorem dX6_isLive_4 : decode cX6_isLive 4 = .ok (.iload_n 1, 1) := by decide +kernel
theorem dX6_isLive_5 : decode cX6_isLive 5 = .ok (.aaload, 1) := by decide +kernel
theorem dX6_isLive_6 : decode cX6_isLive 6 = .ok (.ifnull 20, 3) := by decide +kernel
theorem dX6_isLive_9 : decode cX6_isLive 9 = .ok (.aload_n 0, 1) := by decide +kernel
theorem dX6_isLive_10 : decode cX6_isLive 10 = .ok (.getfield 24, 3) := by decide +kernel
theorem dX6_isLive_13 : decode cX6_isLive 13 = .ok (.iload_n 1, 1) := by decide +kernel
theorem dX6_isLive_14 : decode cX6_isLive 14 = .ok (.aaload, 1) := by decide +kernel
theorem dX6_isLive_15 : decode cX6_isLive 15 = .ok (.iload_n 2, 1) := by decide +kernel
theorem dX6_isLive_16 : decode cX6_isLive 16 = .ok (.invokevirtual 65, 3) := by decide +kernel
theorem dX6_isLive_19 : decode cX6_isLive 19 = .ok (.ifCond .eq 7, 3) := by decide +kernel
theorem dX6_isLive_22 : decode cX6_isLive 22 = .ok (.iconst 1, 1) := by decide +kernel
theorem dX6_isLive_23 : decode cX6_isLive 23 = .ok (.goto 4, 3) := by decide +kernel
theorem dX6_isLive_26 : decode cX6_isLive 26 = .ok (.iconst 0, 1) := by decide +kernel
theorem dX6_isLive_27 : decode cX6_isLive 27 = .ok (.ireturn, 1) := by decide +kernel
def f_X6_isLive (σ : HS) (a0 : Option Nat) (a1 : Int32) (a2 : Int32) : Option (Int32 × HS) :=
  h_b1 (h_gR σ a0 7 3) fun x1 =>
  h_b1 (h_aR σ x1 103 a1) fun x3 =>
  if x3 = none then
    some (0, σ)
  else
    h_b1 (h_gR σ a0 7 3) fun x6 =>
    h_b1 (h_aR σ x6 103 a1) fun x8 =>
    h_b1 (h_rcv σ x8 1) fun y13 =>
    h_bd (f_X0_holdsAt σ x8 a2) fun r10 s11 =>
    if r10 = 0 then
      some (0, s11)
    else
      some (1, s11)
set_option maxHeartbeats 4000000 in
set_option maxRecDepth 100000 in
theorem m_X6_isLive (l : Launch) (D : va_G) (dA : Nat → ClassId) (bs : Nat) {σ σ' : HS} {a0 : Option Nat} {a1 : Int32} {a2 : Int32} {r : Int32} (h : f_X6_isLive σ a0 a1 a2 = some (r, σ')) : MetC l yX6_isLive cX6_isLive 3 (some .boolean) 1 21 D dA bs [va_rf a0, .int a1, .int a2] (some (.int r)) σ σ' := by
  refine MetC.of (by decide) (h_avR (h_avI (h_avI h_av0))) (Nat.le_of_ble_eq_true rfl) ?_
  intro p e R s m args below meth c C B hnm
  unfold f_X6_isLive at h
  refine V_sub (lv' := [(0, va_rf a0), (1, .int a1), (2, .int a2)]) [0, 1, 2] rfl ?_
  refine V_aload_n C 0 dX6_isLive_0 rfl rfl ?_
  obtain ⟨x1, e2, h⟩ := h_b1_some h
  refine V_getR C fl_RX6_24 dX6_isLive_1 e2 ?_
  refine V_iload_n C 1 dX6_isLive_4 rfl rfl ?_
  obtain ⟨x3, e4, h⟩ := h_b1_some h
  refine V_aald C h_at103 dX6_isLive_5 e4 ?_
  refine V_ifnull (tgt := 26) C dX6_isLive_6 (by decide) (fun c5 => ?_) (fun c5 => ?_)
  · rw [if_pos c5] at h
    refine V_iconst (v := 0) C dX6_isLive_26 (by decide) ?_
    cases h
    exact V_zret C B dX6_isLive_27 (Or.inl rfl)
  · rw [if_neg c5] at h
    refine V_aload_n C 0 dX6_isLive_9 rfl rfl ?_
    obtain ⟨x6, e7, h⟩ := h_b1_some h
    refine V_getR C fl_RX6_24 dX6_isLive_10 e7 ?_
    refine V_iload_n C 1 dX6_isLive_13 rfl rfl ?_
    obtain ⟨x8, e9, h⟩ := h_b1_some h
    refine V_aald C h_at103 dX6_isLive_14 e9 ?_
    refine V_iload_n C 2 dX6_isLive_15 rfl rfl ?_
    obtain ⟨y13, e14, h⟩ := h_b1_some h
    obtain ⟨r10, s11, e12, h⟩ := h_bd_some h
    refine V_cV (As := [.int a2]) (rest := []) C mv_RX6_65 (m_X0_holdsAt l D dA bs e12) e14 rfl rfl (Nat.le_trans h_w0 (by decide)) (h_fr B (by decide)) (h_lo B (by decide)) dX6_isLive_16 ?_
    refine V_if_eq (tgt := 26) C dX6_isLive_19 (by decide) (fun c15 => ?_) (fun c15 => ?_)
    · rw [if_pos c15] at h
      refine V_iconst (v := 0) C dX6_isLive_26 (by decide) ?_
      cases h
      exact V_zret C B dX6_isLive_27 (Or.inl rfl)
    · rw [if_neg c15] at h
      refine V_iconst (v := 1) C dX6_isLive_22 (by decide) ?_
      refine V_goto (tgt := 27) C dX6_isLive_23 (by decide) ?_
      cases h
      exact V_zret C B dX6_isLive_27 (Or.inr rfl)
/-! X6_slotFor -/
theorem dX6_slotFor_0 : decode cX6_slotFor 0 = .ok (.iconst (-1), 1) := by decide +kernel
theorem dX6_slotFor_1 : decode cX6_slotFor 1 = .ok (.istore_n 3, 1) := by decide +kernel
theorem dX6_slotFor_2 : decode cX6_slotFor 2 = .ok (.iconst 0, 1) := by decide +kernel
theorem dX6_slotFor_3 : decode cX6_slotFor 3 = .ok (.istore 4, 2) := by decide +kernel
theorem dX6_slotFor_5 : decode cX6_slotFor 5 = .ok (.iload 4, 2) := by decide +kernel
theorem dX6_slotFor_7 : decode cX6_slotFor 7 = .ok (.bipush 16, 2) := by decide +kernel
theorem dX6_slotFor_9 : decode cX6_slotFor 9 = .ok (.if_icmp .ge 45, 3) := by decide +kernel
theorem dX6_slotFor_12 : decode cX6_slotFor 12 = .ok (.aload_n 0, 1) := by decide +kernel
theorem dX6_slotFor_13 : decode cX6_slotFor 13 = .ok (.iload 4, 2) := by decide +kernel
theorem dX6_slotFor_15 : decode cX6_slotFor 15 = .ok (.iload_n 2, 1) := by decide +kernel
theorem dX6_slotFor_16 : decode cX6_slotFor 16 = .ok (.invokevirtual 40, 3) := by decide +kernel
theorem dX6_slotFor_19 : decode cX6_slotFor 19 = .ok (.ifCond .ne 9, 3) := by decide +kernel
theorem dX6_slotFor_22 : decode cX6_slotFor 22 = .ok (.iload 4, 2) := by decide +kernel
theorem dX6_slotFor_24 : decode cX6_slotFor 24 = .ok (.istore_n 3, 1) := by decide +kernel
theorem dX6_slotFor_25 : decode cX6_slotFor 25 = .ok (.goto 23, 3) := by decide +kernel
theorem dX6_slotFor_28 : decode cX6_slotFor 28 = .ok (.aload_n 0, 1) := by decide +kernel
theorem dX6_slotFor_29 : decode cX6_slotFor 29 = .ok (.getfield 24, 3) := by decide +kernel
theorem dX6_slotFor_32 : decode cX6_slotFor 32 = .ok (.iload 4, 2) := by decide +kernel
theorem dX6_slotFor_34 : decode cX6_slotFor 34 = .ok (.aaload, 1) := by decide +kernel
theorem dX6_slotFor_35 : decode cX6_slotFor 35 = .ok (.getfield 47, 3) := by decide +kernel
theorem dX6_slotFor_38 : decode cX6_slotFor 38 = .ok (.aload_n 1, 1) := by decide +kernel
theorem dX6_slotFor_39 : decode cX6_slotFor 39 = .ok (.invokevirtual 68, 3) := by decide +kernel
theorem dX6_slotFor_42 : decode cX6_slotFor 42 = .ok (.ifCond .eq 6, 3) := by decide +kernel
theorem dX6_slotFor_45 : decode cX6_slotFor 45 = .ok (.iload 4, 2) := by decide +kernel
theorem dX6_slotFor_47 : decode cX6_slotFor 47 = .ok (.ireturn, 1) := by decide +kernel
theorem dX6_slotFor_48 : decode cX6_slotFor 48 = .ok (.iinc 4 1, 3) := by decide +kernel
theorem dX6_slotFor_51 : decode cX6_slotFor 51 = .ok (.goto (-46), 3) := by decide +kernel
theorem dX6_slotFor_54 : decode cX6_slotFor 54 = .ok (.iload_n 3, 1) := by decide +kernel
theorem dX6_slotFor_55 : decode cX6_slotFor 55 = .ok (.ireturn, 1) := by decide +kernel
def g_X6_slotFor_5 : Nat → HS → Option Nat → Option Nat → Int32 → Int32 → Int32 → Option (Int32 × HS)
  | 0, _, _, _, _, _, _ => none
  | n + 1, σ, l0, l1, l2, l3, l4 =>
    if 16 ≤ l4 then
      some (l3, σ)
    else
      h_b1 (h_rcv σ l0 7) fun y5 =>
      h_bd (f_X6_isLive σ l0 l4 l2) fun r2 s3 =>
      if r2 = 0 then
        g_X6_slotFor_5 n s3 l0 l1 l2 l4 (l4 + 1)
      else
        h_b1 (h_gR s3 l0 7 3) fun x8 =>
        h_b1 (h_aR s3 x8 103 l4) fun x10 =>
        h_b1 (h_gR s3 x10 1 0) fun x12 =>
        h_b1 (h_rcv s3 x12 5) fun y17 =>
        h_bd (f_X4_same s3 x12 l1) fun r14 s15 =>
        if r14 = 0 then
          g_X6_slotFor_5 n s15 l0 l1 l2 l3 (l4 + 1)
        else
          some (l4, s15)
def f_X6_slotFor (σ : HS) (a0 : Option Nat) (a1 : Option Nat) (a2 : Int32) : Option (Int32 × HS) :=
  g_X6_slotFor_5 h_hN σ a0 a1 a2 (-1) 0
set_option maxHeartbeats 4000000 in
set_option maxRecDepth 100000 in
theorem w_X6_slotFor_5 {p : Program} {l : Launch} {e : Env} {R : Room} {s : State} {m : MethodId} {args : Array Value} {below : List Frame} {meth : Method} {c : Code} {D : va_G} {dA : Nat → ClassId} {bs : Nat} (C : h_C p m c cX6_slotFor 5 s args RX6 D dA) {σ0 : HS} (B : h_B R s meth σ0 (some .int) 2 43) {σ' : HS} {r : Int32} : ∀ (n : Nat) (σ : HS) (l0 : Option Nat) (l1 : Option Nat) (l2 : Int32) (l3 : Int32) (l4 : Int32), g_X6_slotFor_5 n σ l0 l1 l2 l3 l4 = some (r, σ') → V p l e R s m args below meth c D dA bs 5 (MQ below (h_Q D dA bs (some (.int r)) σ0 σ') args s R.cells R.slots (fun q => bs ≤ q)) σ 5 [(0, va_rf l0), (1, va_rf l1), (2, .int l2), (3, .int l3), (4, .int l4)] [] := by
  intro n
  induction n with
  | zero =>
    intro σ l0 l1 l2 l3 l4 h
    rw [g_X6_slotFor_5] at h
    cases h
  | succ n ih =>
    intro σ l0 l1 l2 l3 l4 h
    rw [g_X6_slotFor_5] at h
    refine V_iload C 4 dX6_slotFor_5 rfl ?_
    refine V_bipush (v := 16) C dX6_slotFor_7 (by decide) ?_
    refine V_icmp_ge (tgt := 54) C dX6_slotFor_9 (by decide) (fun c1 => ?_) (fun c1 => ?_)
    · rw [if_pos c1] at h
      refine V_iload_n C 3 dX6_slotFor_54 rfl rfl ?_
      cases h
      exact V_iret C B dX6_slotFor_55
    · rw [if_neg c1] at h
      refine V_aload_n C 0 dX6_slotFor_12 rfl rfl ?_
      refine V_iload C 4 dX6_slotFor_13 rfl ?_
      refine V_iload_n C 2 dX6_slotFor_15 rfl rfl ?_
      obtain ⟨y5, e6, h⟩ := h_b1_some h
      obtain ⟨r2, s3, e4, h⟩ := h_bd_some h
      refine V_cV (As := [.int l4, .int l2]) (rest := []) C mv_RX6_40 (m_X6_isLive l D dA bs e4) e6 rfl rfl (Nat.le_trans h_w0 (by decide)) (h_fr B (by decide)) (h_lo B (by decide)) dX6_slotFor_16 ?_
      refine V_if_ne (tgt := 28) C dX6_slotFor_19 (by decide) (fun c7 => ?_) (fun c7 => ?_)
      · rw [if_neg c7] at h
        refine V_aload_n C 0 dX6_slotFor_28 rfl rfl ?_
        obtain ⟨x8, e9, h⟩ := h_b1_some h
        refine V_getR C fl_RX6_24 dX6_slotFor_29 e9 ?_
        refine V_iload C 4 dX6_slotFor_32 rfl ?_
        obtain ⟨x10, e11, h⟩ := h_b1_some h
        refine V_aald C h_at103 dX6_slotFor_34 e11 ?_
        obtain ⟨x12, e13, h⟩ := h_b1_some h
        refine V_getR C fl_RX6_47 dX6_slotFor_35 e13 ?_
        refine V_aload_n C 1 dX6_slotFor_38 rfl rfl ?_
        obtain ⟨y17, e18, h⟩ := h_b1_some h
        obtain ⟨r14, s15, e16, h⟩ := h_bd_some h
        refine V_cV (As := [va_rf l1]) (rest := []) C mv_RX6_68 (m_X4_same l D dA bs e16) e18 rfl rfl (Nat.le_trans h_w0 (by decide)) (h_fr B (by decide)) (h_lo B (by decide)) dX6_slotFor_39 ?_
        refine V_if_eq (tgt := 48) C dX6_slotFor_42 (by decide) (fun c19 => ?_) (fun c19 => ?_)
        · rw [if_pos c19] at h
          refine V_iinc (v := (l4 + 1)) (lv' := [(4, .int (l4 + 1)), (0, va_rf l0), (1, va_rf l1), (2, .int l2), (3, .int l3)]) C 4 dX6_slotFor_48 rfl rfl (by decide) rfl ?_
          refine V_goto (tgt := 5) C dX6_slotFor_51 (by decide) ?_
          exact V_sub [1, 2, 3, 4, 0] rfl (ih s15 l0 l1 l2 l3 (l4 + 1) h)
        · rw [if_neg c19] at h
          refine V_iload C 4 dX6_slotFor_45 rfl ?_
          cases h
          exact V_iret C B dX6_slotFor_47
      · rw [if_pos c7] at h
        refine V_iload C 4 dX6_slotFor_22 rfl ?_
        refine V_istore_n (lv' := [(3, .int l4), (0, va_rf l0), (1, va_rf l1), (2, .int l2), (4, .int l4)]) C dX6_slotFor_24 rfl (by decide) rfl ?_
        refine V_goto (tgt := 48) C dX6_slotFor_25 (by decide) ?_
        refine V_iinc (v := (l4 + 1)) (lv' := [(4, .int (l4 + 1)), (3, .int l4), (0, va_rf l0), (1, va_rf l1), (2, .int l2)]) C 4 dX6_slotFor_48 rfl rfl (by decide) rfl ?_
        refine V_goto (tgt := 5) C dX6_slotFor_51 (by decide) ?_
        exact V_sub [2, 3, 4, 1, 0] rfl (ih s3 l0 l1 l2 l4 (l4 + 1) h)
set_option maxHeartbeats 4000000 in
set_option maxRecDepth 100000 in
theorem m_X6_slotFor (l : Launch) (D : va_G) (dA : Nat → ClassId) (bs : Nat) {σ σ' : HS} {a0 : Option Nat} {a1 : Option Nat} {a2 : Int32} {r : Int32} (h : f_X6_slotFor σ a0 a1 a2 = some (r, σ')) : MetC l yX6_slotFor cX6_slotFor 5 (some .int) 2 43 D dA bs [va_rf a0, va_rf a1, .int a2] (some (.int r)) σ σ' := by
  refine MetC.of (by decide) (h_avR (h_avR (h_avI h_av0))) (Nat.le_of_ble_eq_true rfl) ?_
  intro p e R s m args below meth c C B hnm
  unfold f_X6_slotFor at h
  refine V_sub (lv' := [(0, va_rf a0), (1, va_rf a1), (2, .int a2)]) [0, 1, 2] rfl ?_
  refine V_iconst (v := (-1)) C dX6_slotFor_0 (by decide) ?_
  refine V_istore_n (lv' := [(3, .int (-1)), (0, va_rf a0), (1, va_rf a1), (2, .int a2)]) C dX6_slotFor_1 rfl (by decide) rfl ?_
  refine V_iconst (v := 0) C dX6_slotFor_2 (by decide) ?_
  refine V_istore (lv' := [(4, .int 0), (3, .int (-1)), (0, va_rf a0), (1, va_rf a1), (2, .int a2)]) C dX6_slotFor_3 (by decide) rfl ?_
  exact V_sub [2, 3, 4, 1, 0] rfl (w_X6_slotFor_5 C B h_hN σ a0 a1 a2 (-1) 0 h)
/-! X6_hasRoom -/
theorem dX6_hasRoom_0 : decode cX6_hasRoom 0 = .ok (.aload_n 0, 1) := by decide +kernel
theorem dX6_hasRoom_1 : decode cX6_hasRoom 1 = .ok (.aload_n 1, 1) := by decide +kernel
theorem dX6_hasRoom_2 : decode cX6_hasRoom 2 = .ok (.iload_n 3, 1) := by decide +kernel
theorem dX6_hasRoom_3 : decode cX6_hasRoom 3 = .ok (.invokevirtual 36, 3) := by decide +kernel
theorem dX6_hasRoom_6 : decode cX6_hasRoom 6 = .ok (.istore 4, 2) := by decide +kernel
theorem dX6_hasRoom_8 : decode cX6_hasRoom 8 = .ok (.iload 4, 2) := by decide +kernel
theorem dX6_hasRoom_10 : decode cX6_hasRoom 10 = .ok (.ifCond .lt 31, 3) := by decide +kernel
theorem dX6_hasRoom_13 : decode cX6_hasRoom 13 = .ok (.aload_n 0, 1) := by decide +kernel
theorem dX6_hasRoom_14 : decode cX6_hasRoom 14 = .ok (.iload 4, 2) := by decide +kernel
theorem dX6_hasRoom_16 : decode cX6_hasRoom 16 = .ok (.iload_n 3, 1) := by decide +kernel
theorem dX6_hasRoom_17 : decode cX6_hasRoom 17 = .ok (.invokevirtual 40, 3) := by decide +kernel
theorem dX6_hasRoom_20 : decode cX6_hasRoom 20 = .ok (.ifCond .eq 17, 3) := by decide +kernel
theorem dX6_hasRoom_23 : decode cX6_hasRoom 23 = .ok (.aload_n 0, 1) := by decide +kernel
theorem dX6_hasRoom_24 : decode cX6_hasRoom 24 = .ok (.getfield 24, 3) := by decide +kernel
theorem dX6_hasRoom_27 : decode cX6_hasRoom 27 = .ok (.iload 4, 2) := by decide +kernel
theorem dX6_hasRoom_29 : decode cX6_hasRoom 29 = .ok (.aaload, 1) := by decide +kernel
theorem dX6_hasRoom_30 : decode cX6_hasRoom 30 = .ok (.getfield 44, 3) := by decide +kernel
theorem dX6_hasRoom_33 : decode cX6_hasRoom 33 = .ok (.iload_n 2, 1) := by decide +kernel
theorem dX6_hasRoom_34 : decode cX6_hasRoom 34 = .ok (.if_icmp .ne 7, 3) := by decide +kernel
theorem dX6_hasRoom_37 : decode cX6_hasRoom 37 = .ok (.iconst 1, 1) := by decide +kernel
theorem dX6_hasRoom_38 : decode cX6_hasRoom 38 = .ok (.goto 4, 3) := by decide +kernel
theorem dX6_hasRoom_41 : decode cX6_hasRoom 41 = .ok (.iconst 0, 1) := by decide +kernel
theorem dX6_hasRoom_42 : decode cX6_hasRoom 42 = .ok (.ireturn, 1) := by decide +kernel
def f_X6_hasRoom (σ : HS) (a0 : Option Nat) (a1 : Option Nat) (a2 : Int32) (a3 : Int32) : Option (Int32 × HS) :=
  h_b1 (h_rcv σ a0 7) fun y4 =>
  h_bd (f_X6_slotFor σ a0 a1 a3) fun r1 s2 =>
  if r1 < 0 then
    some (0, s2)
  else
    h_b1 (h_rcv s2 a0 7) fun y10 =>
    h_bd (f_X6_isLive s2 a0 r1 a3) fun r7 s8 =>
    if r7 = 0 then
      some (1, s8)
    else
      h_b1 (h_gR s8 a0 7 3) fun x13 =>
      h_b1 (h_aR s8 x13 103 r1) fun x15 =>
      h_b1 (h_gI s8 x15 1 1) fun x17 =>
      if x17 = a2 then
        some (1, s8)
      else
        some (0, s8)
set_option maxHeartbeats 4000000 in
set_option maxRecDepth 100000 in
theorem m_X6_hasRoom (l : Launch) (D : va_G) (dA : Nat → ClassId) (bs : Nat) {σ σ' : HS} {a0 : Option Nat} {a1 : Option Nat} {a2 : Int32} {a3 : Int32} {r : Int32} (h : f_X6_hasRoom σ a0 a1 a2 a3 = some (r, σ')) : MetC l yX6_hasRoom cX6_hasRoom 5 (some .boolean) 3 67 D dA bs [va_rf a0, va_rf a1, .int a2, .int a3] (some (.int r)) σ σ' := by
  refine MetC.of (by decide) (h_avR (h_avR (h_avI (h_avI h_av0)))) (Nat.le_of_ble_eq_true rfl) ?_
  intro p e R s m args below meth c C B hnm
  unfold f_X6_hasRoom at h
  refine V_sub (lv' := [(0, va_rf a0), (1, va_rf a1), (2, .int a2), (3, .int a3)]) [0, 1, 2, 3] rfl ?_
  refine V_aload_n C 0 dX6_hasRoom_0 rfl rfl ?_
  refine V_aload_n C 1 dX6_hasRoom_1 rfl rfl ?_
  refine V_iload_n C 3 dX6_hasRoom_2 rfl rfl ?_
  obtain ⟨y4, e5, h⟩ := h_b1_some h
  obtain ⟨r1, s2, e3, h⟩ := h_bd_some h
  refine V_cV (As := [va_rf a1, .int a3]) (rest := []) C mv_RX6_36 (m_X6_slotFor l D dA bs e3) e5 rfl rfl (Nat.le_trans h_w0 (by decide)) (h_fr B (by decide)) (h_lo B (by decide)) dX6_hasRoom_3 ?_
  refine V_istore (lv' := [(4, .int r1), (0, va_rf a0), (1, va_rf a1), (2, .int a2), (3, .int a3)]) C dX6_hasRoom_6 (by decide) rfl ?_
  refine V_iload C 0 dX6_hasRoom_8 rfl ?_
  refine V_if_lt (tgt := 41) C dX6_hasRoom_10 (by decide) (fun c6 => ?_) (fun c6 => ?_)
  · rw [if_pos c6] at h
    refine V_iconst (v := 0) C dX6_hasRoom_41 (by decide) ?_
    cases h
    exact V_zret C B dX6_hasRoom_42 (Or.inl rfl)
  · rw [if_neg c6] at h
    refine V_aload_n C 1 dX6_hasRoom_13 rfl rfl ?_
    refine V_iload C 0 dX6_hasRoom_14 rfl ?_
    refine V_iload_n C 4 dX6_hasRoom_16 rfl rfl ?_
    obtain ⟨y10, e11, h⟩ := h_b1_some h
    obtain ⟨r7, s8, e9, h⟩ := h_bd_some h
    refine V_cV (As := [.int r1, .int a3]) (rest := []) C mv_RX6_40 (m_X6_isLive l D dA bs e9) e11 rfl rfl (Nat.le_trans h_w0 (by decide)) (h_fr B (by decide)) (h_lo B (by decide)) dX6_hasRoom_17 ?_
    refine V_if_eq (tgt := 37) C dX6_hasRoom_20 (by decide) (fun c12 => ?_) (fun c12 => ?_)
    · rw [if_pos c12] at h
      refine V_iconst (v := 1) C dX6_hasRoom_37 (by decide) ?_
      refine V_goto (tgt := 42) C dX6_hasRoom_38 (by decide) ?_
      cases h
      exact V_zret C B dX6_hasRoom_42 (Or.inr rfl)
    · rw [if_neg c12] at h
      refine V_aload_n C 1 dX6_hasRoom_23 rfl rfl ?_
      obtain ⟨x13, e14, h⟩ := h_b1_some h
      refine V_getR C fl_RX6_24 dX6_hasRoom_24 e14 ?_
      refine V_iload C 0 dX6_hasRoom_27 rfl ?_
      obtain ⟨x15, e16, h⟩ := h_b1_some h
      refine V_aald C h_at103 dX6_hasRoom_29 e16 ?_
      obtain ⟨x17, e18, h⟩ := h_b1_some h
      refine V_getI C fl_RX6_44 dX6_hasRoom_30 e18 ?_
      refine V_iload_n C 3 dX6_hasRoom_33 rfl rfl ?_
      refine V_icmp_ne (tgt := 41) C dX6_hasRoom_34 (by decide) (fun c19 => ?_) (fun c19 => ?_)
      · rw [if_neg c19] at h
        refine V_iconst (v := 0) C dX6_hasRoom_41 (by decide) ?_
        cases h
        exact V_zret C B dX6_hasRoom_42 (Or.inl rfl)
      · rw [if_pos c19] at h
        refine V_iconst (v := 1) C dX6_hasRoom_37 (by decide) ?_
        refine V_goto (tgt := 42) C dX6_hasRoom_38 (by decide) ?_
        cases h
        exact V_zret C B dX6_hasRoom_42 (Or.inr rfl)
/-! X6_keep -/
theorem dX6_keep_0 : decode cX6_keep 0 = .ok (.aload_n 0, 1) := by decide +kernel
theorem dX6_keep_1 : decode cX6_keep 1 = .ok (.aload_n 1, 1) := by decide +kernel
theorem dX6_keep_2 : decode cX6_keep 2 = .ok (.getfield 47, 3) := by decide +kernel
theorem dX6_keep_5 : decode cX6_keep 5 = .ok (.iload_n 2, 1) := by decide +kernel
theorem dX6_keep_6 : decode cX6_keep 6 = .ok (.invokevirtual 36, 3) := by decide +kernel
theorem dX6_keep_9 : decode cX6_keep 9 = .ok (.istore_n 3, 1) := by decide +kernel
theorem dX6_keep_10 : decode cX6_keep 10 = .ok (.iload_n 3, 1) := by decide +kernel
theorem dX6_keep_11 : decode cX6_keep 11 = .ok (.ifCond .lt 24, 3) := by decide +kernel
theorem dX6_keep_14 : decode cX6_keep 14 = .ok (.aload_n 0, 1) := by decide +kernel
theorem dX6_keep_15 : decode cX6_keep 15 = .ok (.getfield 24, 3) := by decide +kernel
theorem dX6_keep_18 : decode cX6_keep 18 = .ok (.iload_n 3, 1) := by decide +kernel
theorem dX6_keep_19 : decode cX6_keep 19 = .ok (.aload_n 1, 1) := by decide +kernel
theorem dX6_keep_20 : decode cX6_keep 20 = .ok (.aastore, 1) := by decide +kernel
theorem dX6_keep_21 : decode cX6_keep 21 = .ok (.aload_n 0, 1) := by decide +kernel
theorem dX6_keep_22 : decode cX6_keep 22 = .ok (.getfield 28, 3) := by decide +kernel
theorem dX6_keep_25 : decode cX6_keep 25 = .ok (.aload_n 1, 1) := by decide +kernel
theorem dX6_keep_26 : decode cX6_keep 26 = .ok (.getfield 44, 3) := by decide +kernel
theorem dX6_keep_29 : decode cX6_keep 29 = .ok (.aload_n 1, 1) := by decide +kernel
theorem dX6_keep_30 : decode cX6_keep 30 = .ok (.getfield 50, 3) := by decide +kernel
theorem dX6_keep_33 : decode cX6_keep 33 = .ok (.i2l, 1) := by decide +kernel
theorem dX6_keep_34 : decode cX6_keep 34 = .ok (.lastore, 1) := by decide +kernel
theorem dX6_keep_35 : decode cX6_keep 35 = .ok (.return_, 1) := by decide +kernel
def f_X6_keep (σ : HS) (a0 : Option Nat) (a1 : Option Nat) (a2 : Int32) : Option (Unit × HS) :=
  h_b1 (h_gR σ a1 1 0) fun x1 =>
  h_b1 (h_rcv σ a0 7) fun y6 =>
  h_bd (f_X6_slotFor σ a0 x1 a2) fun r3 s4 =>
  if r3 < 0 then
    some ((), s4)
  else
    h_b1 (h_gR s4 a0 7 3) fun x9 =>
    h_b1 (h_sR s4 x9 103 1 r3 a1) fun s11 =>
    h_b1 (h_gR s11 a0 7 4) fun x13 =>
    h_b1 (h_gI s11 a1 1 1) fun x15 =>
    h_b1 (h_gI s11 a1 1 3) fun x17 =>
    h_b1 (h_sL s11 x13 101 x15 (Int32.toInt64 x17)) fun s19 =>
    some ((), s19)
set_option maxHeartbeats 4000000 in
set_option maxRecDepth 100000 in
theorem m_X6_keep (l : Launch) (D : va_G) (dA : Nat → ClassId) (bs : Nat) {σ σ' : HS} {a0 : Option Nat} {a1 : Option Nat} {a2 : Int32} (h : f_X6_keep σ a0 a1 a2 = some ((), σ')) : MetC l yX6_keep cX6_keep 4 none 3 67 D dA bs [va_rf a0, va_rf a1, .int a2] none σ σ' := by
  refine MetC.of (by decide) (h_avR (h_avR (h_avI h_av0))) (Nat.le_of_ble_eq_true rfl) ?_
  intro p e R s m args below meth c C B hnm
  unfold f_X6_keep at h
  refine V_sub (lv' := [(0, va_rf a0), (1, va_rf a1), (2, .int a2)]) [0, 1, 2] rfl ?_
  refine V_aload_n C 0 dX6_keep_0 rfl rfl ?_
  refine V_aload_n C 1 dX6_keep_1 rfl rfl ?_
  obtain ⟨x1, e2, h⟩ := h_b1_some h
  refine V_getR C fl_RX6_47 dX6_keep_2 e2 ?_
  refine V_iload_n C 2 dX6_keep_5 rfl rfl ?_
  obtain ⟨y6, e7, h⟩ := h_b1_some h
  obtain ⟨r3, s4, e5, h⟩ := h_bd_some h
  refine V_cV (As := [va_rf x1, .int a2]) (rest := []) C mv_RX6_36 (m_X6_slotFor l D dA bs e5) e7 rfl rfl (Nat.le_trans h_w0 (by decide)) (h_fr B (by decide)) (h_lo B (by decide)) dX6_keep_6 ?_
  refine V_istore_n (lv' := [(3, .int r3), (0, va_rf a0), (1, va_rf a1), (2, .int a2)]) C dX6_keep_9 rfl (by decide) rfl ?_
  refine V_iload_n C 0 dX6_keep_10 rfl rfl ?_
  refine V_if_lt (tgt := 35) C dX6_keep_11 (by decide) (fun c8 => ?_) (fun c8 => ?_)
  · rw [if_pos c8] at h
    cases h
    exact V_vret C B dX6_keep_35
  · rw [if_neg c8] at h
    refine V_aload_n C 1 dX6_keep_14 rfl rfl ?_
    obtain ⟨x9, e10, h⟩ := h_b1_some h
    refine V_getR C fl_RX6_24 dX6_keep_15 e10 ?_
    refine V_iload_n C 0 dX6_keep_18 rfl rfl ?_
    refine V_aload_n C 2 dX6_keep_19 rfl rfl ?_
    obtain ⟨s11, e12, h⟩ := h_b1_some h
    refine V_aast C h_at103 dX6_keep_20 e12 ?_
    refine V_aload_n C 1 dX6_keep_21 rfl rfl ?_
    obtain ⟨x13, e14, h⟩ := h_b1_some h
    refine V_getR C fl_RX6_28 dX6_keep_22 e14 ?_
    refine V_aload_n C 2 dX6_keep_25 rfl rfl ?_
    obtain ⟨x15, e16, h⟩ := h_b1_some h
    refine V_getI C fl_RX6_44 dX6_keep_26 e16 ?_
    refine V_aload_n C 2 dX6_keep_29 rfl rfl ?_
    obtain ⟨x17, e18, h⟩ := h_b1_some h
    refine V_getI C fl_RX6_50 dX6_keep_30 e18 ?_
    refine V_i2l C dX6_keep_33 ?_
    obtain ⟨s19, e20, h⟩ := h_b1_some h
    refine V_last C dX6_keep_34 e20 ?_
    cases h
    exact V_vret C B dX6_keep_35
/-! X6_best -/
theorem dX6_best_0 : decode cX6_best 0 = .ok (.aconst_null, 1) := by decide +kernel
theorem dX6_best_1 : decode cX6_best 1 = .ok (.astore_n 3, 1) := by decide +kernel
theorem dX6_best_2 : decode cX6_best 2 = .ok (.iconst 0, 1) := by decide +kernel
theorem dX6_best_3 : decode cX6_best 3 = .ok (.istore 4, 2) := by decide +kernel
theorem dX6_best_5 : decode cX6_best 5 = .ok (.iload 4, 2) := by decide +kernel
theorem dX6_best_7 : decode cX6_best 7 = .ok (.bipush 16, 2) := by decide +kernel
theorem dX6_best_9 : decode cX6_best 9 = .ok (.if_icmp .ge 71, 3) := by decide +kernel
theorem dX6_best_12 : decode cX6_best 12 = .ok (.aload_n 0, 1) := by decide +kernel
theorem dX6_best_13 : decode cX6_best 13 = .ok (.iload 4, 2) := by decide +kernel
theorem dX6_best_15 : decode cX6_best 15 = .ok (.iload_n 2, 1) := by decide +kernel
theorem dX6_best_16 : decode cX6_best 16 = .ok (.invokevirtual 40, 3) := by decide +kernel
theorem dX6_best_19 : decode cX6_best 19 = .ok (.ifCond .eq 55, 3) := by decide +kernel
theorem dX6_best_22 : decode cX6_best 22 = .ok (.aload_n 0, 1) := by decide +kernel
theorem dX6_best_23 : decode cX6_best 23 = .ok (.getfield 24, 3) := by decide +kernel
theorem dX6_best_26 : decode cX6_best 26 = .ok (.iload 4, 2) := by decide +kernel
theorem dX6_best_28 : decode cX6_best 28 = .ok (.aaload, 1) := by decide +kernel
theorem dX6_best_29 : decode cX6_best 29 = .ok (.getfield 47, 3) := by decide +kernel
theorem dX6_best_32 : decode cX6_best 32 = .ok (.iload_n 1, 1) := by decide +kernel
theorem dX6_best_33 : decode cX6_best 33 = .ok (.invokevirtual 53, 3) := by decide +kernel
theorem dX6_best_36 : decode cX6_best 36 = .ok (.ifCond .eq 38, 3) := by decide +kernel
theorem dX6_best_39 : decode cX6_best 39 = .ok (.aload_n 3, 1) := by decide +kernel
theorem dX6_best_40 : decode cX6_best 40 = .ok (.ifnull 26, 3) := by decide +kernel
theorem dX6_best_43 : decode cX6_best 43 = .ok (.aload_n 0, 1) := by decide +kernel
theorem dX6_best_44 : decode cX6_best 44 = .ok (.getfield 24, 3) := by decide +kernel
theorem dX6_best_47 : decode cX6_best 47 = .ok (.iload 4, 2) := by decide +kernel
theorem dX6_best_49 : decode cX6_best 49 = .ok (.aaload, 1) := by decide +kernel
theorem dX6_best_50 : decode cX6_best 50 = .ok (.getfield 47, 3) := by decide +kernel
theorem dX6_best_53 : decode cX6_best 53 = .ok (.getfield 59, 3) := by decide +kernel
theorem dX6_best_56 : decode cX6_best 56 = .ok (.aload_n 3, 1) := by decide +kernel
theorem dX6_best_57 : decode cX6_best 57 = .ok (.getfield 47, 3) := by decide +kernel
theorem dX6_best_60 : decode cX6_best 60 = .ok (.getfield 59, 3) := by decide +kernel
theorem dX6_best_63 : decode cX6_best 63 = .ok (.if_icmp .le 11, 3) := by decide +kernel
theorem dX6_best_66 : decode cX6_best 66 = .ok (.aload_n 0, 1) := by decide +kernel
theorem dX6_best_67 : decode cX6_best 67 = .ok (.getfield 24, 3) := by decide +kernel
theorem dX6_best_70 : decode cX6_best 70 = .ok (.iload 4, 2) := by decide +kernel
theorem dX6_best_72 : decode cX6_best 72 = .ok (.aaload, 1) := by decide +kernel
theorem dX6_best_73 : decode cX6_best 73 = .ok (.astore_n 3, 1) := by decide +kernel
theorem dX6_best_74 : decode cX6_best 74 = .ok (.iinc 4 1, 3) := by decide +kernel
theorem dX6_best_77 : decode cX6_best 77 = .ok (.goto (-72), 3) := by decide +kernel
theorem dX6_best_80 : decode cX6_best 80 = .ok (.aload_n 3, 1) := by decide +kernel
theorem dX6_best_81 : decode cX6_best 81 = .ok (.areturn, 1) := by decide +kernel
def g_X6_best_5 : Nat → HS → Option Nat → Int32 → Int32 → Option Nat → Int32 → Option (Option Nat × HS)
  | 0, _, _, _, _, _, _ => none
  | n + 1, σ, l0, l1, l2, l3, l4 =>
    if 16 ≤ l4 then
      some (l3, σ)
    else
      h_b1 (h_rcv σ l0 7) fun y5 =>
      h_bd (f_X6_isLive σ l0 l4 l2) fun r2 s3 =>
      if r2 = 0 then
        g_X6_best_5 n s3 l0 l1 l2 l3 (l4 + 1)
      else
        h_b1 (h_gR s3 l0 7 3) fun x8 =>
        h_b1 (h_aR s3 x8 103 l4) fun x10 =>
        h_b1 (h_gR s3 x10 1 0) fun x12 =>
        h_b1 (h_rcv s3 x12 5) fun y17 =>
        h_bd (f_X4_has s3 x12 l1) fun r14 s15 =>
        if r14 = 0 then
          g_X6_best_5 n s15 l0 l1 l2 l3 (l4 + 1)
        else
          if l3 = none then
            h_b1 (h_gR s15 l0 7 3) fun x21 =>
            h_b1 (h_aR s15 x21 103 l4) fun x23 =>
            g_X6_best_5 n s15 l0 l1 l2 x23 (l4 + 1)
          else
            h_b1 (h_gR s15 l0 7 3) fun x25 =>
            h_b1 (h_aR s15 x25 103 l4) fun x27 =>
            h_b1 (h_gR s15 x27 1 0) fun x29 =>
            h_b1 (h_gI s15 x29 5 1) fun x31 =>
            h_b1 (h_gR s15 l3 1 0) fun x33 =>
            h_b1 (h_gI s15 x33 5 1) fun x35 =>
            if x31 ≤ x35 then
              g_X6_best_5 n s15 l0 l1 l2 l3 (l4 + 1)
            else
              h_b1 (h_gR s15 l0 7 3) fun x38 =>
              h_b1 (h_aR s15 x38 103 l4) fun x40 =>
              g_X6_best_5 n s15 l0 l1 l2 x40 (l4 + 1)
def f_X6_best (σ : HS) (a0 : Option Nat) (a1 : Int32) (a2 : Int32) : Option (Option Nat × HS) :=
  g_X6_best_5 h_hN σ a0 a1 a2 (none : Option Nat) 0
set_option maxHeartbeats 4000000 in
set_option maxRecDepth 100000 in
theorem w_X6_best_5 {p : Program} {l : Launch} {e : Env} {R : Room} {s : State} {m : MethodId} {args : Array Value} {below : List Frame} {meth : Method} {c : Code} {D : va_G} {dA : Nat → ClassId} {bs : Nat} (C : h_C p m c cX6_best 5 s args RX6 D dA) {σ0 : HS} (B : h_B R s meth σ0 (some (.object RX0)) 2 43) {σ' : HS} {r : Option Nat} : ∀ (n : Nat) (σ : HS) (l0 : Option Nat) (l1 : Int32) (l2 : Int32) (l3 : Option Nat) (l4 : Int32), g_X6_best_5 n σ l0 l1 l2 l3 l4 = some (r, σ') → V p l e R s m args below meth c D dA bs 5 (MQ below (h_Q D dA bs (some (va_rf r)) σ0 σ') args s R.cells R.slots (fun q => bs ≤ q)) σ 5 [(0, va_rf l0), (1, .int l1), (2, .int l2), (3, va_rf l3), (4, .int l4)] [] := by
  intro n
  induction n with
  | zero =>
    intro σ l0 l1 l2 l3 l4 h
    rw [g_X6_best_5] at h
    cases h
  | succ n ih =>
    intro σ l0 l1 l2 l3 l4 h
    rw [g_X6_best_5] at h
    refine V_iload C 4 dX6_best_5 rfl ?_
    refine V_bipush (v := 16) C dX6_best_7 (by decide) ?_
    refine V_icmp_ge (tgt := 80) C dX6_best_9 (by decide) (fun c1 => ?_) (fun c1 => ?_)
    · rw [if_pos c1] at h
      refine V_aload_n C 3 dX6_best_80 rfl rfl ?_
      cases h
      exact V_aret C B dX6_best_81
    · rw [if_neg c1] at h
      refine V_aload_n C 0 dX6_best_12 rfl rfl ?_
      refine V_iload C 4 dX6_best_13 rfl ?_
      refine V_iload_n C 2 dX6_best_15 rfl rfl ?_
      obtain ⟨y5, e6, h⟩ := h_b1_some h
      obtain ⟨r2, s3, e4, h⟩ := h_bd_some h
      refine V_cV (As := [.int l4, .int l2]) (rest := []) C mv_RX6_40 (m_X6_isLive l D dA bs e4) e6 rfl rfl (Nat.le_trans h_w0 (by decide)) (h_fr B (by decide)) (h_lo B (by decide)) dX6_best_16 ?_
      refine V_if_eq (tgt := 74) C dX6_best_19 (by decide) (fun c7 => ?_) (fun c7 => ?_)
      · rw [if_pos c7] at h
        refine V_iinc (v := (l4 + 1)) (lv' := [(4, .int (l4 + 1)), (0, va_rf l0), (1, .int l1), (2, .int l2), (3, va_rf l3)]) C 4 dX6_best_74 rfl rfl (by decide) rfl ?_
        refine V_goto (tgt := 5) C dX6_best_77 (by decide) ?_
        exact V_sub [1, 2, 3, 4, 0] rfl (ih s3 l0 l1 l2 l3 (l4 + 1) h)
      · rw [if_neg c7] at h
        refine V_aload_n C 0 dX6_best_22 rfl rfl ?_
        obtain ⟨x8, e9, h⟩ := h_b1_some h
        refine V_getR C fl_RX6_24 dX6_best_23 e9 ?_
        refine V_iload C 4 dX6_best_26 rfl ?_
        obtain ⟨x10, e11, h⟩ := h_b1_some h
        refine V_aald C h_at103 dX6_best_28 e11 ?_
        obtain ⟨x12, e13, h⟩ := h_b1_some h
        refine V_getR C fl_RX6_47 dX6_best_29 e13 ?_
        refine V_iload_n C 1 dX6_best_32 rfl rfl ?_
        obtain ⟨y17, e18, h⟩ := h_b1_some h
        obtain ⟨r14, s15, e16, h⟩ := h_bd_some h
        refine V_cV (As := [.int l1]) (rest := []) C mv_RX6_53 (m_X4_has l D dA bs e16) e18 rfl rfl (Nat.le_trans h_w0 (by decide)) (h_fr B (by decide)) (h_lo B (by decide)) dX6_best_33 ?_
        refine V_if_eq (tgt := 74) C dX6_best_36 (by decide) (fun c19 => ?_) (fun c19 => ?_)
        · rw [if_pos c19] at h
          refine V_iinc (v := (l4 + 1)) (lv' := [(4, .int (l4 + 1)), (0, va_rf l0), (1, .int l1), (2, .int l2), (3, va_rf l3)]) C 4 dX6_best_74 rfl rfl (by decide) rfl ?_
          refine V_goto (tgt := 5) C dX6_best_77 (by decide) ?_
          exact V_sub [1, 2, 3, 4, 0] rfl (ih s15 l0 l1 l2 l3 (l4 + 1) h)
        · rw [if_neg c19] at h
          refine V_aload_n C 3 dX6_best_39 rfl rfl ?_
          refine V_ifnull (tgt := 66) C dX6_best_40 (by decide) (fun c20 => ?_) (fun c20 => ?_)
          · rw [if_pos c20] at h
            refine V_aload_n C 0 dX6_best_66 rfl rfl ?_
            obtain ⟨x21, e22, h⟩ := h_b1_some h
            refine V_getR C fl_RX6_24 dX6_best_67 e22 ?_
            refine V_iload C 4 dX6_best_70 rfl ?_
            obtain ⟨x23, e24, h⟩ := h_b1_some h
            refine V_aald C h_at103 dX6_best_72 e24 ?_
            refine V_astore_n (lv' := [(3, va_rf x23), (0, va_rf l0), (1, .int l1), (2, .int l2), (4, .int l4)]) C dX6_best_73 rfl (by decide) rfl ?_
            refine V_iinc (v := (l4 + 1)) (lv' := [(4, .int (l4 + 1)), (3, va_rf x23), (0, va_rf l0), (1, .int l1), (2, .int l2)]) C 4 dX6_best_74 rfl rfl (by decide) rfl ?_
            refine V_goto (tgt := 5) C dX6_best_77 (by decide) ?_
            exact V_sub [2, 3, 4, 1, 0] rfl (ih s15 l0 l1 l2 x23 (l4 + 1) h)
          · rw [if_neg c20] at h
            refine V_aload_n C 0 dX6_best_43 rfl rfl ?_
            obtain ⟨x25, e26, h⟩ := h_b1_some h
            refine V_getR C fl_RX6_24 dX6_best_44 e26 ?_
            refine V_iload C 4 dX6_best_47 rfl ?_
            obtain ⟨x27, e28, h⟩ := h_b1_some h
            refine V_aald C h_at103 dX6_best_49 e28 ?_
            obtain ⟨x29, e30, h⟩ := h_b1_some h
            refine V_getR C fl_RX6_47 dX6_best_50 e30 ?_
            obtain ⟨x31, e32, h⟩ := h_b1_some h
            refine V_getI C fl_RX6_59 dX6_best_53 e32 ?_
            refine V_aload_n C 3 dX6_best_56 rfl rfl ?_
            obtain ⟨x33, e34, h⟩ := h_b1_some h
            refine V_getR C fl_RX6_47 dX6_best_57 e34 ?_
            obtain ⟨x35, e36, h⟩ := h_b1_some h
            refine V_getI C fl_RX6_59 dX6_best_60 e36 ?_
            refine V_icmp_le (tgt := 74) C dX6_best_63 (by decide) (fun c37 => ?_) (fun c37 => ?_)
            · rw [if_pos c37] at h
              refine V_iinc (v := (l4 + 1)) (lv' := [(4, .int (l4 + 1)), (0, va_rf l0), (1, .int l1), (2, .int l2), (3, va_rf l3)]) C 4 dX6_best_74 rfl rfl (by decide) rfl ?_
              refine V_goto (tgt := 5) C dX6_best_77 (by decide) ?_
              exact V_sub [1, 2, 3, 4, 0] rfl (ih s15 l0 l1 l2 l3 (l4 + 1) h)
            · rw [if_neg c37] at h
              refine V_aload_n C 0 dX6_best_66 rfl rfl ?_
              obtain ⟨x38, e39, h⟩ := h_b1_some h
              refine V_getR C fl_RX6_24 dX6_best_67 e39 ?_
              refine V_iload C 4 dX6_best_70 rfl ?_
              obtain ⟨x40, e41, h⟩ := h_b1_some h
              refine V_aald C h_at103 dX6_best_72 e41 ?_
              refine V_astore_n (lv' := [(3, va_rf x40), (0, va_rf l0), (1, .int l1), (2, .int l2), (4, .int l4)]) C dX6_best_73 rfl (by decide) rfl ?_
              refine V_iinc (v := (l4 + 1)) (lv' := [(4, .int (l4 + 1)), (3, va_rf x40), (0, va_rf l0), (1, .int l1), (2, .int l2)]) C 4 dX6_best_74 rfl rfl (by decide) rfl ?_
              refine V_goto (tgt := 5) C dX6_best_77 (by decide) ?_
              exact V_sub [2, 3, 4, 1, 0] rfl (ih s15 l0 l1 l2 x40 (l4 + 1) h)
set_option maxHeartbeats 4000000 in
set_option maxRecDepth 100000 in
theorem m_X6_best (l : Launch) (D : va_G) (dA : Nat → ClassId) (bs : Nat) {σ σ' : HS} {a0 : Option Nat} {a1 : Int32} {a2 : Int32} {r : Option Nat} (h : f_X6_best σ a0 a1 a2 = some (r, σ')) : MetC l yX6_best cX6_best 5 (some (.object RX0)) 2 43 D dA bs [va_rf a0, .int a1, .int a2] (some (va_rf r)) σ σ' := by
  refine MetC.of (by decide) (h_avR (h_avI (h_avI h_av0))) (Nat.le_of_ble_eq_true rfl) ?_
  intro p e R s m args below meth c C B hnm
  unfold f_X6_best at h
  refine V_sub (lv' := [(0, va_rf a0), (1, .int a1), (2, .int a2)]) [0, 1, 2] rfl ?_
  refine V_null C dX6_best_0 ?_
  refine V_astore_n (lv' := [(3, va_rf (none : Option Nat)), (0, va_rf a0), (1, .int a1), (2, .int a2)]) C dX6_best_1 rfl (by decide) rfl ?_
  refine V_iconst (v := 0) C dX6_best_2 (by decide) ?_
  refine V_istore (lv' := [(4, .int 0), (3, va_rf (none : Option Nat)), (0, va_rf a0), (1, .int a1), (2, .int a2)]) C dX6_best_3 (by decide) rfl ?_
  exact V_sub [2, 3, 4, 1, 0] rfl (w_X6_best_5 C B h_hN σ a0 a1 a2 (none : Option Nat) 0 h)
/-! X6_hasOtherRound -/
theorem dX6_hasOtherRound_0 : decode cX6_hasOtherRound 0 = .ok (.iconst 0, 1) := by decide +kernel
theorem dX6_hasOtherRound_1 : decode cX6_hasOtherRound 1 = .ok (.istore 5, 2) := by decide +kernel
theorem dX6_hasOtherRound_3 : decode cX6_hasOtherRound 3 = .ok (.iload 5, 2) := by decide +kernel
theorem dX6_hasOtherRound_5 : decode cX6_hasOtherRound 5 = .ok (.bipush 16, 2) := by decide +kernel
theorem dX6_hasOtherRound_7 : decode cX6_hasOtherRound 7 = .ok (.if_icmp .ge 51, 3) := by decide +kernel
theorem dX6_hasOtherRound_10 : decode cX6_hasOtherRound 10 = .ok (.aload_n 0, 1) := by decide +kernel
theorem dX6_hasOtherRound_11 : decode cX6_hasOtherRound 11 = .ok (.iload 5, 2) := by decide +kernel
theorem dX6_hasOtherRound_13 : decode cX6_hasOtherRound 13 = .ok (.iload 4, 2) := by decide +kernel
theorem dX6_hasOtherRound_15 : decode cX6_hasOtherRound 15 = .ok (.invokevirtual 40, 3) := by decide +kernel
theorem dX6_hasOtherRound_18 : decode cX6_hasOtherRound 18 = .ok (.ifCond .eq 34, 3) := by decide +kernel
theorem dX6_hasOtherRound_21 : decode cX6_hasOtherRound 21 = .ok (.aload_n 0, 1) := by decide +kernel
theorem dX6_hasOtherRound_22 : decode cX6_hasOtherRound 22 = .ok (.getfield 24, 3) := by decide +kernel
theorem dX6_hasOtherRound_25 : decode cX6_hasOtherRound 25 = .ok (.iload 5, 2) := by decide +kernel
theorem dX6_hasOtherRound_27 : decode cX6_hasOtherRound 27 = .ok (.aaload, 1) := by decide +kernel
theorem dX6_hasOtherRound_28 : decode cX6_hasOtherRound 28 = .ok (.aload_n 3, 1) := by decide +kernel
theorem dX6_hasOtherRound_29 : decode cX6_hasOtherRound 29 = .ok (.if_acmp .eq 23, 3) := by decide +kernel
theorem dX6_hasOtherRound_32 : decode cX6_hasOtherRound 32 = .ok (.aload_n 0, 1) := by decide +kernel
theorem dX6_hasOtherRound_33 : decode cX6_hasOtherRound 33 = .ok (.getfield 24, 3) := by decide +kernel
theorem dX6_hasOtherRound_36 : decode cX6_hasOtherRound 36 = .ok (.iload 5, 2) := by decide +kernel
theorem dX6_hasOtherRound_38 : decode cX6_hasOtherRound 38 = .ok (.aaload, 1) := by decide +kernel
theorem dX6_hasOtherRound_39 : decode cX6_hasOtherRound 39 = .ok (.getfield 47, 3) := by decide +kernel
theorem dX6_hasOtherRound_42 : decode cX6_hasOtherRound 42 = .ok (.iload_n 1, 1) := by decide +kernel
theorem dX6_hasOtherRound_43 : decode cX6_hasOtherRound 43 = .ok (.iload_n 2, 1) := by decide +kernel
theorem dX6_hasOtherRound_44 : decode cX6_hasOtherRound 44 = .ok (.invokevirtual 62, 3) := by decide +kernel
theorem dX6_hasOtherRound_47 : decode cX6_hasOtherRound 47 = .ok (.ifCond .eq 5, 3) := by decide +kernel
theorem dX6_hasOtherRound_50 : decode cX6_hasOtherRound 50 = .ok (.iconst 1, 1) := by decide +kernel
theorem dX6_hasOtherRound_51 : decode cX6_hasOtherRound 51 = .ok (.ireturn, 1) := by decide +kernel
theorem dX6_hasOtherRound_52 : decode cX6_hasOtherRound 52 = .ok (.iinc 5 1, 3) := by decide +kernel
theorem dX6_hasOtherRound_55 : decode cX6_hasOtherRound 55 = .ok (.goto (-52), 3) := by decide +kernel
theorem dX6_hasOtherRound_58 : decode cX6_hasOtherRound 58 = .ok (.iconst 0, 1) := by decide +kernel
theorem dX6_hasOtherRound_59 : decode cX6_hasOtherRound 59 = .ok (.ireturn, 1) := by decide +kernel
def g_X6_hasOtherRound_3 : Nat → HS → Option Nat → Int32 → Int32 → Option Nat → Int32 → Int32 → Option (Int32 × HS)
  | 0, _, _, _, _, _, _, _ => none
  | n + 1, σ, l0, l1, l2, l3, l4, l5 =>
    if 16 ≤ l5 then
      some (0, σ)
    else
      h_b1 (h_rcv σ l0 7) fun y5 =>
      h_bd (f_X6_isLive σ l0 l5 l4) fun r2 s3 =>
      if r2 = 0 then
        g_X6_hasOtherRound_3 n s3 l0 l1 l2 l3 l4 (l5 + 1)
      else
        h_b1 (h_gR s3 l0 7 3) fun x8 =>
        h_b1 (h_aR s3 x8 103 l5) fun x10 =>
        if x10 = l3 then
          g_X6_hasOtherRound_3 n s3 l0 l1 l2 l3 l4 (l5 + 1)
        else
          h_b1 (h_gR s3 l0 7 3) fun x13 =>
          h_b1 (h_aR s3 x13 103 l5) fun x15 =>
          h_b1 (h_gR s3 x15 1 0) fun x17 =>
          h_b1 (h_rcv s3 x17 5) fun y22 =>
          h_bd (f_X4_liesRound s3 x17 l1 l2) fun r19 s20 =>
          if r19 = 0 then
            g_X6_hasOtherRound_3 n s20 l0 l1 l2 l3 l4 (l5 + 1)
          else
            some (1, s20)
def f_X6_hasOtherRound (σ : HS) (a0 : Option Nat) (a1 : Int32) (a2 : Int32) (a3 : Option Nat) (a4 : Int32) : Option (Int32 × HS) :=
  g_X6_hasOtherRound_3 h_hN σ a0 a1 a2 a3 a4 0
set_option maxHeartbeats 4000000 in
set_option maxRecDepth 100000 in
theorem w_X6_hasOtherRound_3 {p : Program} {l : Launch} {e : Env} {R : Room} {s : State} {m : MethodId} {args : Array Value} {below : List Frame} {meth : Method} {c : Code} {D : va_G} {dA : Nat → ClassId} {bs : Nat} (C : h_C p m c cX6_hasOtherRound 6 s args RX6 D dA) {σ0 : HS} (B : h_B R s meth σ0 (some .boolean) 2 43) {σ' : HS} {r : Int32} : ∀ (n : Nat) (σ : HS) (l0 : Option Nat) (l1 : Int32) (l2 : Int32) (l3 : Option Nat) (l4 : Int32) (l5 : Int32), g_X6_hasOtherRound_3 n σ l0 l1 l2 l3 l4 l5 = some (r, σ') → V p l e R s m args below meth c D dA bs 6 (MQ below (h_Q D dA bs (some (.int r)) σ0 σ') args s R.cells R.slots (fun q => bs ≤ q)) σ 3 [(0, va_rf l0), (1, .int l1), (2, .int l2), (3, va_rf l3), (4, .int l4), (5, .int l5)] [] := by
  intro n
  induction n with
  | zero =>
    intro σ l0 l1 l2 l3 l4 l5 h
    rw [g_X6_hasOtherRound_3] at h
    cases h
  | succ n ih =>
    intro σ l0 l1 l2 l3 l4 l5 h
    rw [g_X6_hasOtherRound_3] at h
    refine V_iload C 5 dX6_hasOtherRound_3 rfl ?_
    refine V_bipush (v := 16) C dX6_hasOtherRound_5 (by decide) ?_
    refine V_icmp_ge (tgt := 58) C dX6_hasOtherRound_7 (by decide) (fun c1 => ?_) (fun c1 => ?_)
    · rw [if_pos c1] at h
      refine V_iconst (v := 0) C dX6_hasOtherRound_58 (by decide) ?_
      cases h
      exact V_zret C B dX6_hasOtherRound_59 (Or.inl rfl)
    · rw [if_neg c1] at h
      refine V_aload_n C 0 dX6_hasOtherRound_10 rfl rfl ?_
      refine V_iload C 5 dX6_hasOtherRound_11 rfl ?_
      refine V_iload C 4 dX6_hasOtherRound_13 rfl ?_
      obtain ⟨y5, e6, h⟩ := h_b1_some h
      obtain ⟨r2, s3, e4, h⟩ := h_bd_some h
      refine V_cV (As := [.int l5, .int l4]) (rest := []) C mv_RX6_40 (m_X6_isLive l D dA bs e4) e6 rfl rfl (Nat.le_trans h_w0 (by decide)) (h_fr B (by decide)) (h_lo B (by decide)) dX6_hasOtherRound_15 ?_
      refine V_if_eq (tgt := 52) C dX6_hasOtherRound_18 (by decide) (fun c7 => ?_) (fun c7 => ?_)
      · rw [if_pos c7] at h
        refine V_iinc (v := (l5 + 1)) (lv' := [(5, .int (l5 + 1)), (0, va_rf l0), (1, .int l1), (2, .int l2), (3, va_rf l3), (4, .int l4)]) C 5 dX6_hasOtherRound_52 rfl rfl (by decide) rfl ?_
        refine V_goto (tgt := 3) C dX6_hasOtherRound_55 (by decide) ?_
        exact V_sub [1, 2, 3, 4, 5, 0] rfl (ih s3 l0 l1 l2 l3 l4 (l5 + 1) h)
      · rw [if_neg c7] at h
        refine V_aload_n C 0 dX6_hasOtherRound_21 rfl rfl ?_
        obtain ⟨x8, e9, h⟩ := h_b1_some h
        refine V_getR C fl_RX6_24 dX6_hasOtherRound_22 e9 ?_
        refine V_iload C 5 dX6_hasOtherRound_25 rfl ?_
        obtain ⟨x10, e11, h⟩ := h_b1_some h
        refine V_aald C h_at103 dX6_hasOtherRound_27 e11 ?_
        refine V_aload_n C 3 dX6_hasOtherRound_28 rfl rfl ?_
        refine V_acmp_eq (tgt := 52) C dX6_hasOtherRound_29 (by decide) (fun c12 => ?_) (fun c12 => ?_)
        · rw [if_pos c12] at h
          refine V_iinc (v := (l5 + 1)) (lv' := [(5, .int (l5 + 1)), (0, va_rf l0), (1, .int l1), (2, .int l2), (3, va_rf l3), (4, .int l4)]) C 5 dX6_hasOtherRound_52 rfl rfl (by decide) rfl ?_
          refine V_goto (tgt := 3) C dX6_hasOtherRound_55 (by decide) ?_
          exact V_sub [1, 2, 3, 4, 5, 0] rfl (ih s3 l0 l1 l2 l3 l4 (l5 + 1) h)
        · rw [if_neg c12] at h
          refine V_aload_n C 0 dX6_hasOtherRound_32 rfl rfl ?_
          obtain ⟨x13, e14, h⟩ := h_b1_some h
          refine V_getR C fl_RX6_24 dX6_hasOtherRound_33 e14 ?_
          refine V_iload C 5 dX6_hasOtherRound_36 rfl ?_
          obtain ⟨x15, e16, h⟩ := h_b1_some h
          refine V_aald C h_at103 dX6_hasOtherRound_38 e16 ?_
          obtain ⟨x17, e18, h⟩ := h_b1_some h
          refine V_getR C fl_RX6_47 dX6_hasOtherRound_39 e18 ?_
          refine V_iload_n C 1 dX6_hasOtherRound_42 rfl rfl ?_
          refine V_iload_n C 2 dX6_hasOtherRound_43 rfl rfl ?_
          obtain ⟨y22, e23, h⟩ := h_b1_some h
          obtain ⟨r19, s20, e21, h⟩ := h_bd_some h
          refine V_cV (As := [.int l1, .int l2]) (rest := []) C mv_RX6_62 (m_X4_liesRound l D dA bs e21) e23 rfl rfl (Nat.le_trans h_w0 (by decide)) (h_fr B (by decide)) (h_lo B (by decide)) dX6_hasOtherRound_44 ?_
          refine V_if_eq (tgt := 52) C dX6_hasOtherRound_47 (by decide) (fun c24 => ?_) (fun c24 => ?_)
          · rw [if_pos c24] at h
            refine V_iinc (v := (l5 + 1)) (lv' := [(5, .int (l5 + 1)), (0, va_rf l0), (1, .int l1), (2, .int l2), (3, va_rf l3), (4, .int l4)]) C 5 dX6_hasOtherRound_52 rfl rfl (by decide) rfl ?_
            refine V_goto (tgt := 3) C dX6_hasOtherRound_55 (by decide) ?_
            exact V_sub [1, 2, 3, 4, 5, 0] rfl (ih s20 l0 l1 l2 l3 l4 (l5 + 1) h)
          · rw [if_neg c24] at h
            refine V_iconst (v := 1) C dX6_hasOtherRound_50 (by decide) ?_
            cases h
            exact V_zret C B dX6_hasOtherRound_51 (Or.inr rfl)
set_option maxHeartbeats 4000000 in
set_option maxRecDepth 100000 in
theorem m_X6_hasOtherRound (l : Launch) (D : va_G) (dA : Nat → ClassId) (bs : Nat) {σ σ' : HS} {a0 : Option Nat} {a1 : Int32} {a2 : Int32} {a3 : Option Nat} {a4 : Int32} {r : Int32} (h : f_X6_hasOtherRound σ a0 a1 a2 a3 a4 = some (r, σ')) : MetC l yX6_hasOtherRound cX6_hasOtherRound 6 (some .boolean) 2 43 D dA bs [va_rf a0, .int a1, .int a2, va_rf a3, .int a4] (some (.int r)) σ σ' := by
  refine MetC.of (by decide) (h_avR (h_avI (h_avI (h_avR (h_avI h_av0))))) (Nat.le_of_ble_eq_true rfl) ?_
  intro p e R s m args below meth c C B hnm
  unfold f_X6_hasOtherRound at h
  refine V_sub (lv' := [(0, va_rf a0), (1, .int a1), (2, .int a2), (3, va_rf a3), (4, .int a4)]) [0, 1, 2, 3, 4] rfl ?_
  refine V_iconst (v := 0) C dX6_hasOtherRound_0 (by decide) ?_
  refine V_istore (lv' := [(5, .int 0), (0, va_rf a0), (1, .int a1), (2, .int a2), (3, va_rf a3), (4, .int a4)]) C dX6_hasOtherRound_1 (by decide) rfl ?_
  exact V_sub [1, 2, 3, 4, 5, 0] rfl (w_X6_hasOtherRound_3 C B h_hN σ a0 a1 a2 a3 a4 0 h)
/-! X6_countEntries -/
theorem dX6_countEntries_0 : decode cX6_countEntries 0 = .ok (.iconst 0, 1) := by decide +kernel
theorem dX6_countEntries_1 : decode cX6_countEntries 1 = .ok (.istore_n 2, 1) := by decide +kernel
theorem dX6_countEntries_2 : decode cX6_countEntries 2 = .ok (.iconst 0, 1) := by decide +kernel
theorem dX6_countEntries_3 : decode cX6_countEntries 3 = .ok (.istore_n 3, 1) := by decide +kernel
theorem dX6_countEntries_4 : decode cX6_countEntries 4 = .ok (.iload_n 3, 1) := by decide +kernel
theorem dX6_countEntries_5 : decode cX6_countEntries 5 = .ok (.bipush 16, 2) := by decide +kernel
theorem dX6_countEntries_7 : decode cX6_countEntries 7 = .ok (.if_icmp .ge 21, 3) := by decide +kernel
theorem dX6_countEntries_10 : decode cX6_countEntries 10 = .ok (.aload_n 0, 1) := by decide +kernel
theorem dX6_countEntries_11 : decode cX6_countEntries 11 = .ok (.iload_n 3, 1) := by decide +kernel
theorem dX6_countEntries_12 : decode cX6_countEntries 12 = .ok (.iload_n 1, 1) := by decide +kernel
theorem dX6_countEntries_13 : decode cX6_countEntries 13 = .ok (.invokevirtual 40, 3) := by decide +kernel
theorem dX6_countEntries_16 : decode cX6_countEntries 16 = .ok (.ifCond .eq 6, 3) := by decide +kernel
theorem dX6_countEntries_19 : decode cX6_countEntries 19 = .ok (.iinc 2 1, 3) := by decide +kernel
theorem dX6_countEntries_22 : decode cX6_countEntries 22 = .ok (.iinc 3 1, 3) := by decide +kernel
theorem dX6_countEntries_25 : decode cX6_countEntries 25 = .ok (.goto (-21), 3) := by decide +kernel
theorem dX6_countEntries_28 : decode cX6_countEntries 28 = .ok (.iload_n 2, 1) := by decide +kernel
theorem dX6_countEntries_29 : decode cX6_countEntries 29 = .ok (.ireturn, 1) := by decide +kernel
def g_X6_countEntries_4 : Nat → HS → Option Nat → Int32 → Int32 → Int32 → Option (Int32 × HS)
  | 0, _, _, _, _, _ => none
  | n + 1, σ, l0, l1, l2, l3 =>
    if 16 ≤ l3 then
      some (l2, σ)
    else
      h_b1 (h_rcv σ l0 7) fun y5 =>
      h_bd (f_X6_isLive σ l0 l3 l1) fun r2 s3 =>
      if r2 = 0 then
        g_X6_countEntries_4 n s3 l0 l1 l2 (l3 + 1)
      else
        g_X6_countEntries_4 n s3 l0 l1 (l2 + 1) (l3 + 1)
def f_X6_countEntries (σ : HS) (a0 : Option Nat) (a1 : Int32) : Option (Int32 × HS) :=
  g_X6_countEntries_4 h_hN σ a0 a1 0 0
set_option maxHeartbeats 4000000 in
set_option maxRecDepth 100000 in
theorem w_X6_countEntries_4 {p : Program} {l : Launch} {e : Env} {R : Room} {s : State} {m : MethodId} {args : Array Value} {below : List Frame} {meth : Method} {c : Code} {D : va_G} {dA : Nat → ClassId} {bs : Nat} (C : h_C p m c cX6_countEntries 4 s args RX6 D dA) {σ0 : HS} (B : h_B R s meth σ0 (some .int) 2 43) {σ' : HS} {r : Int32} : ∀ (n : Nat) (σ : HS) (l0 : Option Nat) (l1 : Int32) (l2 : Int32) (l3 : Int32), g_X6_countEntries_4 n σ l0 l1 l2 l3 = some (r, σ') → V p l e R s m args below meth c D dA bs 4 (MQ below (h_Q D dA bs (some (.int r)) σ0 σ') args s R.cells R.slots (fun q => bs ≤ q)) σ 4 [(0, va_rf l0), (1, .int l1), (2, .int l2), (3, .int l3)] [] := by
  intro n
  induction n with
  | zero =>
    intro σ l0 l1 l2 l3 h
    rw [g_X6_countEntries_4] at h
    cases h
  | succ n ih =>
    intro σ l0 l1 l2 l3 h
    rw [g_X6_countEntries_4] at h
    refine V_iload_n C 3 dX6_countEntries_4 rfl rfl ?_
    refine V_bipush (v := 16) C dX6_countEntries_5 (by decide) ?_
    refine V_icmp_ge (tgt := 28) C dX6_countEntries_7 (by decide) (fun c1 => ?_) (fun c1 => ?_)
    · rw [if_pos c1] at h
      refine V_iload_n C 2 dX6_countEntries_28 rfl rfl ?_
      cases h
      exact V_iret C B dX6_countEntries_29
    · rw [if_neg c1] at h
      refine V_aload_n C 0 dX6_countEntries_10 rfl rfl ?_
      refine V_iload_n C 3 dX6_countEntries_11 rfl rfl ?_
      refine V_iload_n C 1 dX6_countEntries_12 rfl rfl ?_
      obtain ⟨y5, e6, h⟩ := h_b1_some h
      obtain ⟨r2, s3, e4, h⟩ := h_bd_some h
      refine V_cV (As := [.int l3, .int l1]) (rest := []) C mv_RX6_40 (m_X6_isLive l D dA bs e4) e6 rfl rfl (Nat.le_trans h_w0 (by decide)) (h_fr B (by decide)) (h_lo B (by decide)) dX6_countEntries_13 ?_
      refine V_if_eq (tgt := 22) C dX6_countEntries_16 (by decide) (fun c7 => ?_) (fun c7 => ?_)
      · rw [if_pos c7] at h
        refine V_iinc (v := (l3 + 1)) (lv' := [(3, .int (l3 + 1)), (0, va_rf l0), (1, .int l1), (2, .int l2)]) C 3 dX6_countEntries_22 rfl rfl (by decide) rfl ?_
        refine V_goto (tgt := 4) C dX6_countEntries_25 (by decide) ?_
        exact V_sub [1, 2, 3, 0] rfl (ih s3 l0 l1 l2 (l3 + 1) h)
      · rw [if_neg c7] at h
        refine V_iinc (v := (l2 + 1)) (lv' := [(2, .int (l2 + 1)), (0, va_rf l0), (1, .int l1), (3, .int l3)]) C 2 dX6_countEntries_19 rfl rfl (by decide) rfl ?_
        refine V_iinc (v := (l3 + 1)) (lv' := [(3, .int (l3 + 1)), (2, .int (l2 + 1)), (0, va_rf l0), (1, .int l1)]) C 3 dX6_countEntries_22 rfl rfl (by decide) rfl ?_
        refine V_goto (tgt := 4) C dX6_countEntries_25 (by decide) ?_
        exact V_sub [2, 3, 1, 0] rfl (ih s3 l0 l1 (l2 + 1) (l3 + 1) h)
set_option maxHeartbeats 4000000 in
set_option maxRecDepth 100000 in
theorem m_X6_countEntries (l : Launch) (D : va_G) (dA : Nat → ClassId) (bs : Nat) {σ σ' : HS} {a0 : Option Nat} {a1 : Int32} {r : Int32} (h : f_X6_countEntries σ a0 a1 = some (r, σ')) : MetC l yX6_countEntries cX6_countEntries 4 (some .int) 2 43 D dA bs [va_rf a0, .int a1] (some (.int r)) σ σ' := by
  refine MetC.of (by decide) (h_avR (h_avI h_av0)) (Nat.le_of_ble_eq_true rfl) ?_
  intro p e R s m args below meth c C B hnm
  unfold f_X6_countEntries at h
  refine V_sub (lv' := [(0, va_rf a0), (1, .int a1)]) [0, 1] rfl ?_
  refine V_iconst (v := 0) C dX6_countEntries_0 (by decide) ?_
  refine V_istore_n (lv' := [(2, .int 0), (0, va_rf a0), (1, .int a1)]) C dX6_countEntries_1 rfl (by decide) rfl ?_
  refine V_iconst (v := 0) C dX6_countEntries_2 (by decide) ?_
  refine V_istore_n (lv' := [(3, .int 0), (2, .int 0), (0, va_rf a0), (1, .int a1)]) C dX6_countEntries_3 rfl (by decide) rfl ?_
  exact V_sub [2, 3, 1, 0] rfl (w_X6_countEntries_4 C B h_hN σ a0 a1 0 0 h)
/-! X7_init -/
theorem dX7_init_0 : decode cX7_init 0 = .ok (.aload_n 0, 1) := by decide +kernel
theorem dX7_init_1 : decode cX7_init 1 = .ok (.invokespecial 1, 3) := by decide +kernel
theorem dX7_init_4 : decode cX7_init 4 = .ok (.aload_n 0, 1) := by decide +kernel
theorem dX7_init_5 : decode cX7_init 5 = .ok (.iload_n 1, 1) := by decide +kernel
theorem dX7_init_6 : decode cX7_init 6 = .ok (.putfield 7, 3) := by decide +kernel
theorem dX7_init_9 : decode cX7_init 9 = .ok (.aload_n 0, 1) := by decide +kernel
theorem dX7_init_10 : decode cX7_init 10 = .ok (.iconst 4, 1) := by decide +kernel
theorem dX7_init_11 : decode cX7_init 11 = .ok (.anewarray 13, 3) := by decide +kernel
theorem dX7_init_14 : decode cX7_init 14 = .ok (.putfield 15, 3) := by decide +kernel
theorem dX7_init_17 : decode cX7_init 17 = .ok (.aload_n 0, 1) := by decide +kernel
theorem dX7_init_18 : decode cX7_init 18 = .ok (.new 19, 3) := by decide +kernel
theorem dX7_init_21 : decode cX7_init 21 = .ok (.dup, 1) := by decide +kernel
theorem dX7_init_22 : decode cX7_init 22 = .ok (.invokespecial 21, 3) := by decide +kernel
theorem dX7_init_25 : decode cX7_init 25 = .ok (.putfield 22, 3) := by decide +kernel
theorem dX7_init_28 : decode cX7_init 28 = .ok (.return_, 1) := by decide +kernel
def f_X7_init (σ : HS) (a0 : Option Nat) (a1 : Int32) : Option (Unit × HS) :=
  h_b1 a0 fun y1 =>
  h_b1 (h_pI σ a0 8 0 a1) fun s3 =>
  h_bd (h_mkA s3 106 4) fun x5 s6 =>
  h_b1 (h_pR s6 a0 8 2 x5) fun s8 =>
  h_bd (h_mk s8 3 2) fun x10 s11 =>
  h_b1 (h_rcv s11 x10 3) fun y16 =>
  h_bd (f_X2_init s11 x10) fun _ s14 =>
  h_b1 (h_pR s14 a0 8 4 x10) fun s18 =>
  some ((), s18)
set_option maxHeartbeats 4000000 in
set_option maxRecDepth 100000 in
theorem m_X7_init (l : Launch) (D : va_G) (dA : Nat → ClassId) (bs : Nat) {σ σ' : HS} {a0 : Option Nat} {a1 : Int32} (h : f_X7_init σ a0 a1 = some ((), σ')) : MetC l yX7_init cX7_init 2 none 2 32 D dA bs [va_rf a0, .int a1] none σ σ' := by
  refine MetC.of (by decide) (h_avR (h_avI h_av0)) (Nat.le_of_ble_eq_true rfl) ?_
  intro p e R s m args below meth c C B hnm
  unfold f_X7_init at h
  refine V_sub (lv' := [(0, va_rf a0), (1, .int a1)]) [0, 1] rfl ?_
  refine V_aload_n C 0 dX7_init_0 rfl rfl ?_
  obtain ⟨y1, e2, h⟩ := h_b1_some h
  refine V_objInit C ob_RX7 ob_i ob_c dX7_init_1 e2 (h_fr B (by decide)) (h_lo B (by decide)) ?_
  refine V_aload_n C 0 dX7_init_4 rfl rfl ?_
  refine V_iload_n C 1 dX7_init_5 rfl rfl ?_
  obtain ⟨s3, e4, h⟩ := h_b1_some h
  refine V_putI C fw_RX7_7 dX7_init_6 e4 ?_
  refine V_aload_n C 0 dX7_init_9 rfl rfl ?_
  refine V_iconst (v := 4) C dX7_init_10 (by decide) ?_
  obtain ⟨x5, s6, e7, h⟩ := h_bd_some h
  refine V_anew (u := 5) C (by decide) rfl rfl lk_RX7_13 ao_4 dX7_init_11 e7 ?_
  obtain ⟨s8, e9, h⟩ := h_b1_some h
  refine V_putFR C hnm ff_RX7_15 dX7_init_14 e9 ?_
  refine V_aload_n C 0 dX7_init_17 rfl rfl ?_
  obtain ⟨x10, s11, e12, h⟩ := h_bd_some h
  refine V_new C hcl_2 lk_RX7_19 dX7_init_18 e12 ?_
  refine V_dupR C dX7_init_21 ?_
  obtain ⟨y16, e17, h⟩ := h_b1_some h
  obtain ⟨r13, s14, e15, h⟩ := h_bd_some h
  refine V_cI (As := []) (rest := [va_rf x10, va_rf a0]) C mi_RX7_21 (m_X2_init l D dA bs e15) e17 rfl rfl (Nat.le_trans (h_wR (h_wR h_w0)) (by decide)) (h_fr B (by decide)) (h_lo B (by decide)) dX7_init_22 ?_
  obtain ⟨s18, e19, h⟩ := h_b1_some h
  refine V_putFR C hnm ff_RX7_22 dX7_init_25 e19 ?_
  cases h
  exact V_vret C B dX7_init_28
/-! X7_isFull -/
theorem dX7_isFull_0 : decode cX7_isFull 0 = .ok (.aload_n 0, 1) := by decide +kernel
theorem dX7_isFull_1 : decode cX7_isFull 1 = .ok (.getfield 26, 3) := by decide +kernel
theorem dX7_isFull_4 : decode cX7_isFull 4 = .ok (.iconst 4, 1) := by decide +kernel
theorem dX7_isFull_5 : decode cX7_isFull 5 = .ok (.if_icmp .lt 7, 3) := by decide +kernel
theorem dX7_isFull_8 : decode cX7_isFull 8 = .ok (.iconst 1, 1) := by decide +kernel
theorem dX7_isFull_9 : decode cX7_isFull 9 = .ok (.goto 4, 3) := by decide +kernel
theorem dX7_isFull_12 : decode cX7_isFull 12 = .ok (.iconst 0, 1) := by decide +kernel
theorem dX7_isFull_13 : decode cX7_isFull 13 = .ok (.ireturn, 1) := by decide +kernel
def f_X7_isFull (σ : HS) (a0 : Option Nat) : Option (Int32 × HS) :=
  h_b1 (h_gI σ a0 8 3) fun x1 =>
  if x1 < 4 then
    some (0, σ)
  else
    some (1, σ)
set_option maxHeartbeats 4000000 in
set_option maxRecDepth 100000 in
theorem m_X7_isFull (l : Launch) (D : va_G) (dA : Nat → ClassId) (bs : Nat) {σ σ' : HS} {a0 : Option Nat} {r : Int32} (h : f_X7_isFull σ a0 = some (r, σ')) : MetC l yX7_isFull cX7_isFull 1 (some .boolean) 0 0 D dA bs [va_rf a0] (some (.int r)) σ σ' := by
  refine MetC.of (by decide) (h_avR h_av0) (Nat.le_of_ble_eq_true rfl) ?_
  intro p e R s m args below meth c C B hnm
  unfold f_X7_isFull at h
  refine V_sub (lv' := [(0, va_rf a0)]) [0] rfl ?_
  refine V_aload_n C 0 dX7_isFull_0 rfl rfl ?_
  obtain ⟨x1, e2, h⟩ := h_b1_some h
  refine V_getI C fl_RX7_26 dX7_isFull_1 e2 ?_
  refine V_iconst (v := 4) C dX7_isFull_4 (by decide) ?_
  refine V_icmp_lt (tgt := 12) C dX7_isFull_5 (by decide) (fun c3 => ?_) (fun c3 => ?_)
  · rw [if_pos c3] at h
    refine V_iconst (v := 0) C dX7_isFull_12 (by decide) ?_
    cases h
    exact V_zret C B dX7_isFull_13 (Or.inl rfl)
  · rw [if_neg c3] at h
    refine V_iconst (v := 1) C dX7_isFull_8 (by decide) ?_
    refine V_goto (tgt := 13) C dX7_isFull_9 (by decide) ?_
    cases h
    exact V_zret C B dX7_isFull_13 (Or.inr rfl)
/-! X7_add -/
theorem dX7_add_0 : decode cX7_add 0 = .ok (.aload_n 0, 1) := by decide +kernel
theorem dX7_add_1 : decode cX7_add 1 = .ok (.getfield 26, 3) := by decide +kernel
theorem dX7_add_4 : decode cX7_add 4 = .ok (.istore_n 2, 1) := by decide +kernel
theorem dX7_add_5 : decode cX7_add 5 = .ok (.iload_n 2, 1) := by decide +kernel
theorem dX7_add_6 : decode cX7_add 6 = .ok (.iconst 4, 1) := by decide +kernel
theorem dX7_add_7 : decode cX7_add 7 = .ok (.if_icmp .ge 20, 3) := by decide +kernel
theorem dX7_add_10 : decode cX7_add 10 = .ok (.aload_n 0, 1) := by decide +kernel
theorem dX7_add_11 : decode cX7_add 11 = .ok (.getfield 15, 3) := by decide +kernel
theorem dX7_add_14 : decode cX7_add 14 = .ok (.iload_n 2, 1) := by decide +kernel
theorem dX7_add_15 : decode cX7_add 15 = .ok (.aload_n 1, 1) := by decide +kernel
theorem dX7_add_16 : decode cX7_add 16 = .ok (.aastore, 1) := by decide +kernel
theorem dX7_add_17 : decode cX7_add 17 = .ok (.aload_n 0, 1) := by decide +kernel
theorem dX7_add_18 : decode cX7_add 18 = .ok (.dup, 1) := by decide +kernel
theorem dX7_add_19 : decode cX7_add 19 = .ok (.getfield 26, 3) := by decide +kernel
theorem dX7_add_22 : decode cX7_add 22 = .ok (.iconst 1, 1) := by decide +kernel
theorem dX7_add_23 : decode cX7_add 23 = .ok (.iadd, 1) := by decide +kernel
theorem dX7_add_24 : decode cX7_add 24 = .ok (.putfield 26, 3) := by decide +kernel
theorem dX7_add_27 : decode cX7_add 27 = .ok (.iload_n 2, 1) := by decide +kernel
theorem dX7_add_28 : decode cX7_add 28 = .ok (.ireturn, 1) := by decide +kernel
def f_X7_add (σ : HS) (a0 : Option Nat) (a1 : Option Nat) : Option (Int32 × HS) :=
  h_b1 (h_gI σ a0 8 3) fun x1 =>
  if 4 ≤ x1 then
    some (x1, σ)
  else
    h_b1 (h_gR σ a0 8 2) fun x4 =>
    h_b1 (h_sR σ x4 106 5 x1 a1) fun s6 =>
    h_b1 (h_gI s6 a0 8 3) fun x8 =>
    h_b1 (h_pI s6 a0 8 3 (x8 + 1)) fun s10 =>
    some (x1, s10)
set_option maxHeartbeats 4000000 in
set_option maxRecDepth 100000 in
theorem m_X7_add (l : Launch) (D : va_G) (dA : Nat → ClassId) (bs : Nat) {σ σ' : HS} {a0 : Option Nat} {a1 : Option Nat} {r : Int32} (h : f_X7_add σ a0 a1 = some (r, σ')) : MetC l yX7_add cX7_add 3 (some .int) 0 0 D dA bs [va_rf a0, va_rf a1] (some (.int r)) σ σ' := by
  refine MetC.of (by decide) (h_avR (h_avR h_av0)) (Nat.le_of_ble_eq_true rfl) ?_
  intro p e R s m args below meth c C B hnm
  unfold f_X7_add at h
  refine V_sub (lv' := [(0, va_rf a0), (1, va_rf a1)]) [0, 1] rfl ?_
  refine V_aload_n C 0 dX7_add_0 rfl rfl ?_
  obtain ⟨x1, e2, h⟩ := h_b1_some h
  refine V_getI C fl_RX7_26 dX7_add_1 e2 ?_
  refine V_istore_n (lv' := [(2, .int x1), (0, va_rf a0), (1, va_rf a1)]) C dX7_add_4 rfl (by decide) rfl ?_
  refine V_iload_n C 0 dX7_add_5 rfl rfl ?_
  refine V_iconst (v := 4) C dX7_add_6 (by decide) ?_
  refine V_icmp_ge (tgt := 27) C dX7_add_7 (by decide) (fun c3 => ?_) (fun c3 => ?_)
  · rw [if_pos c3] at h
    refine V_iload_n C 0 dX7_add_27 rfl rfl ?_
    cases h
    exact V_iret C B dX7_add_28
  · rw [if_neg c3] at h
    refine V_aload_n C 1 dX7_add_10 rfl rfl ?_
    obtain ⟨x4, e5, h⟩ := h_b1_some h
    refine V_getR C fl_RX7_15 dX7_add_11 e5 ?_
    refine V_iload_n C 0 dX7_add_14 rfl rfl ?_
    refine V_aload_n C 2 dX7_add_15 rfl rfl ?_
    obtain ⟨s6, e7, h⟩ := h_b1_some h
    refine V_aast C h_at106 dX7_add_16 e7 ?_
    refine V_aload_n C 1 dX7_add_17 rfl rfl ?_
    refine V_dupR C dX7_add_18 ?_
    obtain ⟨x8, e9, h⟩ := h_b1_some h
    refine V_getI C fl_RX7_26 dX7_add_19 e9 ?_
    refine V_iconst (v := 1) C dX7_add_22 (by decide) ?_
    refine V_iadd C dX7_add_23 ?_
    obtain ⟨s10, e11, h⟩ := h_b1_some h
    refine V_putI C fw_RX7_26 dX7_add_24 e11 ?_
    refine V_iload_n C 0 dX7_add_27 rfl rfl ?_
    cases h
    exact V_iret C B dX7_add_28
/-! X7_holds -/
theorem dX7_holds_0 : decode cX7_holds 0 = .ok (.iconst 0, 1) := by decide +kernel
theorem dX7_holds_1 : decode cX7_holds 1 = .ok (.istore_n 2, 1) := by decide +kernel
theorem dX7_holds_2 : decode cX7_holds 2 = .ok (.iload_n 2, 1) := by decide +kernel
theorem dX7_holds_3 : decode cX7_holds 3 = .ok (.aload_n 0, 1) := by decide +kernel
theorem dX7_holds_4 : decode cX7_holds 4 = .ok (.getfield 26, 3) := by decide +kernel
theorem dX7_holds_7 : decode cX7_holds 7 = .ok (.if_icmp .ge 24, 3) := by decide +kernel
theorem dX7_holds_10 : decode cX7_holds 10 = .ok (.aload_n 0, 1) := by decide +kernel
theorem dX7_holds_11 : decode cX7_holds 11 = .ok (.getfield 15, 3) := by decide +kernel
theorem dX7_holds_14 : decode cX7_holds 14 = .ok (.iload_n 2, 1) := by decide +kernel
theorem dX7_holds_15 : decode cX7_holds 15 = .ok (.aaload, 1) := by decide +kernel
theorem dX7_holds_16 : decode cX7_holds 16 = .ok (.aload_n 1, 1) := by decide +kernel
theorem dX7_holds_17 : decode cX7_holds 17 = .ok (.invokevirtual 29, 3) := by decide +kernel
theorem dX7_holds_20 : decode cX7_holds 20 = .ok (.ifCond .eq 5, 3) := by decide +kernel
theorem dX7_holds_23 : decode cX7_holds 23 = .ok (.iconst 1, 1) := by decide +kernel
theorem dX7_holds_24 : decode cX7_holds 24 = .ok (.ireturn, 1) := by decide +kernel
theorem dX7_holds_25 : decode cX7_holds 25 = .ok (.iinc 2 1, 3) := by decide +kernel
theorem dX7_holds_28 : decode cX7_holds 28 = .ok (.goto (-26), 3) := by decide +kernel
theorem dX7_holds_31 : decode cX7_holds 31 = .ok (.iconst 0, 1) := by decide +kernel
theorem dX7_holds_32 : decode cX7_holds 32 = .ok (.ireturn, 1) := by decide +kernel
def g_X7_holds_2 : Nat → HS → Option Nat → Option Nat → Int32 → Option (Int32 × HS)
  | 0, _, _, _, _ => none
  | n + 1, σ, l0, l1, l2 =>
    h_b1 (h_gI σ l0 8 3) fun x1 =>
    if x1 ≤ l2 then
      some (0, σ)
    else
      h_b1 (h_gR σ l0 8 2) fun x4 =>
      h_b1 (h_aR σ x4 106 l2) fun x6 =>
      h_b1 (h_rcv σ x6 5) fun y11 =>
      h_bd (f_X4_same σ x6 l1) fun r8 s9 =>
      if r8 = 0 then
        g_X7_holds_2 n s9 l0 l1 (l2 + 1)
      else
        some (1, s9)
def f_X7_holds (σ : HS) (a0 : Option Nat) (a1 : Option Nat) : Option (Int32 × HS) :=
  g_X7_holds_2 h_hN σ a0 a1 0
set_option maxHeartbeats 4000000 in
set_option maxRecDepth 100000 in
theorem w_X7_holds_2 {p : Program} {l : Launch} {e : Env} {R : Room} {s : State} {m : MethodId} {args : Array Value} {below : List Frame} {meth : Method} {c : Code} {D : va_G} {dA : Nat → ClassId} {bs : Nat} (C : h_C p m c cX7_holds 3 s args RX7 D dA) {σ0 : HS} (B : h_B R s meth σ0 (some .boolean) 1 21) {σ' : HS} {r : Int32} : ∀ (n : Nat) (σ : HS) (l0 : Option Nat) (l1 : Option Nat) (l2 : Int32), g_X7_holds_2 n σ l0 l1 l2 = some (r, σ') → V p l e R s m args below meth c D dA bs 3 (MQ below (h_Q D dA bs (some (.int r)) σ0 σ') args s R.cells R.slots (fun q => bs ≤ q)) σ 2 [(0, va_rf l0), (1, va_rf l1), (2, .int l2)] [] := by
  intro n
  induction n with
  | zero =>
    intro σ l0 l1 l2 h
    rw [g_X7_holds_2] at h
    cases h
  | succ n ih =>
    intro σ l0 l1 l2 h
    rw [g_X7_holds_2] at h
    refine V_iload_n C 2 dX7_holds_2 rfl rfl ?_
    refine V_aload_n C 0 dX7_holds_3 rfl rfl ?_
    obtain ⟨x1, e2, h⟩ := h_b1_some h
    refine V_getI C fl_RX7_26 dX7_holds_4 e2 ?_
    refine V_icmp_ge (tgt := 31) C dX7_holds_7 (by decide) (fun c3 => ?_) (fun c3 => ?_)
    · rw [if_pos c3] at h
      refine V_iconst (v := 0) C dX7_holds_31 (by decide) ?_
      cases h
      exact V_zret C B dX7_holds_32 (Or.inl rfl)
    · rw [if_neg c3] at h
      refine V_aload_n C 0 dX7_holds_10 rfl rfl ?_
      obtain ⟨x4, e5, h⟩ := h_b1_some h
      refine V_getR C fl_RX7_15 dX7_holds_11 e5 ?_
      refine V_iload_n C 2 dX7_holds_14 rfl rfl ?_
      obtain ⟨x6, e7, h⟩ := h_b1_some h
      refine V_aald C h_at106 dX7_holds_15 e7 ?_
      refine V_aload_n C 1 dX7_holds_16 rfl rfl ?_
      obtain ⟨y11, e12, h⟩ := h_b1_some h
      obtain ⟨r8, s9, e10, h⟩ := h_bd_some h
      refine V_cV (As := [va_rf l1]) (rest := []) C mv_RX7_29 (m_X4_same l D dA bs e10) e12 rfl rfl (Nat.le_trans h_w0 (by decide)) (h_fr B (by decide)) (h_lo B (by decide)) dX7_holds_17 ?_
      refine V_if_eq (tgt := 25) C dX7_holds_20 (by decide) (fun c13 => ?_) (fun c13 => ?_)
      · rw [if_pos c13] at h
        refine V_iinc (v := (l2 + 1)) (lv' := [(2, .int (l2 + 1)), (0, va_rf l0), (1, va_rf l1)]) C 2 dX7_holds_25 rfl rfl (by decide) rfl ?_
        refine V_goto (tgt := 2) C dX7_holds_28 (by decide) ?_
        exact V_sub [1, 2, 0] rfl (ih s9 l0 l1 (l2 + 1) h)
      · rw [if_neg c13] at h
        refine V_iconst (v := 1) C dX7_holds_23 (by decide) ?_
        cases h
        exact V_zret C B dX7_holds_24 (Or.inr rfl)
set_option maxHeartbeats 4000000 in
set_option maxRecDepth 100000 in
theorem m_X7_holds (l : Launch) (D : va_G) (dA : Nat → ClassId) (bs : Nat) {σ σ' : HS} {a0 : Option Nat} {a1 : Option Nat} {r : Int32} (h : f_X7_holds σ a0 a1 = some (r, σ')) : MetC l yX7_holds cX7_holds 3 (some .boolean) 1 21 D dA bs [va_rf a0, va_rf a1] (some (.int r)) σ σ' := by
  refine MetC.of (by decide) (h_avR (h_avR h_av0)) (Nat.le_of_ble_eq_true rfl) ?_
  intro p e R s m args below meth c C B hnm
  unfold f_X7_holds at h
  refine V_sub (lv' := [(0, va_rf a0), (1, va_rf a1)]) [0, 1] rfl ?_
  refine V_iconst (v := 0) C dX7_holds_0 (by decide) ?_
  refine V_istore_n (lv' := [(2, .int 0), (0, va_rf a0), (1, va_rf a1)]) C dX7_holds_1 rfl (by decide) rfl ?_
  exact V_sub [1, 2, 0] rfl (w_X7_holds_2 C B h_hN σ a0 a1 0 h)
/-! X7_hasEndpoint -/
theorem dX7_hasEndpoint_0 : decode cX7_hasEndpoint 0 = .ok (.iconst 0, 1) := by decide +kernel
theorem dX7_hasEndpoint_1 : decode cX7_hasEndpoint 1 = .ok (.istore_n 2, 1) := by decide +kernel
theorem dX7_hasEndpoint_2 : decode cX7_hasEndpoint 2 = .ok (.iload_n 2, 1) := by decide +kernel
theorem dX7_hasEndpoint_3 : decode cX7_hasEndpoint 3 = .ok (.aload_n 0, 1) := by decide +kernel
theorem dX7_hasEndpoint_4 : decode cX7_hasEndpoint 4 = .ok (.getfield 26, 3) := by decide +kernel
theorem dX7_hasEndpoint_7 : decode cX7_hasEndpoint 7 = .ok (.if_icmp .ge 24, 3) := by decide +kernel
theorem dX7_hasEndpoint_10 : decode cX7_hasEndpoint 10 = .ok (.aload_n 0, 1) := by decide +kernel
theorem dX7_hasEndpoint_11 : decode cX7_hasEndpoint 11 = .ok (.getfield 15, 3) := by decide +kernel
theorem dX7_hasEndpoint_14 : decode cX7_hasEndpoint 14 = .ok (.iload_n 2, 1) := by decide +kernel
theorem dX7_hasEndpoint_15 : decode cX7_hasEndpoint 15 = .ok (.aaload, 1) := by decide +kernel
theorem dX7_hasEndpoint_16 : decode cX7_hasEndpoint 16 = .ok (.iload_n 1, 1) := by decide +kernel
theorem dX7_hasEndpoint_17 : decode cX7_hasEndpoint 17 = .ok (.invokevirtual 33, 3) := by decide +kernel
theorem dX7_hasEndpoint_20 : decode cX7_hasEndpoint 20 = .ok (.ifCond .eq 5, 3) := by decide +kernel
theorem dX7_hasEndpoint_23 : decode cX7_hasEndpoint 23 = .ok (.iconst 1, 1) := by decide +kernel
theorem dX7_hasEndpoint_24 : decode cX7_hasEndpoint 24 = .ok (.ireturn, 1) := by decide +kernel
theorem dX7_hasEndpoint_25 : decode cX7_hasEndpoint 25 = .ok (.iinc 2 1, 3) := by decide +kernel
theorem dX7_hasEndpoint_28 : decode cX7_hasEndpoint 28 = .ok (.goto (-26), 3) := by decide +kernel
theorem dX7_hasEndpoint_31 : decode cX7_hasEndpoint 31 = .ok (.iconst 0, 1) := by decide +kernel
theorem dX7_hasEndpoint_32 : decode cX7_hasEndpoint 32 = .ok (.ireturn, 1) := by decide +kernel
def g_X7_hasEndpoint_2 : Nat → HS → Option Nat → Int32 → Int32 → Option (Int32 × HS)
  | 0, _, _, _, _ => none
  | n + 1, σ, l0, l1, l2 =>
    h_b1 (h_gI σ l0 8 3) fun x1 =>
    if x1 ≤ l2 then
      some (0, σ)
    else
      h_b1 (h_gR σ l0 8 2) fun x4 =>
      h_b1 (h_aR σ x4 106 l2) fun x6 =>
      h_b1 (h_rcv σ x6 5) fun y11 =>
      h_bd (f_X4_has σ x6 l1) fun r8 s9 =>
      if r8 = 0 then
        g_X7_hasEndpoint_2 n s9 l0 l1 (l2 + 1)
      else
        some (1, s9)
def f_X7_hasEndpoint (σ : HS) (a0 : Option Nat) (a1 : Int32) : Option (Int32 × HS) :=
  g_X7_hasEndpoint_2 h_hN σ a0 a1 0
set_option maxHeartbeats 4000000 in
set_option maxRecDepth 100000 in
theorem w_X7_hasEndpoint_2 {p : Program} {l : Launch} {e : Env} {R : Room} {s : State} {m : MethodId} {args : Array Value} {below : List Frame} {meth : Method} {c : Code} {D : va_G} {dA : Nat → ClassId} {bs : Nat} (C : h_C p m c cX7_hasEndpoint 3 s args RX7 D dA) {σ0 : HS} (B : h_B R s meth σ0 (some .boolean) 2 41) {σ' : HS} {r : Int32} : ∀ (n : Nat) (σ : HS) (l0 : Option Nat) (l1 : Int32) (l2 : Int32), g_X7_hasEndpoint_2 n σ l0 l1 l2 = some (r, σ') → V p l e R s m args below meth c D dA bs 3 (MQ below (h_Q D dA bs (some (.int r)) σ0 σ') args s R.cells R.slots (fun q => bs ≤ q)) σ 2 [(0, va_rf l0), (1, .int l1), (2, .int l2)] [] := by
  intro n
  induction n with
  | zero =>
    intro σ l0 l1 l2 h
    rw [g_X7_hasEndpoint_2] at h
    cases h
  | succ n ih =>
    intro σ l0 l1 l2 h
    rw [g_X7_hasEndpoint_2] at h
    refine V_iload_n C 2 dX7_hasEndpoint_2 rfl rfl ?_
    refine V_aload_n C 0 dX7_hasEndpoint_3 rfl rfl ?_
    obtain ⟨x1, e2, h⟩ := h_b1_some h
    refine V_getI C fl_RX7_26 dX7_hasEndpoint_4 e2 ?_
    refine V_icmp_ge (tgt := 31) C dX7_hasEndpoint_7 (by decide) (fun c3 => ?_) (fun c3 => ?_)
    · rw [if_pos c3] at h
      refine V_iconst (v := 0) C dX7_hasEndpoint_31 (by decide) ?_
      cases h
      exact V_zret C B dX7_hasEndpoint_32 (Or.inl rfl)
    · rw [if_neg c3] at h
      refine V_aload_n C 0 dX7_hasEndpoint_10 rfl rfl ?_
      obtain ⟨x4, e5, h⟩ := h_b1_some h
      refine V_getR C fl_RX7_15 dX7_hasEndpoint_11 e5 ?_
      refine V_iload_n C 2 dX7_hasEndpoint_14 rfl rfl ?_
      obtain ⟨x6, e7, h⟩ := h_b1_some h
      refine V_aald C h_at106 dX7_hasEndpoint_15 e7 ?_
      refine V_iload_n C 1 dX7_hasEndpoint_16 rfl rfl ?_
      obtain ⟨y11, e12, h⟩ := h_b1_some h
      obtain ⟨r8, s9, e10, h⟩ := h_bd_some h
      refine V_cV (As := [.int l1]) (rest := []) C mv_RX7_33 (m_X4_has l D dA bs e10) e12 rfl rfl (Nat.le_trans h_w0 (by decide)) (h_fr B (by decide)) (h_lo B (by decide)) dX7_hasEndpoint_17 ?_
      refine V_if_eq (tgt := 25) C dX7_hasEndpoint_20 (by decide) (fun c13 => ?_) (fun c13 => ?_)
      · rw [if_pos c13] at h
        refine V_iinc (v := (l2 + 1)) (lv' := [(2, .int (l2 + 1)), (0, va_rf l0), (1, .int l1)]) C 2 dX7_hasEndpoint_25 rfl rfl (by decide) rfl ?_
        refine V_goto (tgt := 2) C dX7_hasEndpoint_28 (by decide) ?_
        exact V_sub [1, 2, 0] rfl (ih s9 l0 l1 (l2 + 1) h)
      · rw [if_neg c13] at h
        refine V_iconst (v := 1) C dX7_hasEndpoint_23 (by decide) ?_
        cases h
        exact V_zret C B dX7_hasEndpoint_24 (Or.inr rfl)
set_option maxHeartbeats 4000000 in
set_option maxRecDepth 100000 in
theorem m_X7_hasEndpoint (l : Launch) (D : va_G) (dA : Nat → ClassId) (bs : Nat) {σ σ' : HS} {a0 : Option Nat} {a1 : Int32} {r : Int32} (h : f_X7_hasEndpoint σ a0 a1 = some (r, σ')) : MetC l yX7_hasEndpoint cX7_hasEndpoint 3 (some .boolean) 2 41 D dA bs [va_rf a0, .int a1] (some (.int r)) σ σ' := by
  refine MetC.of (by decide) (h_avR (h_avI h_av0)) (Nat.le_of_ble_eq_true rfl) ?_
  intro p e R s m args below meth c C B hnm
  unfold f_X7_hasEndpoint at h
  refine V_sub (lv' := [(0, va_rf a0), (1, .int a1)]) [0, 1] rfl ?_
  refine V_iconst (v := 0) C dX7_hasEndpoint_0 (by decide) ?_
  refine V_istore_n (lv' := [(2, .int 0), (0, va_rf a0), (1, .int a1)]) C dX7_hasEndpoint_1 rfl (by decide) rfl ?_
  exact V_sub [1, 2, 0] rfl (w_X7_hasEndpoint_2 C B h_hN σ a0 a1 0 h)
/-! X8_init -/
theorem dX8_init_0 : decode cX8_init 0 = .ok (.aload_n 0, 1) := by decide +kernel
theorem dX8_init_1 : decode cX8_init 1 = .ok (.invokespecial 3, 3) := by decide +kernel
theorem dX8_init_4 : decode cX8_init 4 = .ok (.aload_n 0, 1) := by decide +kernel
theorem dX8_init_5 : decode cX8_init 5 = .ok (.bipush 8, 2) := by decide +kernel
theorem dX8_init_7 : decode cX8_init 7 = .ok (.anewarray 9, 3) := by decide +kernel
theorem dX8_init_10 : decode cX8_init 10 = .ok (.putfield 11, 3) := by decide +kernel
theorem dX8_init_13 : decode cX8_init 13 = .ok (.aload_n 0, 1) := by decide +kernel
theorem dX8_init_14 : decode cX8_init 14 = .ok (.getfield 11, 3) := by decide +kernel
theorem dX8_init_17 : decode cX8_init 17 = .ok (.iconst 0, 1) := by decide +kernel
theorem dX8_init_18 : decode cX8_init 18 = .ok (.new 9, 3) := by decide +kernel
theorem dX8_init_21 : decode cX8_init 21 = .ok (.dup, 1) := by decide +kernel
theorem dX8_init_22 : decode cX8_init 22 = .ok (.iconst 0, 1) := by decide +kernel
theorem dX8_init_23 : decode cX8_init 23 = .ok (.iconst (-1), 1) := by decide +kernel
theorem dX8_init_24 : decode cX8_init 24 = .ok (.new 17, 3) := by decide +kernel
theorem dX8_init_27 : decode cX8_init 27 = .ok (.dup, 1) := by decide +kernel
theorem dX8_init_28 : decode cX8_init 28 = .ok (.iconst 0, 1) := by decide +kernel
theorem dX8_init_29 : decode cX8_init 29 = .ok (.iconst 0, 1) := by decide +kernel
theorem dX8_init_30 : decode cX8_init 30 = .ok (.invokespecial 19, 3) := by decide +kernel
theorem dX8_init_33 : decode cX8_init 33 = .ok (.invokespecial 22, 3) := by decide +kernel
theorem dX8_init_36 : decode cX8_init 36 = .ok (.aastore, 1) := by decide +kernel
theorem dX8_init_37 : decode cX8_init 37 = .ok (.return_, 1) := by decide +kernel
def f_X8_init (σ : HS) (a0 : Option Nat) : Option (Unit × HS) :=
  h_b1 a0 fun y1 =>
  h_bd (h_mkA σ 107 8) fun x3 s4 =>
  h_b1 (h_pR s4 a0 9 0 x3) fun s6 =>
  h_b1 (h_gR s6 a0 9 0) fun x8 =>
  h_bd (h_mk s6 7 5) fun x10 s11 =>
  h_bd (h_mk s11 5 2) fun x13 s14 =>
  h_b1 (h_rcv s14 x13 5) fun y19 =>
  h_bd (f_X4_init s14 x13 0 0) fun _ s17 =>
  h_b1 (h_rcv s17 x10 7) fun y24 =>
  h_bd (f_X6_init s17 x10 0 (-1) x13) fun _ s22 =>
  h_b1 (h_sR s22 x8 107 7 0 x10) fun s26 =>
  some ((), s26)
set_option maxHeartbeats 4000000 in
set_option maxRecDepth 100000 in
theorem m_X8_init (l : Launch) (D : va_G) (dA : Nat → ClassId) (bs : Nat) {σ σ' : HS} {a0 : Option Nat} (h : f_X8_init σ a0 = some ((), σ')) : MetC l yX8_init cX8_init 1 none 2 36 D dA bs [va_rf a0] none σ σ' := by
  refine MetC.of (by decide) (h_avR h_av0) (Nat.le_of_ble_eq_true rfl) ?_
  intro p e R s m args below meth c C B hnm
  unfold f_X8_init at h
  refine V_sub (lv' := [(0, va_rf a0)]) [0] rfl ?_
  refine V_aload_n C 0 dX8_init_0 rfl rfl ?_
  obtain ⟨y1, e2, h⟩ := h_b1_some h
  refine V_objInit C ob_RX8 ob_i ob_c dX8_init_1 e2 (h_fr B (by decide)) (h_lo B (by decide)) ?_
  refine V_aload_n C 0 dX8_init_4 rfl rfl ?_
  refine V_bipush (v := 8) C dX8_init_5 (by decide) ?_
  obtain ⟨x3, s4, e5, h⟩ := h_bd_some h
  refine V_anew (u := 7) C (by decide) rfl rfl lk_RX8_9 ao_6 dX8_init_7 e5 ?_
  obtain ⟨s6, e7, h⟩ := h_b1_some h
  refine V_putFR C hnm ff_RX8_11 dX8_init_10 e7 ?_
  refine V_aload_n C 0 dX8_init_13 rfl rfl ?_
  obtain ⟨x8, e9, h⟩ := h_b1_some h
  refine V_getR C fl_RX8_11 dX8_init_14 e9 ?_
  refine V_iconst (v := 0) C dX8_init_17 (by decide) ?_
  obtain ⟨x10, s11, e12, h⟩ := h_bd_some h
  refine V_new C hcl_6 lk_RX8_9 dX8_init_18 e12 ?_
  refine V_dupR C dX8_init_21 ?_
  refine V_iconst (v := 0) C dX8_init_22 (by decide) ?_
  refine V_iconst (v := (-1)) C dX8_init_23 (by decide) ?_
  obtain ⟨x13, s14, e15, h⟩ := h_bd_some h
  refine V_new C hcl_4 lk_RX8_17 dX8_init_24 e15 ?_
  refine V_dupR C dX8_init_27 ?_
  refine V_iconst (v := 0) C dX8_init_28 (by decide) ?_
  refine V_iconst (v := 0) C dX8_init_29 (by decide) ?_
  obtain ⟨y19, e20, h⟩ := h_b1_some h
  obtain ⟨r16, s17, e18, h⟩ := h_bd_some h
  refine V_cI (As := [.int 0, .int 0]) (rest := [va_rf x13, .int (-1), .int 0, va_rf x10, va_rf x10, .int 0, va_rf x8]) C mi_RX8_19 (m_X4_init l D dA bs e18) e20 rfl rfl (Nat.le_trans (h_wR (h_wI (h_wI (h_wR (h_wR (h_wI (h_wR h_w0))))))) (by decide)) (h_fr B (by decide)) (h_lo B (by decide)) dX8_init_30 ?_
  obtain ⟨y24, e25, h⟩ := h_b1_some h
  obtain ⟨r21, s22, e23, h⟩ := h_bd_some h
  refine V_cI (As := [.int 0, .int (-1), va_rf x13]) (rest := [va_rf x10, .int 0, va_rf x8]) C mi_RX8_22 (m_X6_init l D dA bs e23) e25 rfl rfl (Nat.le_trans (h_wR (h_wI (h_wR h_w0))) (by decide)) (h_fr B (by decide)) (h_lo B (by decide)) dX8_init_33 ?_
  obtain ⟨s26, e27, h⟩ := h_b1_some h
  refine V_aast C h_at107 dX8_init_36 e27 ?_
  cases h
  exact V_vret C B dX8_init_37
