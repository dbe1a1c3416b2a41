/-! X10_arrive -/
theorem dX10_arrive_0 : decode cX10_arrive 0 = .ok (.aload_n 0, 1) := by decide +kernel
theorem dX10_arrive_1 : decode cX10_arrive 1 = .ok (.getfield 112, 3) := by decide +kernel
theorem dX10_arrive_4 : decode cX10_arrive 4 = .ok (.bipush 6, 2) := by decide +kernel
theorem dX10_arrive_6 : decode cX10_arrive 6 = .ok (.iaload, 1) := by decide +kernel
theorem dX10_arrive_7 : decode cX10_arrive 7 = .ok (.ifCond .ne 10, 3) := by decide +kernel
theorem dX10_arrive_10 : decode cX10_arrive 10 = .ok (.aload_n 0, 1) := by decide +kernel
theorem dX10_arrive_11 : decode cX10_arrive 11 = .ok (.invokevirtual 187, 3) := by decide +kernel
theorem dX10_arrive_14 : decode cX10_arrive 14 = .ok (.goto 94, 3) := by decide +kernel
theorem dX10_arrive_17 : decode cX10_arrive 17 = .ok (.aload_n 0, 1) := by decide +kernel
theorem dX10_arrive_18 : decode cX10_arrive 18 = .ok (.getfield 112, 3) := by decide +kernel
theorem dX10_arrive_21 : decode cX10_arrive 21 = .ok (.bipush 6, 2) := by decide +kernel
theorem dX10_arrive_23 : decode cX10_arrive 23 = .ok (.iaload, 1) := by decide +kernel
theorem dX10_arrive_24 : decode cX10_arrive 24 = .ok (.iconst 1, 1) := by decide +kernel
theorem dX10_arrive_25 : decode cX10_arrive 25 = .ok (.if_icmp .ne 10, 3) := by decide +kernel
theorem dX10_arrive_28 : decode cX10_arrive 28 = .ok (.aload_n 0, 1) := by decide +kernel
theorem dX10_arrive_29 : decode cX10_arrive 29 = .ok (.invokevirtual 190, 3) := by decide +kernel
theorem dX10_arrive_32 : decode cX10_arrive 32 = .ok (.goto 76, 3) := by decide +kernel
theorem dX10_arrive_35 : decode cX10_arrive 35 = .ok (.aload_n 0, 1) := by decide +kernel
theorem dX10_arrive_36 : decode cX10_arrive 36 = .ok (.getfield 112, 3) := by decide +kernel
theorem dX10_arrive_39 : decode cX10_arrive 39 = .ok (.bipush 6, 2) := by decide +kernel
theorem dX10_arrive_41 : decode cX10_arrive 41 = .ok (.iaload, 1) := by decide +kernel
theorem dX10_arrive_42 : decode cX10_arrive 42 = .ok (.iconst 2, 1) := by decide +kernel
theorem dX10_arrive_43 : decode cX10_arrive 43 = .ok (.if_icmp .ne 10, 3) := by decide +kernel
theorem dX10_arrive_46 : decode cX10_arrive 46 = .ok (.aload_n 0, 1) := by decide +kernel
theorem dX10_arrive_47 : decode cX10_arrive 47 = .ok (.invokevirtual 193, 3) := by decide +kernel
theorem dX10_arrive_50 : decode cX10_arrive 50 = .ok (.goto 58, 3) := by decide +kernel
theorem dX10_arrive_53 : decode cX10_arrive 53 = .ok (.aload_n 0, 1) := by decide +kernel
theorem dX10_arrive_54 : decode cX10_arrive 54 = .ok (.getfield 112, 3) := by decide +kernel
theorem dX10_arrive_57 : decode cX10_arrive 57 = .ok (.bipush 6, 2) := by decide +kernel
theorem dX10_arrive_59 : decode cX10_arrive 59 = .ok (.iaload, 1) := by decide +kernel
theorem dX10_arrive_60 : decode cX10_arrive 60 = .ok (.iconst 3, 1) := by decide +kernel
theorem dX10_arrive_61 : decode cX10_arrive 61 = .ok (.if_icmp .ne 10, 3) := by decide +kernel
theorem dX10_arrive_64 : decode cX10_arrive 64 = .ok (.aload_n 0, 1) := by decide +kernel
theorem dX10_arrive_65 : decode cX10_arrive 65 = .ok (.invokevirtual 196, 3) := by decide +kernel
theorem dX10_arrive_68 : decode cX10_arrive 68 = .ok (.goto 40, 3) := by decide +kernel
theorem dX10_arrive_71 : decode cX10_arrive 71 = .ok (.aload_n 0, 1) := by decide +kernel
theorem dX10_arrive_72 : decode cX10_arrive 72 = .ok (.aload_n 0, 1) := by decide +kernel
theorem dX10_arrive_73 : decode cX10_arrive 73 = .ok (.getfield 112, 3) := by decide +kernel
theorem dX10_arrive_76 : decode cX10_arrive 76 = .ok (.bipush 7, 2) := by decide +kernel
theorem dX10_arrive_78 : decode cX10_arrive 78 = .ok (.iaload, 1) := by decide +kernel
theorem dX10_arrive_79 : decode cX10_arrive 79 = .ok (.invokevirtual 147, 3) := by decide +kernel
theorem dX10_arrive_82 : decode cX10_arrive 82 = .ok (.ifCond .eq 26, 3) := by decide +kernel
theorem dX10_arrive_85 : decode cX10_arrive 85 = .ok (.aload_n 0, 1) := by decide +kernel
theorem dX10_arrive_86 : decode cX10_arrive 86 = .ok (.aload_n 0, 1) := by decide +kernel
theorem dX10_arrive_87 : decode cX10_arrive 87 = .ok (.getfield 112, 3) := by decide +kernel
theorem dX10_arrive_90 : decode cX10_arrive 90 = .ok (.bipush 7, 2) := by decide +kernel
theorem dX10_arrive_92 : decode cX10_arrive 92 = .ok (.iaload, 1) := by decide +kernel
theorem dX10_arrive_93 : decode cX10_arrive 93 = .ok (.aload_n 0, 1) := by decide +kernel
theorem dX10_arrive_94 : decode cX10_arrive 94 = .ok (.getfield 112, 3) := by decide +kernel
theorem dX10_arrive_97 : decode cX10_arrive 97 = .ok (.iconst 0, 1) := by decide +kernel
theorem dX10_arrive_98 : decode cX10_arrive 98 = .ok (.iaload, 1) := by decide +kernel
theorem dX10_arrive_99 : decode cX10_arrive 99 = .ok (.aload_n 0, 1) := by decide +kernel
theorem dX10_arrive_100 : decode cX10_arrive 100 = .ok (.getfield 112, 3) := by decide +kernel
theorem dX10_arrive_103 : decode cX10_arrive 103 = .ok (.iconst 1, 1) := by decide +kernel
theorem dX10_arrive_104 : decode cX10_arrive 104 = .ok (.iaload, 1) := by decide +kernel
theorem dX10_arrive_105 : decode cX10_arrive 105 = .ok (.invokevirtual 199, 3) := by decide +kernel
theorem dX10_arrive_108 : decode cX10_arrive 108 = .ok (.return_, 1) := by decide +kernel
def f_X10_arrive (σ : HS) (a0 : Option Nat) : Option (Unit × HS) :=
  h_b1 (h_gR σ a0 11 38) fun x1 =>
  h_b1 (h_aI σ x1 100 6) fun x3 =>
  if x3 = 0 then
    h_b1 (h_rcv σ a0 11) fun y66 =>
    h_bd (f_X10_registered σ a0) fun _ s64 =>
    some ((), s64)
  else
    h_b1 (h_gR σ a0 11 38) fun x6 =>
    h_b1 (h_aI σ x6 100 6) fun x8 =>
    if x8 = 1 then
      h_b1 (h_rcv σ a0 11) fun y61 =>
      h_bd (f_X10_requested σ a0) fun _ s59 =>
      some ((), s59)
    else
      h_b1 (h_gR σ a0 11 38) fun x11 =>
      h_b1 (h_aI σ x11 100 6) fun x13 =>
      if x13 = 2 then
        h_b1 (h_rcv σ a0 11) fun y56 =>
        h_bd (f_X10_replied σ a0) fun _ s54 =>
        some ((), s54)
      else
        h_b1 (h_gR σ a0 11 38) fun x16 =>
        h_b1 (h_aI σ x16 100 6) fun x18 =>
        if x18 = 3 then
          h_b1 (h_rcv σ a0 11) fun y51 =>
          h_bd (f_X10_came σ a0) fun _ s49 =>
          some ((), s49)
        else
          h_b1 (h_gR σ a0 11 38) fun x21 =>
          h_b1 (h_aI σ x21 100 7) fun x23 =>
          h_b1 (h_rcv σ a0 11) fun y28 =>
          h_bd (f_X10_isSite σ a0 x23) fun r25 s26 =>
          if r25 = 0 then
            some ((), s26)
          else
            h_b1 (h_gR s26 a0 11 38) fun x31 =>
            h_b1 (h_aI s26 x31 100 7) fun x33 =>
            h_b1 (h_gR s26 a0 11 38) fun x35 =>
            h_b1 (h_aI s26 x35 100 0) fun x37 =>
            h_b1 (h_gR s26 a0 11 38) fun x39 =>
            h_b1 (h_aI s26 x39 100 1) fun x41 =>
            h_b1 (h_rcv s26 a0 11) fun y46 =>
            h_bd (f_X10_forget s26 a0 x33 x37 x41) fun _ s44 =>
            some ((), s44)
set_option maxHeartbeats 4000000 in
set_option maxRecDepth 100000 in
theorem m_X10_arrive (l : Launch) (D : va_G) (dA : Nat → ClassId) (bs : Nat) {σ σ' : HS} {a0 : Option Nat} (h : f_X10_arrive σ a0 = some ((), σ')) : MetC l yX10_arrive cX10_arrive 1 none 4 98 D dA bs [va_rf a0] none σ σ' := by
  refine MetC.of (by decide) (h_avR h_av0) (Nat.le_of_ble_eq_true rfl) ?_
  intro p e R s m args below meth c C B hnm
  unfold f_X10_arrive at h
  refine V_sub (lv' := [(0, va_rf a0)]) [0] rfl ?_
  refine V_aload_n C 0 dX10_arrive_0 rfl rfl ?_
  obtain ⟨x1, e2, h⟩ := h_b1_some h
  refine V_getR C fl_RX10_112 dX10_arrive_1 e2 ?_
  refine V_bipush (v := 6) C dX10_arrive_4 (by decide) ?_
  obtain ⟨x3, e4, h⟩ := h_b1_some h
  refine V_iald C dX10_arrive_6 e4 ?_
  refine V_if_ne (tgt := 17) C dX10_arrive_7 (by decide) (fun c5 => ?_) (fun c5 => ?_)
  · rw [if_neg c5] at h
    refine V_aload_n C 0 dX10_arrive_17 rfl rfl ?_
    obtain ⟨x6, e7, h⟩ := h_b1_some h
    refine V_getR C fl_RX10_112 dX10_arrive_18 e7 ?_
    refine V_bipush (v := 6) C dX10_arrive_21 (by decide) ?_
    obtain ⟨x8, e9, h⟩ := h_b1_some h
    refine V_iald C dX10_arrive_23 e9 ?_
    refine V_iconst (v := 1) C dX10_arrive_24 (by decide) ?_
    refine V_icmp_ne (tgt := 35) C dX10_arrive_25 (by decide) (fun c10 => ?_) (fun c10 => ?_)
    · rw [if_neg c10] at h
      refine V_aload_n C 0 dX10_arrive_35 rfl rfl ?_
      obtain ⟨x11, e12, h⟩ := h_b1_some h
      refine V_getR C fl_RX10_112 dX10_arrive_36 e12 ?_
      refine V_bipush (v := 6) C dX10_arrive_39 (by decide) ?_
      obtain ⟨x13, e14, h⟩ := h_b1_some h
      refine V_iald C dX10_arrive_41 e14 ?_
      refine V_iconst (v := 2) C dX10_arrive_42 (by decide) ?_
      refine V_icmp_ne (tgt := 53) C dX10_arrive_43 (by decide) (fun c15 => ?_) (fun c15 => ?_)
      · rw [if_neg c15] at h
        refine V_aload_n C 0 dX10_arrive_53 rfl rfl ?_
        obtain ⟨x16, e17, h⟩ := h_b1_some h
        refine V_getR C fl_RX10_112 dX10_arrive_54 e17 ?_
        refine V_bipush (v := 6) C dX10_arrive_57 (by decide) ?_
        obtain ⟨x18, e19, h⟩ := h_b1_some h
        refine V_iald C dX10_arrive_59 e19 ?_
        refine V_iconst (v := 3) C dX10_arrive_60 (by decide) ?_
        refine V_icmp_ne (tgt := 71) C dX10_arrive_61 (by decide) (fun c20 => ?_) (fun c20 => ?_)
        · rw [if_neg c20] at h
          refine V_aload_n C 0 dX10_arrive_71 rfl rfl ?_
          refine V_aload_n C 0 dX10_arrive_72 rfl rfl ?_
          obtain ⟨x21, e22, h⟩ := h_b1_some h
          refine V_getR C fl_RX10_112 dX10_arrive_73 e22 ?_
          refine V_bipush (v := 7) C dX10_arrive_76 (by decide) ?_
          obtain ⟨x23, e24, h⟩ := h_b1_some h
          refine V_iald C dX10_arrive_78 e24 ?_
          obtain ⟨y28, e29, h⟩ := h_b1_some h
          obtain ⟨r25, s26, e27, h⟩ := h_bd_some h
          refine V_cV (As := [.int x23]) (rest := []) C mv_RX10_147 (m_X10_isSite l D dA bs e27) e29 rfl rfl (Nat.le_trans h_w0 (by decide)) (h_fr B (by decide)) (h_lo B (by decide)) dX10_arrive_79 ?_
          refine V_if_eq (tgt := 108) C dX10_arrive_82 (by decide) (fun c30 => ?_) (fun c30 => ?_)
          · rw [if_pos c30] at h
            cases h
            exact V_vret C B dX10_arrive_108
          · rw [if_neg c30] at h
            refine V_aload_n C 0 dX10_arrive_85 rfl rfl ?_
            refine V_aload_n C 0 dX10_arrive_86 rfl rfl ?_
            obtain ⟨x31, e32, h⟩ := h_b1_some h
            refine V_getR C fl_RX10_112 dX10_arrive_87 e32 ?_
            refine V_bipush (v := 7) C dX10_arrive_90 (by decide) ?_
            obtain ⟨x33, e34, h⟩ := h_b1_some h
            refine V_iald C dX10_arrive_92 e34 ?_
            refine V_aload_n C 0 dX10_arrive_93 rfl rfl ?_
            obtain ⟨x35, e36, h⟩ := h_b1_some h
            refine V_getR C fl_RX10_112 dX10_arrive_94 e36 ?_
            refine V_iconst (v := 0) C dX10_arrive_97 (by decide) ?_
            obtain ⟨x37, e38, h⟩ := h_b1_some h
            refine V_iald C dX10_arrive_98 e38 ?_
            refine V_aload_n C 0 dX10_arrive_99 rfl rfl ?_
            obtain ⟨x39, e40, h⟩ := h_b1_some h
            refine V_getR C fl_RX10_112 dX10_arrive_100 e40 ?_
            refine V_iconst (v := 1) C dX10_arrive_103 (by decide) ?_
            obtain ⟨x41, e42, h⟩ := h_b1_some h
            refine V_iald C dX10_arrive_104 e42 ?_
            obtain ⟨y46, e47, h⟩ := h_b1_some h
            obtain ⟨r43, s44, e45, h⟩ := h_bd_some h
            refine V_cV (As := [.int x33, .int x37, .int x41]) (rest := []) C mv_RX10_199 (m_X10_forget l D dA bs e45) e47 rfl rfl (Nat.le_trans h_w0 (by decide)) (h_fr B (by decide)) (h_lo B (by decide)) dX10_arrive_105 ?_
            cases h
            exact V_vret C B dX10_arrive_108
        · rw [if_pos c20] at h
          refine V_aload_n C 0 dX10_arrive_64 rfl rfl ?_
          obtain ⟨y51, e52, h⟩ := h_b1_some h
          obtain ⟨r48, s49, e50, h⟩ := h_bd_some h
          refine V_cV (As := []) (rest := []) C mv_RX10_196 (m_X10_came l D dA bs e50) e52 rfl rfl (Nat.le_trans h_w0 (by decide)) (h_fr B (by decide)) (h_lo B (by decide)) dX10_arrive_65 ?_
          refine V_goto (tgt := 108) C dX10_arrive_68 (by decide) ?_
          cases h
          exact V_vret C B dX10_arrive_108
      · rw [if_pos c15] at h
        refine V_aload_n C 0 dX10_arrive_46 rfl rfl ?_
        obtain ⟨y56, e57, h⟩ := h_b1_some h
        obtain ⟨r53, s54, e55, h⟩ := h_bd_some h
        refine V_cV (As := []) (rest := []) C mv_RX10_193 (m_X10_replied l D dA bs e55) e57 rfl rfl (Nat.le_trans h_w0 (by decide)) (h_fr B (by decide)) (h_lo B (by decide)) dX10_arrive_47 ?_
        refine V_goto (tgt := 108) C dX10_arrive_50 (by decide) ?_
        cases h
        exact V_vret C B dX10_arrive_108
    · rw [if_pos c10] at h
      refine V_aload_n C 0 dX10_arrive_28 rfl rfl ?_
      obtain ⟨y61, e62, h⟩ := h_b1_some h
      obtain ⟨r58, s59, e60, h⟩ := h_bd_some h
      refine V_cV (As := []) (rest := []) C mv_RX10_190 (m_X10_requested l D dA bs e60) e62 rfl rfl (Nat.le_trans h_w0 (by decide)) (h_fr B (by decide)) (h_lo B (by decide)) dX10_arrive_29 ?_
      refine V_goto (tgt := 108) C dX10_arrive_32 (by decide) ?_
      cases h
      exact V_vret C B dX10_arrive_108
  · rw [if_pos c5] at h
    refine V_aload_n C 0 dX10_arrive_10 rfl rfl ?_
    obtain ⟨y66, e67, h⟩ := h_b1_some h
    obtain ⟨r63, s64, e65, h⟩ := h_bd_some h
    refine V_cV (As := []) (rest := []) C mv_RX10_187 (m_X10_registered l D dA bs e65) e67 rfl rfl (Nat.le_trans h_w0 (by decide)) (h_fr B (by decide)) (h_lo B (by decide)) dX10_arrive_11 ?_
    refine V_goto (tgt := 108) C dX10_arrive_14 (by decide) ?_
    cases h
    exact V_vret C B dX10_arrive_108
/-! X10_carry -/
theorem dX10_carry_0 : decode cX10_carry 0 = .ok (.aload_n 0, 1) := by decide +kernel
theorem dX10_carry_1 : decode cX10_carry 1 = .ok (.iload_n 1, 1) := by decide +kernel
theorem dX10_carry_2 : decode cX10_carry 2 = .ok (.invokevirtual 176, 3) := by decide +kernel
theorem dX10_carry_5 : decode cX10_carry 5 = .ok (.ifCond .ne 4, 3) := by decide +kernel
theorem dX10_carry_8 : decode cX10_carry 8 = .ok (.return_, 1) := by decide +kernel
theorem dX10_carry_9 : decode cX10_carry 9 = .ok (.aload_n 0, 1) := by decide +kernel
theorem dX10_carry_10 : decode cX10_carry 10 = .ok (.iload_n 1, 1) := by decide +kernel
theorem dX10_carry_11 : decode cX10_carry 11 = .ok (.invokevirtual 179, 3) := by decide +kernel
theorem dX10_carry_14 : decode cX10_carry 14 = .ok (.aload_n 0, 1) := by decide +kernel
theorem dX10_carry_15 : decode cX10_carry 15 = .ok (.invokevirtual 183, 3) := by decide +kernel
theorem dX10_carry_18 : decode cX10_carry 18 = .ok (.return_, 1) := by decide +kernel
def f_X10_carry (σ : HS) (a0 : Option Nat) (a1 : Int32) : Option (Unit × HS) :=
  h_b1 (h_rcv σ a0 11) fun y4 =>
  h_bd (f_X10_isMessage σ a0 a1) fun r1 s2 =>
  if r1 = 0 then
    some ((), s2)
  else
    h_b1 (h_rcv s2 a0 11) fun y10 =>
    h_bd (f_X10_take s2 a0 a1) fun _ s8 =>
    h_b1 (h_rcv s8 a0 11) fun y15 =>
    h_bd (f_X10_arrive s8 a0) fun _ s13 =>
    some ((), s13)
set_option maxHeartbeats 4000000 in
set_option maxRecDepth 100000 in
theorem m_X10_carry (l : Launch) (D : va_G) (dA : Nat → ClassId) (bs : Nat) {σ σ' : HS} {a0 : Option Nat} {a1 : Int32} (h : f_X10_carry σ a0 a1 = some ((), σ')) : MetC l yX10_carry cX10_carry 2 none 5 118 D dA bs [va_rf a0, .int a1] none σ σ' := by
  refine MetC.of (by decide) (h_avR (h_avI h_av0)) (Nat.le_of_ble_eq_true rfl) ?_
  intro p e R s m args below meth c C B hnm
  unfold f_X10_carry at h
  refine V_sub (lv' := [(0, va_rf a0), (1, .int a1)]) [0, 1] rfl ?_
  refine V_aload_n C 0 dX10_carry_0 rfl rfl ?_
  refine V_iload_n C 1 dX10_carry_1 rfl rfl ?_
  obtain ⟨y4, e5, h⟩ := h_b1_some h
  obtain ⟨r1, s2, e3, h⟩ := h_bd_some h
  refine V_cV (As := [.int a1]) (rest := []) C mv_RX10_176 (m_X10_isMessage l D dA bs e3) e5 rfl rfl (Nat.le_trans h_w0 (by decide)) (h_fr B (by decide)) (h_lo B (by decide)) dX10_carry_2 ?_
  refine V_if_ne (tgt := 9) C dX10_carry_5 (by decide) (fun c6 => ?_) (fun c6 => ?_)
  · rw [if_neg c6] at h
    refine V_aload_n C 0 dX10_carry_9 rfl rfl ?_
    refine V_iload_n C 1 dX10_carry_10 rfl rfl ?_
    obtain ⟨y10, e11, h⟩ := h_b1_some h
    obtain ⟨r7, s8, e9, h⟩ := h_bd_some h
    refine V_cV (As := [.int a1]) (rest := []) C mv_RX10_179 (m_X10_take l D dA bs e9) e11 rfl rfl (Nat.le_trans h_w0 (by decide)) (h_fr B (by decide)) (h_lo B (by decide)) dX10_carry_11 ?_
    refine V_aload_n C 0 dX10_carry_14 rfl rfl ?_
    obtain ⟨y15, e16, h⟩ := h_b1_some h
    obtain ⟨r12, s13, e14, h⟩ := h_bd_some h
    refine V_cV (As := []) (rest := []) C mv_RX10_183 (m_X10_arrive l D dA bs e14) e16 rfl rfl (Nat.le_trans h_w0 (by decide)) (h_fr B (by decide)) (h_lo B (by decide)) dX10_carry_15 ?_
    cases h
    exact V_vret C B dX10_carry_18
  · rw [if_pos c6] at h
    cases h
    exact V_vret C B dX10_carry_8
/-! X10_repeat -/
theorem dX10_repeat_0 : decode cX10_repeat 0 = .ok (.aload_n 0, 1) := by decide +kernel
theorem dX10_repeat_1 : decode cX10_repeat 1 = .ok (.iload_n 1, 1) := by decide +kernel
theorem dX10_repeat_2 : decode cX10_repeat 2 = .ok (.invokevirtual 176, 3) := by decide +kernel
theorem dX10_repeat_5 : decode cX10_repeat 5 = .ok (.ifCond .ne 4, 3) := by decide +kernel
theorem dX10_repeat_8 : decode cX10_repeat 8 = .ok (.return_, 1) := by decide +kernel
theorem dX10_repeat_9 : decode cX10_repeat 9 = .ok (.bipush 8, 2) := by decide +kernel
theorem dX10_repeat_11 : decode cX10_repeat 11 = .ok (.iload_n 1, 1) := by decide +kernel
theorem dX10_repeat_12 : decode cX10_repeat 12 = .ok (.imul, 1) := by decide +kernel
theorem dX10_repeat_13 : decode cX10_repeat 13 = .ok (.istore_n 2, 1) := by decide +kernel
theorem dX10_repeat_14 : decode cX10_repeat 14 = .ok (.aload_n 0, 1) := by decide +kernel
theorem dX10_repeat_15 : decode cX10_repeat 15 = .ok (.getfield 153, 3) := by decide +kernel
theorem dX10_repeat_18 : decode cX10_repeat 18 = .ok (.istore_n 3, 1) := by decide +kernel
theorem dX10_repeat_19 : decode cX10_repeat 19 = .ok (.aload_n 0, 1) := by decide +kernel
theorem dX10_repeat_20 : decode cX10_repeat 20 = .ok (.aload_n 0, 1) := by decide +kernel
theorem dX10_repeat_21 : decode cX10_repeat 21 = .ok (.getfield 109, 3) := by decide +kernel
theorem dX10_repeat_24 : decode cX10_repeat 24 = .ok (.iload_n 2, 1) := by decide +kernel
theorem dX10_repeat_25 : decode cX10_repeat 25 = .ok (.bipush 6, 2) := by decide +kernel
theorem dX10_repeat_27 : decode cX10_repeat 27 = .ok (.iadd, 1) := by decide +kernel
theorem dX10_repeat_28 : decode cX10_repeat 28 = .ok (.iaload, 1) := by decide +kernel
theorem dX10_repeat_29 : decode cX10_repeat 29 = .ok (.aload_n 0, 1) := by decide +kernel
theorem dX10_repeat_30 : decode cX10_repeat 30 = .ok (.getfield 109, 3) := by decide +kernel
theorem dX10_repeat_33 : decode cX10_repeat 33 = .ok (.iload_n 2, 1) := by decide +kernel
theorem dX10_repeat_34 : decode cX10_repeat 34 = .ok (.bipush 7, 2) := by decide +kernel
theorem dX10_repeat_36 : decode cX10_repeat 36 = .ok (.iadd, 1) := by decide +kernel
theorem dX10_repeat_37 : decode cX10_repeat 37 = .ok (.iaload, 1) := by decide +kernel
theorem dX10_repeat_38 : decode cX10_repeat 38 = .ok (.aload_n 0, 1) := by decide +kernel
theorem dX10_repeat_39 : decode cX10_repeat 39 = .ok (.getfield 109, 3) := by decide +kernel
theorem dX10_repeat_42 : decode cX10_repeat 42 = .ok (.iload_n 2, 1) := by decide +kernel
theorem dX10_repeat_43 : decode cX10_repeat 43 = .ok (.iaload, 1) := by decide +kernel
theorem dX10_repeat_44 : decode cX10_repeat 44 = .ok (.aload_n 0, 1) := by decide +kernel
theorem dX10_repeat_45 : decode cX10_repeat 45 = .ok (.getfield 109, 3) := by decide +kernel
theorem dX10_repeat_48 : decode cX10_repeat 48 = .ok (.iload_n 2, 1) := by decide +kernel
theorem dX10_repeat_49 : decode cX10_repeat 49 = .ok (.iconst 1, 1) := by decide +kernel
theorem dX10_repeat_50 : decode cX10_repeat 50 = .ok (.iadd, 1) := by decide +kernel
theorem dX10_repeat_51 : decode cX10_repeat 51 = .ok (.iaload, 1) := by decide +kernel
theorem dX10_repeat_52 : decode cX10_repeat 52 = .ok (.aload_n 0, 1) := by decide +kernel
theorem dX10_repeat_53 : decode cX10_repeat 53 = .ok (.getfield 109, 3) := by decide +kernel
theorem dX10_repeat_56 : decode cX10_repeat 56 = .ok (.iload_n 2, 1) := by decide +kernel
theorem dX10_repeat_57 : decode cX10_repeat 57 = .ok (.iconst 2, 1) := by decide +kernel
theorem dX10_repeat_58 : decode cX10_repeat 58 = .ok (.iadd, 1) := by decide +kernel
theorem dX10_repeat_59 : decode cX10_repeat 59 = .ok (.iaload, 1) := by decide +kernel
theorem dX10_repeat_60 : decode cX10_repeat 60 = .ok (.aload_n 0, 1) := by decide +kernel
theorem dX10_repeat_61 : decode cX10_repeat 61 = .ok (.getfield 109, 3) := by decide +kernel
theorem dX10_repeat_64 : decode cX10_repeat 64 = .ok (.iload_n 2, 1) := by decide +kernel
theorem dX10_repeat_65 : decode cX10_repeat 65 = .ok (.iconst 3, 1) := by decide +kernel
theorem dX10_repeat_66 : decode cX10_repeat 66 = .ok (.iadd, 1) := by decide +kernel
theorem dX10_repeat_67 : decode cX10_repeat 67 = .ok (.iaload, 1) := by decide +kernel
theorem dX10_repeat_68 : decode cX10_repeat 68 = .ok (.aload_n 0, 1) := by decide +kernel
theorem dX10_repeat_69 : decode cX10_repeat 69 = .ok (.getfield 109, 3) := by decide +kernel
theorem dX10_repeat_72 : decode cX10_repeat 72 = .ok (.iload_n 2, 1) := by decide +kernel
theorem dX10_repeat_73 : decode cX10_repeat 73 = .ok (.iconst 4, 1) := by decide +kernel
theorem dX10_repeat_74 : decode cX10_repeat 74 = .ok (.iadd, 1) := by decide +kernel
theorem dX10_repeat_75 : decode cX10_repeat 75 = .ok (.iaload, 1) := by decide +kernel
theorem dX10_repeat_76 : decode cX10_repeat 76 = .ok (.invokevirtual 164, 3) := by decide +kernel
theorem dX10_repeat_79 : decode cX10_repeat 79 = .ok (.aload_n 0, 1) := by decide +kernel
theorem dX10_repeat_80 : decode cX10_repeat 80 = .ok (.aload_n 0, 1) := by decide +kernel
theorem dX10_repeat_81 : decode cX10_repeat 81 = .ok (.getfield 109, 3) := by decide +kernel
theorem dX10_repeat_84 : decode cX10_repeat 84 = .ok (.iload_n 2, 1) := by decide +kernel
theorem dX10_repeat_85 : decode cX10_repeat 85 = .ok (.iconst 5, 1) := by decide +kernel
theorem dX10_repeat_86 : decode cX10_repeat 86 = .ok (.iadd, 1) := by decide +kernel
theorem dX10_repeat_87 : decode cX10_repeat 87 = .ok (.iaload, 1) := by decide +kernel
theorem dX10_repeat_88 : decode cX10_repeat 88 = .ok (.iload_n 3, 1) := by decide +kernel
theorem dX10_repeat_89 : decode cX10_repeat 89 = .ok (.invokevirtual 172, 3) := by decide +kernel
theorem dX10_repeat_92 : decode cX10_repeat 92 = .ok (.return_, 1) := by decide +kernel
def f_X10_repeat (σ : HS) (a0 : Option Nat) (a1 : Int32) : Option (Unit × HS) :=
  h_b1 (h_rcv σ a0 11) fun y4 =>
  h_bd (f_X10_isMessage σ a0 a1) fun r1 s2 =>
  if r1 = 0 then
    some ((), s2)
  else
    h_b1 (h_gI s2 a0 11 36) fun x7 =>
    h_b1 (h_gR s2 a0 11 37) fun x9 =>
    h_b1 (h_aI s2 x9 100 ((8 * a1) + 6)) fun x11 =>
    h_b1 (h_gR s2 a0 11 37) fun x13 =>
    h_b1 (h_aI s2 x13 100 ((8 * a1) + 7)) fun x15 =>
    h_b1 (h_gR s2 a0 11 37) fun x17 =>
    h_b1 (h_aI s2 x17 100 (8 * a1)) fun x19 =>
    h_b1 (h_gR s2 a0 11 37) fun x21 =>
    h_b1 (h_aI s2 x21 100 ((8 * a1) + 1)) fun x23 =>
    h_b1 (h_gR s2 a0 11 37) fun x25 =>
    h_b1 (h_aI s2 x25 100 ((8 * a1) + 2)) fun x27 =>
    h_b1 (h_gR s2 a0 11 37) fun x29 =>
    h_b1 (h_aI s2 x29 100 ((8 * a1) + 3)) fun x31 =>
    h_b1 (h_gR s2 a0 11 37) fun x33 =>
    h_b1 (h_aI s2 x33 100 ((8 * a1) + 4)) fun x35 =>
    h_b1 (h_rcv s2 a0 11) fun y40 =>
    h_bd (f_X10_post s2 a0 x11 x15 x19 x23 x27 x31 x35) fun _ s38 =>
    h_b1 (h_gR s38 a0 11 37) fun x42 =>
    h_b1 (h_aI s38 x42 100 ((8 * a1) + 5)) fun x44 =>
    h_b1 (h_rcv s38 a0 11) fun y49 =>
    h_bd (f_X10_last s38 a0 x44 x7) fun _ s47 =>
    some ((), s47)
set_option maxHeartbeats 4000000 in
set_option maxRecDepth 100000 in
theorem m_X10_repeat (l : Launch) (D : va_G) (dA : Nat → ClassId) (bs : Nat) {σ σ' : HS} {a0 : Option Nat} {a1 : Int32} (h : f_X10_repeat σ a0 a1 = some ((), σ')) : MetC l yX10_repeat cX10_repeat 4 none 2 43 D dA bs [va_rf a0, .int a1] none σ σ' := by
  refine MetC.of (by decide) (h_avR (h_avI h_av0)) (Nat.le_of_ble_eq_true rfl) ?_
  intro p e R s m args below meth c C B hnm
  unfold f_X10_repeat at h
  refine V_sub (lv' := [(0, va_rf a0), (1, .int a1)]) [0, 1] rfl ?_
  refine V_aload_n C 0 dX10_repeat_0 rfl rfl ?_
  refine V_iload_n C 1 dX10_repeat_1 rfl rfl ?_
  obtain ⟨y4, e5, h⟩ := h_b1_some h
  obtain ⟨r1, s2, e3, h⟩ := h_bd_some h
  refine V_cV (As := [.int a1]) (rest := []) C mv_RX10_176 (m_X10_isMessage l D dA bs e3) e5 rfl rfl (Nat.le_trans h_w0 (by decide)) (h_fr B (by decide)) (h_lo B (by decide)) dX10_repeat_2 ?_
  refine V_if_ne (tgt := 9) C dX10_repeat_5 (by decide) (fun c6 => ?_) (fun c6 => ?_)
  · rw [if_neg c6] at h
    refine V_bipush (v := 8) C dX10_repeat_9 (by decide) ?_
    refine V_iload_n C 1 dX10_repeat_11 rfl rfl ?_
    refine V_imul C dX10_repeat_12 ?_
    refine V_istore_n (lv' := [(2, .int (8 * a1)), (0, va_rf a0), (1, .int a1)]) C dX10_repeat_13 rfl (by decide) rfl ?_
    refine V_aload_n C 1 dX10_repeat_14 rfl rfl ?_
    obtain ⟨x7, e8, h⟩ := h_b1_some h
    refine V_getI C fl_RX10_153 dX10_repeat_15 e8 ?_
    refine V_istore_n (lv' := [(3, .int x7), (2, .int (8 * a1)), (0, va_rf a0), (1, .int a1)]) C dX10_repeat_18 rfl (by decide) rfl ?_
    refine V_aload_n C 2 dX10_repeat_19 rfl rfl ?_
    refine V_aload_n C 2 dX10_repeat_20 rfl rfl ?_
    obtain ⟨x9, e10, h⟩ := h_b1_some h
    refine V_getR C fl_RX10_109 dX10_repeat_21 e10 ?_
    refine V_iload_n C 1 dX10_repeat_24 rfl rfl ?_
    refine V_bipush (v := 6) C dX10_repeat_25 (by decide) ?_
    refine V_iadd C dX10_repeat_27 ?_
    obtain ⟨x11, e12, h⟩ := h_b1_some h
    refine V_iald C dX10_repeat_28 e12 ?_
    refine V_aload_n C 2 dX10_repeat_29 rfl rfl ?_
    obtain ⟨x13, e14, h⟩ := h_b1_some h
    refine V_getR C fl_RX10_109 dX10_repeat_30 e14 ?_
    refine V_iload_n C 1 dX10_repeat_33 rfl rfl ?_
    refine V_bipush (v := 7) C dX10_repeat_34 (by decide) ?_
    refine V_iadd C dX10_repeat_36 ?_
    obtain ⟨x15, e16, h⟩ := h_b1_some h
    refine V_iald C dX10_repeat_37 e16 ?_
    refine V_aload_n C 2 dX10_repeat_38 rfl rfl ?_
    obtain ⟨x17, e18, h⟩ := h_b1_some h
    refine V_getR C fl_RX10_109 dX10_repeat_39 e18 ?_
    refine V_iload_n C 1 dX10_repeat_42 rfl rfl ?_
    obtain ⟨x19, e20, h⟩ := h_b1_some h
    refine V_iald C dX10_repeat_43 e20 ?_
    refine V_aload_n C 2 dX10_repeat_44 rfl rfl ?_
    obtain ⟨x21, e22, h⟩ := h_b1_some h
    refine V_getR C fl_RX10_109 dX10_repeat_45 e22 ?_
    refine V_iload_n C 1 dX10_repeat_48 rfl rfl ?_
    refine V_iconst (v := 1) C dX10_repeat_49 (by decide) ?_
    refine V_iadd C dX10_repeat_50 ?_
    obtain ⟨x23, e24, h⟩ := h_b1_some h
    refine V_iald C dX10_repeat_51 e24 ?_
    refine V_aload_n C 2 dX10_repeat_52 rfl rfl ?_
    obtain ⟨x25, e26, h⟩ := h_b1_some h
    refine V_getR C fl_RX10_109 dX10_repeat_53 e26 ?_
    refine V_iload_n C 1 dX10_repeat_56 rfl rfl ?_
    refine V_iconst (v := 2) C dX10_repeat_57 (by decide) ?_
    refine V_iadd C dX10_repeat_58 ?_
    obtain ⟨x27, e28, h⟩ := h_b1_some h
    refine V_iald C dX10_repeat_59 e28 ?_
    refine V_aload_n C 2 dX10_repeat_60 rfl rfl ?_
    obtain ⟨x29, e30, h⟩ := h_b1_some h
    refine V_getR C fl_RX10_109 dX10_repeat_61 e30 ?_
    refine V_iload_n C 1 dX10_repeat_64 rfl rfl ?_
    refine V_iconst (v := 3) C dX10_repeat_65 (by decide) ?_
    refine V_iadd C dX10_repeat_66 ?_
    obtain ⟨x31, e32, h⟩ := h_b1_some h
    refine V_iald C dX10_repeat_67 e32 ?_
    refine V_aload_n C 2 dX10_repeat_68 rfl rfl ?_
    obtain ⟨x33, e34, h⟩ := h_b1_some h
    refine V_getR C fl_RX10_109 dX10_repeat_69 e34 ?_
    refine V_iload_n C 1 dX10_repeat_72 rfl rfl ?_
    refine V_iconst (v := 4) C dX10_repeat_73 (by decide) ?_
    refine V_iadd C dX10_repeat_74 ?_
    obtain ⟨x35, e36, h⟩ := h_b1_some h
    refine V_iald C dX10_repeat_75 e36 ?_
    obtain ⟨y40, e41, h⟩ := h_b1_some h
    obtain ⟨r37, s38, e39, h⟩ := h_bd_some h
    refine V_cV (As := [.int x11, .int x15, .int x19, .int x23, .int x27, .int x31, .int x35]) (rest := []) C mv_RX10_164 (m_X10_post l D dA bs e39) e41 rfl rfl (Nat.le_trans h_w0 (by decide)) (h_fr B (by decide)) (h_lo B (by decide)) dX10_repeat_76 ?_
    refine V_aload_n C 2 dX10_repeat_79 rfl rfl ?_
    refine V_aload_n C 2 dX10_repeat_80 rfl rfl ?_
    obtain ⟨x42, e43, h⟩ := h_b1_some h
    refine V_getR C fl_RX10_109 dX10_repeat_81 e43 ?_
    refine V_iload_n C 1 dX10_repeat_84 rfl rfl ?_
    refine V_iconst (v := 5) C dX10_repeat_85 (by decide) ?_
    refine V_iadd C dX10_repeat_86 ?_
    obtain ⟨x44, e45, h⟩ := h_b1_some h
    refine V_iald C dX10_repeat_87 e45 ?_
    refine V_iload_n C 0 dX10_repeat_88 rfl rfl ?_
    obtain ⟨y49, e50, h⟩ := h_b1_some h
    obtain ⟨r46, s47, e48, h⟩ := h_bd_some h
    refine V_cV (As := [.int x44, .int x7]) (rest := []) C mv_RX10_172 (m_X10_last l D dA bs e48) e50 rfl rfl (Nat.le_trans h_w0 (by decide)) (h_fr B (by decide)) (h_lo B (by decide)) dX10_repeat_89 ?_
    cases h
    exact V_vret C B dX10_repeat_92
  · rw [if_pos c6] at h
    cases h
    exact V_vret C B dX10_repeat_8
/-! X10_drop -/
theorem dX10_drop_0 : decode cX10_drop 0 = .ok (.aload_n 0, 1) := by decide +kernel
theorem dX10_drop_1 : decode cX10_drop 1 = .ok (.iload_n 1, 1) := by decide +kernel
theorem dX10_drop_2 : decode cX10_drop 2 = .ok (.invokevirtual 176, 3) := by decide +kernel
theorem dX10_drop_5 : decode cX10_drop 5 = .ok (.ifCond .eq 8, 3) := by decide +kernel
theorem dX10_drop_8 : decode cX10_drop 8 = .ok (.aload_n 0, 1) := by decide +kernel
theorem dX10_drop_9 : decode cX10_drop 9 = .ok (.iload_n 1, 1) := by decide +kernel
theorem dX10_drop_10 : decode cX10_drop 10 = .ok (.invokevirtual 179, 3) := by decide +kernel
theorem dX10_drop_13 : decode cX10_drop 13 = .ok (.return_, 1) := by decide +kernel
def f_X10_drop (σ : HS) (a0 : Option Nat) (a1 : Int32) : Option (Unit × HS) :=
  h_b1 (h_rcv σ a0 11) fun y4 =>
  h_bd (f_X10_isMessage σ a0 a1) fun r1 s2 =>
  if r1 = 0 then
    some ((), s2)
  else
    h_b1 (h_rcv s2 a0 11) fun y10 =>
    h_bd (f_X10_take s2 a0 a1) fun _ s8 =>
    some ((), s8)
set_option maxHeartbeats 4000000 in
set_option maxRecDepth 100000 in
theorem m_X10_drop (l : Launch) (D : va_G) (dA : Nat → ClassId) (bs : Nat) {σ σ' : HS} {a0 : Option Nat} {a1 : Int32} (h : f_X10_drop σ a0 a1 = some ((), σ')) : MetC l yX10_drop cX10_drop 2 none 2 43 D dA bs [va_rf a0, .int a1] none σ σ' := by
  refine MetC.of (by decide) (h_avR (h_avI h_av0)) (Nat.le_of_ble_eq_true rfl) ?_
  intro p e R s m args below meth c C B hnm
  unfold f_X10_drop at h
  refine V_sub (lv' := [(0, va_rf a0), (1, .int a1)]) [0, 1] rfl ?_
  refine V_aload_n C 0 dX10_drop_0 rfl rfl ?_
  refine V_iload_n C 1 dX10_drop_1 rfl rfl ?_
  obtain ⟨y4, e5, h⟩ := h_b1_some h
  obtain ⟨r1, s2, e3, h⟩ := h_bd_some h
  refine V_cV (As := [.int a1]) (rest := []) C mv_RX10_176 (m_X10_isMessage l D dA bs e3) e5 rfl rfl (Nat.le_trans h_w0 (by decide)) (h_fr B (by decide)) (h_lo B (by decide)) dX10_drop_2 ?_
  refine V_if_eq (tgt := 13) C dX10_drop_5 (by decide) (fun c6 => ?_) (fun c6 => ?_)
  · rw [if_pos c6] at h
    cases h
    exact V_vret C B dX10_drop_13
  · rw [if_neg c6] at h
    refine V_aload_n C 0 dX10_drop_8 rfl rfl ?_
    refine V_iload_n C 1 dX10_drop_9 rfl rfl ?_
    obtain ⟨y10, e11, h⟩ := h_b1_some h
    obtain ⟨r7, s8, e9, h⟩ := h_bd_some h
    refine V_cV (As := [.int a1]) (rest := []) C mv_RX10_179 (m_X10_take l D dA bs e9) e11 rfl rfl (Nat.le_trans h_w0 (by decide)) (h_fr B (by decide)) (h_lo B (by decide)) dX10_drop_10 ?_
    cases h
    exact V_vret C B dX10_drop_13
/-! X10_forge -/
theorem dX10_forge_0 : decode cX10_forge 0 = .ok (.aload_n 0, 1) := by decide +kernel
theorem dX10_forge_1 : decode cX10_forge 1 = .ok (.iload_n 1, 1) := by decide +kernel
theorem dX10_forge_2 : decode cX10_forge 2 = .ok (.invokevirtual 176, 3) := by decide +kernel
theorem dX10_forge_5 : decode cX10_forge 5 = .ok (.ifCond .ne 4, 3) := by decide +kernel
theorem dX10_forge_8 : decode cX10_forge 8 = .ok (.return_, 1) := by decide +kernel
theorem dX10_forge_9 : decode cX10_forge 9 = .ok (.aload_n 0, 1) := by decide +kernel
theorem dX10_forge_10 : decode cX10_forge 10 = .ok (.iload_n 2, 1) := by decide +kernel
theorem dX10_forge_11 : decode cX10_forge 11 = .ok (.iconst 0, 1) := by decide +kernel
theorem dX10_forge_12 : decode cX10_forge 12 = .ok (.iconst 5, 1) := by decide +kernel
theorem dX10_forge_13 : decode cX10_forge 13 = .ok (.invokestatic 120, 3) := by decide +kernel
theorem dX10_forge_16 : decode cX10_forge 16 = .ok (.ifCond .eq 7, 3) := by decide +kernel
theorem dX10_forge_19 : decode cX10_forge 19 = .ok (.iconst 0, 1) := by decide +kernel
theorem dX10_forge_20 : decode cX10_forge 20 = .ok (.goto 4, 3) := by decide +kernel
theorem dX10_forge_23 : decode cX10_forge 23 = .ok (.iconst 1, 1) := by decide +kernel
theorem dX10_forge_24 : decode cX10_forge 24 = .ok (.putfield 117, 3) := by decide +kernel
theorem dX10_forge_27 : decode cX10_forge 27 = .ok (.aload_n 0, 1) := by decide +kernel
theorem dX10_forge_28 : decode cX10_forge 28 = .ok (.getfield 117, 3) := by decide +kernel
theorem dX10_forge_31 : decode cX10_forge 31 = .ok (.ifCond .ne 15, 3) := by decide +kernel
theorem dX10_forge_34 : decode cX10_forge 34 = .ok (.aload_n 0, 1) := by decide +kernel
theorem dX10_forge_35 : decode cX10_forge 35 = .ok (.getfield 109, 3) := by decide +kernel
theorem dX10_forge_38 : decode cX10_forge 38 = .ok (.bipush 8, 2) := by decide +kernel
theorem dX10_forge_40 : decode cX10_forge 40 = .ok (.iload_n 1, 1) := by decide +kernel
theorem dX10_forge_41 : decode cX10_forge 41 = .ok (.imul, 1) := by decide +kernel
theorem dX10_forge_42 : decode cX10_forge 42 = .ok (.iload_n 2, 1) := by decide +kernel
theorem dX10_forge_43 : decode cX10_forge 43 = .ok (.iadd, 1) := by decide +kernel
theorem dX10_forge_44 : decode cX10_forge 44 = .ok (.iload_n 3, 1) := by decide +kernel
theorem dX10_forge_45 : decode cX10_forge 45 = .ok (.iastore, 1) := by decide +kernel
theorem dX10_forge_46 : decode cX10_forge 46 = .ok (.return_, 1) := by decide +kernel
def j_X10_forge_24 (σ : HS) (l0 : Option Nat) (l1 : Int32) (l2 : Int32) (l3 : Int32) (t0 : Int32) (t1 : Option Nat) : Option (Unit × HS) :=
  h_b1 (h_pI σ t1 11 0 t0) fun s11 =>
  h_b1 (h_gI s11 l0 11 0) fun x13 =>
  if x13 = 0 then
    h_b1 (h_gR s11 l0 11 37) fun x16 =>
    h_b1 (h_sI s11 x16 100 ((8 * l1) + l2) l3) fun s18 =>
    some ((), s18)
  else
    some ((), s11)
def f_X10_forge (σ : HS) (a0 : Option Nat) (a1 : Int32) (a2 : Int32) (a3 : Int32) : Option (Unit × HS) :=
  h_b1 (h_rcv σ a0 11) fun y4 =>
  h_bd (f_X10_isMessage σ a0 a1) fun r1 s2 =>
  if r1 = 0 then
    some ((), s2)
  else
    h_bd (f_X10_in s2 a2 0 5) fun r7 s8 =>
    if r7 = 0 then
      j_X10_forge_24 s8 a0 a1 a2 a3 1 a0
    else
      j_X10_forge_24 s8 a0 a1 a2 a3 0 a0
set_option maxHeartbeats 4000000 in
set_option maxRecDepth 100000 in
theorem jw_X10_forge_24 {p : Program} {l : Launch} {e : Env} {R : Room} {s : State} {m : MethodId} {args : Array Value} {below : List Frame} {meth : Method} {c : Code} {D : va_G} {dA : Nat → ClassId} {bs : Nat} (C : h_C p m c cX10_forge 4 s args RX10 D dA) {σ0 : HS} (B : h_B R s meth σ0 none 2 43) {σ' : HS} : ∀ (σ : HS) (l0 : Option Nat) (l1 : Int32) (l2 : Int32) (l3 : Int32) (t0 : Int32) (t1 : Option Nat), j_X10_forge_24 σ l0 l1 l2 l3 t0 t1 = some ((), σ') → V p l e R s m args below meth c D dA bs 4 (MQ below (h_Q D dA bs none σ0 σ') args s R.cells R.slots (fun q => bs ≤ q)) σ 24 [(0, va_rf l0), (1, .int l1), (2, .int l2), (3, .int l3)] [.int t0, va_rf t1] := by
  intro σ l0 l1 l2 l3 t0 t1 h
  unfold j_X10_forge_24 at h
  obtain ⟨s11, e12, h⟩ := h_b1_some h
  refine V_putI C fw_RX10_117 dX10_forge_24 e12 ?_
  refine V_aload_n C 0 dX10_forge_27 rfl rfl ?_
  obtain ⟨x13, e14, h⟩ := h_b1_some h
  refine V_getI C fl_RX10_117 dX10_forge_28 e14 ?_
  refine V_if_ne (tgt := 46) C dX10_forge_31 (by decide) (fun c15 => ?_) (fun c15 => ?_)
  · rw [if_neg c15] at h
    cases h
    exact V_vret C B dX10_forge_46
  · rw [if_pos c15] at h
    refine V_aload_n C 0 dX10_forge_34 rfl rfl ?_
    obtain ⟨x16, e17, h⟩ := h_b1_some h
    refine V_getR C fl_RX10_109 dX10_forge_35 e17 ?_
    refine V_bipush (v := 8) C dX10_forge_38 (by decide) ?_
    refine V_iload_n C 1 dX10_forge_40 rfl rfl ?_
    refine V_imul C dX10_forge_41 ?_
    refine V_iload_n C 2 dX10_forge_42 rfl rfl ?_
    refine V_iadd C dX10_forge_43 ?_
    refine V_iload_n C 3 dX10_forge_44 rfl rfl ?_
    obtain ⟨s18, e19, h⟩ := h_b1_some h
    refine V_iast C dX10_forge_45 e19 ?_
    cases h
    exact V_vret C B dX10_forge_46
set_option maxHeartbeats 4000000 in
set_option maxRecDepth 100000 in
theorem m_X10_forge (l : Launch) (D : va_G) (dA : Nat → ClassId) (bs : Nat) {σ σ' : HS} {a0 : Option Nat} {a1 : Int32} {a2 : Int32} {a3 : Int32} (h : f_X10_forge σ a0 a1 a2 a3 = some ((), σ')) : MetC l yX10_forge cX10_forge 4 none 2 43 D dA bs [va_rf a0, .int a1, .int a2, .int a3] none σ σ' := by
  refine MetC.of (by decide) (h_avR (h_avI (h_avI (h_avI h_av0)))) (Nat.le_of_ble_eq_true rfl) ?_
  intro p e R s m args below meth c C B hnm
  unfold f_X10_forge at h
  refine V_sub (lv' := [(0, va_rf a0), (1, .int a1), (2, .int a2), (3, .int a3)]) [0, 1, 2, 3] rfl ?_
  refine V_aload_n C 0 dX10_forge_0 rfl rfl ?_
  refine V_iload_n C 1 dX10_forge_1 rfl rfl ?_
  obtain ⟨y4, e5, h⟩ := h_b1_some h
  obtain ⟨r1, s2, e3, h⟩ := h_bd_some h
  refine V_cV (As := [.int a1]) (rest := []) C mv_RX10_176 (m_X10_isMessage l D dA bs e3) e5 rfl rfl (Nat.le_trans h_w0 (by decide)) (h_fr B (by decide)) (h_lo B (by decide)) dX10_forge_2 ?_
  refine V_if_ne (tgt := 9) C dX10_forge_5 (by decide) (fun c6 => ?_) (fun c6 => ?_)
  · rw [if_neg c6] at h
    refine V_aload_n C 0 dX10_forge_9 rfl rfl ?_
    refine V_iload_n C 2 dX10_forge_10 rfl rfl ?_
    refine V_iconst (v := 0) C dX10_forge_11 (by decide) ?_
    refine V_iconst (v := 5) C dX10_forge_12 (by decide) ?_
    obtain ⟨r7, s8, e9, h⟩ := h_bd_some h
    refine V_cS (As := [.int a2, .int 0, .int 5]) (rest := [va_rf a0]) C ms_RX10_120 (m_X10_in l D dA bs e9) rfl rfl (Nat.le_trans (h_wR h_w0) (by decide)) (h_fr B (by decide)) (h_lo B (by decide)) dX10_forge_13 ?_
    refine V_if_eq (tgt := 23) C dX10_forge_16 (by decide) (fun c10 => ?_) (fun c10 => ?_)
    · rw [if_pos c10] at h
      refine V_iconst (v := 1) C dX10_forge_23 (by decide) ?_
      exact V_sub [0, 1, 2, 3] rfl (jw_X10_forge_24 C B s8 a0 a1 a2 a3 1 a0 h)
    · rw [if_neg c10] at h
      refine V_iconst (v := 0) C dX10_forge_19 (by decide) ?_
      refine V_goto (tgt := 24) C dX10_forge_20 (by decide) ?_
      exact V_sub [0, 1, 2, 3] rfl (jw_X10_forge_24 C B s8 a0 a1 a2 a3 0 a0 h)
  · rw [if_pos c6] at h
    cases h
    exact V_vret C B dX10_forge_8
/-! X10_message -/
theorem dX10_message_0 : decode cX10_message 0 = .ok (.aload_n 0, 1) := by decide +kernel
theorem dX10_message_1 : decode cX10_message 1 = .ok (.iload_n 1, 1) := by decide +kernel
theorem dX10_message_2 : decode cX10_message 2 = .ok (.invokevirtual 176, 3) := by decide +kernel
theorem dX10_message_5 : decode cX10_message 5 = .ok (.ifCond .ne 5, 3) := by decide +kernel
theorem dX10_message_8 : decode cX10_message 8 = .ok (.iconst 0, 1) := by decide +kernel
theorem dX10_message_9 : decode cX10_message 9 = .ok (.ireturn, 1) := by decide +kernel
theorem dX10_message_10 : decode cX10_message 10 = .ok (.aload_n 0, 1) := by decide +kernel
theorem dX10_message_11 : decode cX10_message 11 = .ok (.iload_n 2, 1) := by decide +kernel
theorem dX10_message_12 : decode cX10_message 12 = .ok (.iconst 0, 1) := by decide +kernel
theorem dX10_message_13 : decode cX10_message 13 = .ok (.bipush 7, 2) := by decide +kernel
theorem dX10_message_15 : decode cX10_message 15 = .ok (.invokestatic 120, 3) := by decide +kernel
theorem dX10_message_18 : decode cX10_message 18 = .ok (.ifCond .eq 7, 3) := by decide +kernel
theorem dX10_message_21 : decode cX10_message 21 = .ok (.iconst 0, 1) := by decide +kernel
theorem dX10_message_22 : decode cX10_message 22 = .ok (.goto 4, 3) := by decide +kernel
theorem dX10_message_25 : decode cX10_message 25 = .ok (.iconst 1, 1) := by decide +kernel
theorem dX10_message_26 : decode cX10_message 26 = .ok (.putfield 117, 3) := by decide +kernel
theorem dX10_message_29 : decode cX10_message 29 = .ok (.aload_n 0, 1) := by decide +kernel
theorem dX10_message_30 : decode cX10_message 30 = .ok (.getfield 117, 3) := by decide +kernel
theorem dX10_message_33 : decode cX10_message 33 = .ok (.ifCond .le 7, 3) := by decide +kernel
theorem dX10_message_36 : decode cX10_message 36 = .ok (.iconst 0, 1) := by decide +kernel
theorem dX10_message_37 : decode cX10_message 37 = .ok (.goto 14, 3) := by decide +kernel
theorem dX10_message_40 : decode cX10_message 40 = .ok (.aload_n 0, 1) := by decide +kernel
theorem dX10_message_41 : decode cX10_message 41 = .ok (.getfield 109, 3) := by decide +kernel
theorem dX10_message_44 : decode cX10_message 44 = .ok (.bipush 8, 2) := by decide +kernel
theorem dX10_message_46 : decode cX10_message 46 = .ok (.iload_n 1, 1) := by decide +kernel
theorem dX10_message_47 : decode cX10_message 47 = .ok (.imul, 1) := by decide +kernel
theorem dX10_message_48 : decode cX10_message 48 = .ok (.iload_n 2, 1) := by decide +kernel
theorem dX10_message_49 : decode cX10_message 49 = .ok (.iadd, 1) := by decide +kernel
theorem dX10_message_50 : decode cX10_message 50 = .ok (.iaload, 1) := by decide +kernel
theorem dX10_message_51 : decode cX10_message 51 = .ok (.ireturn, 1) := by decide +kernel
def j_X10_message_26 (σ : HS) (l0 : Option Nat) (l1 : Int32) (l2 : Int32) (t0 : Int32) (t1 : Option Nat) : Option (Int32 × HS) :=
  h_b1 (h_pI σ t1 11 0 t0) fun s11 =>
  h_b1 (h_gI s11 l0 11 0) fun x13 =>
  if x13 ≤ 0 then
    h_b1 (h_gR s11 l0 11 37) fun x16 =>
    h_b1 (h_aI s11 x16 100 ((8 * l1) + l2)) fun x18 =>
    some (x18, s11)
  else
    some (0, s11)
def f_X10_message (σ : HS) (a0 : Option Nat) (a1 : Int32) (a2 : Int32) : Option (Int32 × HS) :=
  h_b1 (h_rcv σ a0 11) fun y4 =>
  h_bd (f_X10_isMessage σ a0 a1) fun r1 s2 =>
  if r1 = 0 then
    some (0, s2)
  else
    h_bd (f_X10_in s2 a2 0 7) fun r7 s8 =>
    if r7 = 0 then
      j_X10_message_26 s8 a0 a1 a2 1 a0
    else
      j_X10_message_26 s8 a0 a1 a2 0 a0
set_option maxHeartbeats 4000000 in
set_option maxRecDepth 100000 in
theorem jw_X10_message_26 {p : Program} {l : Launch} {e : Env} {R : Room} {s : State} {m : MethodId} {args : Array Value} {below : List Frame} {meth : Method} {c : Code} {D : va_G} {dA : Nat → ClassId} {bs : Nat} (C : h_C p m c cX10_message 3 s args RX10 D dA) {σ0 : HS} (B : h_B R s meth σ0 (some .int) 2 43) {σ' : HS} {r : Int32} : ∀ (σ : HS) (l0 : Option Nat) (l1 : Int32) (l2 : Int32) (t0 : Int32) (t1 : Option Nat), j_X10_message_26 σ l0 l1 l2 t0 t1 = some (r, σ') → V p l e R s m args below meth c D dA bs 3 (MQ below (h_Q D dA bs (some (.int r)) σ0 σ') args s R.cells R.slots (fun q => bs ≤ q)) σ 26 [(0, va_rf l0), (1, .int l1), (2, .int l2)] [.int t0, va_rf t1] := by
  intro σ l0 l1 l2 t0 t1 h
  unfold j_X10_message_26 at h
  obtain ⟨s11, e12, h⟩ := h_b1_some h
  refine V_putI C fw_RX10_117 dX10_message_26 e12 ?_
  refine V_aload_n C 0 dX10_message_29 rfl rfl ?_
  obtain ⟨x13, e14, h⟩ := h_b1_some h
  refine V_getI C fl_RX10_117 dX10_message_30 e14 ?_
  refine V_if_le (tgt := 40) C dX10_message_33 (by decide) (fun c15 => ?_) (fun c15 => ?_)
  · rw [if_pos c15] at h
    refine V_aload_n C 0 dX10_message_40 rfl rfl ?_
    obtain ⟨x16, e17, h⟩ := h_b1_some h
    refine V_getR C fl_RX10_109 dX10_message_41 e17 ?_
    refine V_bipush (v := 8) C dX10_message_44 (by decide) ?_
    refine V_iload_n C 1 dX10_message_46 rfl rfl ?_
    refine V_imul C dX10_message_47 ?_
    refine V_iload_n C 2 dX10_message_48 rfl rfl ?_
    refine V_iadd C dX10_message_49 ?_
    obtain ⟨x18, e19, h⟩ := h_b1_some h
    refine V_iald C dX10_message_50 e19 ?_
    cases h
    exact V_iret C B dX10_message_51
  · rw [if_neg c15] at h
    refine V_iconst (v := 0) C dX10_message_36 (by decide) ?_
    refine V_goto (tgt := 51) C dX10_message_37 (by decide) ?_
    cases h
    exact V_iret C B dX10_message_51
set_option maxHeartbeats 4000000 in
set_option maxRecDepth 100000 in
theorem m_X10_message (l : Launch) (D : va_G) (dA : Nat → ClassId) (bs : Nat) {σ σ' : HS} {a0 : Option Nat} {a1 : Int32} {a2 : Int32} {r : Int32} (h : f_X10_message σ a0 a1 a2 = some (r, σ')) : MetC l yX10_message cX10_message 3 (some .int) 2 43 D dA bs [va_rf a0, .int a1, .int a2] (some (.int r)) σ σ' := by
  refine MetC.of (by decide) (h_avR (h_avI (h_avI h_av0))) (Nat.le_of_ble_eq_true rfl) ?_
  intro p e R s m args below meth c C B hnm
  unfold f_X10_message at h
  refine V_sub (lv' := [(0, va_rf a0), (1, .int a1), (2, .int a2)]) [0, 1, 2] rfl ?_
  refine V_aload_n C 0 dX10_message_0 rfl rfl ?_
  refine V_iload_n C 1 dX10_message_1 rfl rfl ?_
  obtain ⟨y4, e5, h⟩ := h_b1_some h
  obtain ⟨r1, s2, e3, h⟩ := h_bd_some h
  refine V_cV (As := [.int a1]) (rest := []) C mv_RX10_176 (m_X10_isMessage l D dA bs e3) e5 rfl rfl (Nat.le_trans h_w0 (by decide)) (h_fr B (by decide)) (h_lo B (by decide)) dX10_message_2 ?_
  refine V_if_ne (tgt := 10) C dX10_message_5 (by decide) (fun c6 => ?_) (fun c6 => ?_)
  · rw [if_neg c6] at h
    refine V_aload_n C 0 dX10_message_10 rfl rfl ?_
    refine V_iload_n C 2 dX10_message_11 rfl rfl ?_
    refine V_iconst (v := 0) C dX10_message_12 (by decide) ?_
    refine V_bipush (v := 7) C dX10_message_13 (by decide) ?_
    obtain ⟨r7, s8, e9, h⟩ := h_bd_some h
    refine V_cS (As := [.int a2, .int 0, .int 7]) (rest := [va_rf a0]) C ms_RX10_120 (m_X10_in l D dA bs e9) rfl rfl (Nat.le_trans (h_wR h_w0) (by decide)) (h_fr B (by decide)) (h_lo B (by decide)) dX10_message_15 ?_
    refine V_if_eq (tgt := 25) C dX10_message_18 (by decide) (fun c10 => ?_) (fun c10 => ?_)
    · rw [if_pos c10] at h
      refine V_iconst (v := 1) C dX10_message_25 (by decide) ?_
      exact V_sub [0, 1, 2] rfl (jw_X10_message_26 C B s8 a0 a1 a2 1 a0 h)
    · rw [if_neg c10] at h
      refine V_iconst (v := 0) C dX10_message_21 (by decide) ?_
      refine V_goto (tgt := 26) C dX10_message_22 (by decide) ?_
      exact V_sub [0, 1, 2] rfl (jw_X10_message_26 C B s8 a0 a1 a2 0 a0 h)
  · rw [if_pos c6] at h
    refine V_iconst (v := 0) C dX10_message_8 (by decide) ?_
    cases h
    exact V_iret C B dX10_message_9
/-! X10_run -/
theorem dX10_run_0 : decode cX10_run 0 = .ok (.aload_n 0, 1) := by decide +kernel
theorem dX10_run_1 : decode cX10_run 1 = .ok (.iload_n 1, 1) := by decide +kernel
theorem dX10_run_2 : decode cX10_run 2 = .ok (.iconst 0, 1) := by decide +kernel
theorem dX10_run_3 : decode cX10_run 3 = .ok (.sipush 1000, 3) := by decide +kernel
theorem dX10_run_6 : decode cX10_run 6 = .ok (.invokestatic 120, 3) := by decide +kernel
theorem dX10_run_9 : decode cX10_run 9 = .ok (.ifCond .eq 7, 3) := by decide +kernel
theorem dX10_run_12 : decode cX10_run 12 = .ok (.iconst 0, 1) := by decide +kernel
theorem dX10_run_13 : decode cX10_run 13 = .ok (.goto 4, 3) := by decide +kernel
theorem dX10_run_16 : decode cX10_run 16 = .ok (.iconst 1, 1) := by decide +kernel
theorem dX10_run_17 : decode cX10_run 17 = .ok (.putfield 117, 3) := by decide +kernel
theorem dX10_run_20 : decode cX10_run 20 = .ok (.iconst 0, 1) := by decide +kernel
theorem dX10_run_21 : decode cX10_run 21 = .ok (.istore_n 2, 1) := by decide +kernel
theorem dX10_run_22 : decode cX10_run 22 = .ok (.aload_n 0, 1) := by decide +kernel
theorem dX10_run_23 : decode cX10_run 23 = .ok (.getfield 117, 3) := by decide +kernel
theorem dX10_run_26 : decode cX10_run 26 = .ok (.ifCond .ne 30, 3) := by decide +kernel
theorem dX10_run_29 : decode cX10_run 29 = .ok (.iload_n 2, 1) := by decide +kernel
theorem dX10_run_30 : decode cX10_run 30 = .ok (.iload_n 1, 1) := by decide +kernel
theorem dX10_run_31 : decode cX10_run 31 = .ok (.if_icmp .ge 25, 3) := by decide +kernel
theorem dX10_run_34 : decode cX10_run 34 = .ok (.aload_n 0, 1) := by decide +kernel
theorem dX10_run_35 : decode cX10_run 35 = .ok (.getfield 153, 3) := by decide +kernel
theorem dX10_run_38 : decode cX10_run 38 = .ok (.ifCond .le 18, 3) := by decide +kernel
theorem dX10_run_41 : decode cX10_run 41 = .ok (.aload_n 0, 1) := by decide +kernel
theorem dX10_run_42 : decode cX10_run 42 = .ok (.iconst 0, 1) := by decide +kernel
theorem dX10_run_43 : decode cX10_run 43 = .ok (.invokevirtual 179, 3) := by decide +kernel
theorem dX10_run_46 : decode cX10_run 46 = .ok (.aload_n 0, 1) := by decide +kernel
theorem dX10_run_47 : decode cX10_run 47 = .ok (.invokevirtual 183, 3) := by decide +kernel
theorem dX10_run_50 : decode cX10_run 50 = .ok (.iinc 2 1, 3) := by decide +kernel
theorem dX10_run_53 : decode cX10_run 53 = .ok (.goto (-31), 3) := by decide +kernel
theorem dX10_run_56 : decode cX10_run 56 = .ok (.iload_n 2, 1) := by decide +kernel
theorem dX10_run_57 : decode cX10_run 57 = .ok (.ireturn, 1) := by decide +kernel
def g_X10_run_22 : Nat → HS → Option Nat → Int32 → Int32 → Option (Int32 × HS)
  | 0, _, _, _, _ => none
  | n + 1, σ, l0, l1, l2 =>
    h_b1 (h_gI σ l0 11 0) fun x7 =>
    if x7 = 0 then
      if l1 ≤ l2 then
        some (l2, σ)
      else
        h_b1 (h_gI σ l0 11 36) fun x11 =>
        if x11 ≤ 0 then
          some (l2, σ)
        else
          h_b1 (h_rcv σ l0 11) fun y17 =>
          h_bd (f_X10_take σ l0 0) fun _ s15 =>
          h_b1 (h_rcv s15 l0 11) fun y22 =>
          h_bd (f_X10_arrive s15 l0) fun _ s20 =>
          g_X10_run_22 n s20 l0 l1 (l2 + 1)
    else
      some (l2, σ)
def f_X10_run (σ : HS) (a0 : Option Nat) (a1 : Int32) : Option (Int32 × HS) :=
  h_bd (f_X10_in σ a1 0 1000) fun r1 s2 =>
  if r1 = 0 then
    h_b1 (h_pI s2 a0 11 0 1) fun s5 =>
    g_X10_run_22 h_hN s5 a0 a1 0
  else
    h_b1 (h_pI s2 a0 11 0 0) fun s24 =>
    g_X10_run_22 h_hN s24 a0 a1 0
set_option maxHeartbeats 4000000 in
set_option maxRecDepth 100000 in
theorem w_X10_run_22 {p : Program} {l : Launch} {e : Env} {R : Room} {s : State} {m : MethodId} {args : Array Value} {below : List Frame} {meth : Method} {c : Code} {D : va_G} {dA : Nat → ClassId} {bs : Nat} (C : h_C p m c cX10_run 3 s args RX10 D dA) {σ0 : HS} (B : h_B R s meth σ0 (some .int) 5 118) {σ' : HS} {r : Int32} : ∀ (n : Nat) (σ : HS) (l0 : Option Nat) (l1 : Int32) (l2 : Int32), g_X10_run_22 n σ l0 l1 l2 = some (r, σ') → V p l e R s m args below meth c D dA bs 3 (MQ below (h_Q D dA bs (some (.int r)) σ0 σ') args s R.cells R.slots (fun q => bs ≤ q)) σ 22 [(0, va_rf l0), (1, .int l1), (2, .int l2)] [] := by
  intro n
  induction n with
  | zero =>
    intro σ l0 l1 l2 h
    rw [g_X10_run_22] at h
    cases h
  | succ n ih =>
    intro σ l0 l1 l2 h
    rw [g_X10_run_22] at h
    refine V_aload_n C 0 dX10_run_22 rfl rfl ?_
    obtain ⟨x7, e8, h⟩ := h_b1_some h
    refine V_getI C fl_RX10_117 dX10_run_23 e8 ?_
    refine V_if_ne (tgt := 56) C dX10_run_26 (by decide) (fun c9 => ?_) (fun c9 => ?_)
    · rw [if_neg c9] at h
      refine V_iload_n C 2 dX10_run_56 rfl rfl ?_
      cases h
      exact V_iret C B dX10_run_57
    · rw [if_pos c9] at h
      refine V_iload_n C 2 dX10_run_29 rfl rfl ?_
      refine V_iload_n C 1 dX10_run_30 rfl rfl ?_
      refine V_icmp_ge (tgt := 56) C dX10_run_31 (by decide) (fun c10 => ?_) (fun c10 => ?_)
      · rw [if_pos c10] at h
        refine V_iload_n C 2 dX10_run_56 rfl rfl ?_
        cases h
        exact V_iret C B dX10_run_57
      · rw [if_neg c10] at h
        refine V_aload_n C 0 dX10_run_34 rfl rfl ?_
        obtain ⟨x11, e12, h⟩ := h_b1_some h
        refine V_getI C fl_RX10_153 dX10_run_35 e12 ?_
        refine V_if_le (tgt := 56) C dX10_run_38 (by decide) (fun c13 => ?_) (fun c13 => ?_)
        · rw [if_pos c13] at h
          refine V_iload_n C 2 dX10_run_56 rfl rfl ?_
          cases h
          exact V_iret C B dX10_run_57
        · rw [if_neg c13] at h
          refine V_aload_n C 0 dX10_run_41 rfl rfl ?_
          refine V_iconst (v := 0) C dX10_run_42 (by decide) ?_
          obtain ⟨y17, e18, h⟩ := h_b1_some h
          obtain ⟨r14, s15, e16, h⟩ := h_bd_some h
          refine V_cV (As := [.int 0]) (rest := []) C mv_RX10_179 (m_X10_take l D dA bs e16) e18 rfl rfl (Nat.le_trans h_w0 (by decide)) (h_fr B (by decide)) (h_lo B (by decide)) dX10_run_43 ?_
          refine V_aload_n C 0 dX10_run_46 rfl rfl ?_
          obtain ⟨y22, e23, h⟩ := h_b1_some h
          obtain ⟨r19, s20, e21, h⟩ := h_bd_some h
          refine V_cV (As := []) (rest := []) C mv_RX10_183 (m_X10_arrive l D dA bs e21) e23 rfl rfl (Nat.le_trans h_w0 (by decide)) (h_fr B (by decide)) (h_lo B (by decide)) dX10_run_47 ?_
          refine V_iinc (v := (l2 + 1)) (lv' := [(2, .int (l2 + 1)), (0, va_rf l0), (1, .int l1)]) C 2 dX10_run_50 rfl rfl (by decide) rfl ?_
          refine V_goto (tgt := 22) C dX10_run_53 (by decide) ?_
          exact V_sub [1, 2, 0] rfl (ih s20 l0 l1 (l2 + 1) h)
set_option maxHeartbeats 4000000 in
set_option maxRecDepth 100000 in
theorem m_X10_run (l : Launch) (D : va_G) (dA : Nat → ClassId) (bs : Nat) {σ σ' : HS} {a0 : Option Nat} {a1 : Int32} {r : Int32} (h : f_X10_run σ a0 a1 = some (r, σ')) : MetC l yX10_run cX10_run 3 (some .int) 5 118 D dA bs [va_rf a0, .int a1] (some (.int r)) σ σ' := by
  refine MetC.of (by decide) (h_avR (h_avI h_av0)) (Nat.le_of_ble_eq_true rfl) ?_
  intro p e R s m args below meth c C B hnm
  unfold f_X10_run at h
  refine V_sub (lv' := [(0, va_rf a0), (1, .int a1)]) [0, 1] rfl ?_
  refine V_aload_n C 0 dX10_run_0 rfl rfl ?_
  refine V_iload_n C 1 dX10_run_1 rfl rfl ?_
  refine V_iconst (v := 0) C dX10_run_2 (by decide) ?_
  refine V_sipush (v := 1000) C dX10_run_3 (by decide) ?_
  obtain ⟨r1, s2, e3, h⟩ := h_bd_some h
  refine V_cS (As := [.int a1, .int 0, .int 1000]) (rest := [va_rf a0]) C ms_RX10_120 (m_X10_in l D dA bs e3) rfl rfl (Nat.le_trans (h_wR h_w0) (by decide)) (h_fr B (by decide)) (h_lo B (by decide)) dX10_run_6 ?_
  refine V_if_eq (tgt := 16) C dX10_run_9 (by decide) (fun c4 => ?_) (fun c4 => ?_)
  · rw [if_pos c4] at h
    refine V_iconst (v := 1) C dX10_run_16 (by decide) ?_
    obtain ⟨s5, e6, h⟩ := h_b1_some h
    refine V_putI C fw_RX10_117 dX10_run_17 e6 ?_
    refine V_iconst (v := 0) C dX10_run_20 (by decide) ?_
    refine V_istore_n (lv' := [(2, .int 0), (0, va_rf a0), (1, .int a1)]) C dX10_run_21 rfl (by decide) rfl ?_
    exact V_sub [1, 2, 0] rfl (w_X10_run_22 C B h_hN s5 a0 a1 0 h)
  · rw [if_neg c4] at h
    refine V_iconst (v := 0) C dX10_run_12 (by decide) ?_
    refine V_goto (tgt := 17) C dX10_run_13 (by decide) ?_
    obtain ⟨s24, e25, h⟩ := h_b1_some h
    refine V_putI C fw_RX10_117 dX10_run_17 e25 ?_
    refine V_iconst (v := 0) C dX10_run_20 (by decide) ?_
    refine V_istore_n (lv' := [(2, .int 0), (0, va_rf a0), (1, .int a1)]) C dX10_run_21 rfl (by decide) rfl ?_
    exact V_sub [1, 2, 0] rfl (w_X10_run_22 C B h_hN s24 a0 a1 0 h)
/-! X10_pass -/
theorem dX10_pass_0 : decode cX10_pass 0 = .ok (.aload_n 0, 1) := by decide +kernel
theorem dX10_pass_1 : decode cX10_pass 1 = .ok (.iload_n 1, 1) := by decide +kernel
theorem dX10_pass_2 : decode cX10_pass 2 = .ok (.iconst 1, 1) := by decide +kernel
theorem dX10_pass_3 : decode cX10_pass 3 = .ok (.sipush 1000, 3) := by decide +kernel
theorem dX10_pass_6 : decode cX10_pass 6 = .ok (.invokestatic 120, 3) := by decide +kernel
theorem dX10_pass_9 : decode cX10_pass 9 = .ok (.ifCond .eq 18, 3) := by decide +kernel
theorem dX10_pass_12 : decode cX10_pass 12 = .ok (.aload_n 0, 1) := by decide +kernel
theorem dX10_pass_13 : decode cX10_pass 13 = .ok (.getfield 150, 3) := by decide +kernel
theorem dX10_pass_16 : decode cX10_pass 16 = .ok (.iload_n 1, 1) := by decide +kernel
theorem dX10_pass_17 : decode cX10_pass 17 = .ok (.iadd, 1) := by decide +kernel
theorem dX10_pass_18 : decode cX10_pass 18 = .ok (.ldc 186, 2) := by decide +kernel
theorem dX10_pass_20 : decode cX10_pass 20 = .ok (.if_icmp .gt 7, 3) := by decide +kernel
theorem dX10_pass_23 : decode cX10_pass 23 = .ok (.iconst 0, 1) := by decide +kernel
theorem dX10_pass_24 : decode cX10_pass 24 = .ok (.goto 4, 3) := by decide +kernel
theorem dX10_pass_27 : decode cX10_pass 27 = .ok (.iconst 1, 1) := by decide +kernel
theorem dX10_pass_28 : decode cX10_pass 28 = .ok (.putfield 117, 3) := by decide +kernel
theorem dX10_pass_31 : decode cX10_pass 31 = .ok (.aload_n 0, 1) := by decide +kernel
theorem dX10_pass_32 : decode cX10_pass 32 = .ok (.getfield 117, 3) := by decide +kernel
theorem dX10_pass_35 : decode cX10_pass 35 = .ok (.ifCond .ne 13, 3) := by decide +kernel
theorem dX10_pass_38 : decode cX10_pass 38 = .ok (.aload_n 0, 1) := by decide +kernel
theorem dX10_pass_39 : decode cX10_pass 39 = .ok (.dup, 1) := by decide +kernel
theorem dX10_pass_40 : decode cX10_pass 40 = .ok (.getfield 150, 3) := by decide +kernel
theorem dX10_pass_43 : decode cX10_pass 43 = .ok (.iload_n 1, 1) := by decide +kernel
theorem dX10_pass_44 : decode cX10_pass 44 = .ok (.iadd, 1) := by decide +kernel
theorem dX10_pass_45 : decode cX10_pass 45 = .ok (.putfield 150, 3) := by decide +kernel
theorem dX10_pass_48 : decode cX10_pass 48 = .ok (.return_, 1) := by decide +kernel
def j_X10_pass_28 (σ : HS) (l0 : Option Nat) (l1 : Int32) (t0 : Int32) (t1 : Option Nat) : Option (Unit × HS) :=
  h_b1 (h_pI σ t1 11 0 t0) fun s5 =>
  h_b1 (h_gI s5 l0 11 0) fun x7 =>
  if x7 = 0 then
    h_b1 (h_gI s5 l0 11 1) fun x10 =>
    h_b1 (h_pI s5 l0 11 1 (x10 + l1)) fun s12 =>
    some ((), s12)
  else
    some ((), s5)
def j_X10_pass_27 (σ : HS) (l0 : Option Nat) (l1 : Int32) (t0 : Option Nat) : Option (Unit × HS) :=
  j_X10_pass_28 σ l0 l1 1 t0
def f_X10_pass (σ : HS) (a0 : Option Nat) (a1 : Int32) : Option (Unit × HS) :=
  h_bd (f_X10_in σ a1 1 1000) fun r1 s2 =>
  if r1 = 0 then
    j_X10_pass_27 s2 a0 a1 a0
  else
    h_b1 (h_gI s2 a0 11 1) fun x14 =>
    if 1000000 < (x14 + a1) then
      j_X10_pass_27 s2 a0 a1 a0
    else
      j_X10_pass_28 s2 a0 a1 0 a0
set_option maxHeartbeats 4000000 in
set_option maxRecDepth 100000 in
theorem jw_X10_pass_28 {p : Program} {l : Launch} {e : Env} {R : Room} {s : State} {m : MethodId} {args : Array Value} {below : List Frame} {meth : Method} {c : Code} {D : va_G} {dA : Nat → ClassId} {bs : Nat} (C : h_C p m c cX10_pass 2 s args RX10 D dA) {σ0 : HS} (B : h_B R s meth σ0 none 1 22) {σ' : HS} : ∀ (σ : HS) (l0 : Option Nat) (l1 : Int32) (t0 : Int32) (t1 : Option Nat), j_X10_pass_28 σ l0 l1 t0 t1 = some ((), σ') → V p l e R s m args below meth c D dA bs 2 (MQ below (h_Q D dA bs none σ0 σ') args s R.cells R.slots (fun q => bs ≤ q)) σ 28 [(0, va_rf l0), (1, .int l1)] [.int t0, va_rf t1] := by
  intro σ l0 l1 t0 t1 h
  unfold j_X10_pass_28 at h
  obtain ⟨s5, e6, h⟩ := h_b1_some h
  refine V_putI C fw_RX10_117 dX10_pass_28 e6 ?_
  refine V_aload_n C 0 dX10_pass_31 rfl rfl ?_
  obtain ⟨x7, e8, h⟩ := h_b1_some h
  refine V_getI C fl_RX10_117 dX10_pass_32 e8 ?_
  refine V_if_ne (tgt := 48) C dX10_pass_35 (by decide) (fun c9 => ?_) (fun c9 => ?_)
  · rw [if_neg c9] at h
    cases h
    exact V_vret C B dX10_pass_48
  · rw [if_pos c9] at h
    refine V_aload_n C 0 dX10_pass_38 rfl rfl ?_
    refine V_dupR C dX10_pass_39 ?_
    obtain ⟨x10, e11, h⟩ := h_b1_some h
    refine V_getI C fl_RX10_150 dX10_pass_40 e11 ?_
    refine V_iload_n C 1 dX10_pass_43 rfl rfl ?_
    refine V_iadd C dX10_pass_44 ?_
    obtain ⟨s12, e13, h⟩ := h_b1_some h
    refine V_putI C fw_RX10_150 dX10_pass_45 e13 ?_
    cases h
    exact V_vret C B dX10_pass_48
set_option maxHeartbeats 4000000 in
set_option maxRecDepth 100000 in
theorem jw_X10_pass_27 {p : Program} {l : Launch} {e : Env} {R : Room} {s : State} {m : MethodId} {args : Array Value} {below : List Frame} {meth : Method} {c : Code} {D : va_G} {dA : Nat → ClassId} {bs : Nat} (C : h_C p m c cX10_pass 2 s args RX10 D dA) {σ0 : HS} (B : h_B R s meth σ0 none 1 22) {σ' : HS} : ∀ (σ : HS) (l0 : Option Nat) (l1 : Int32) (t0 : Option Nat), j_X10_pass_27 σ l0 l1 t0 = some ((), σ') → V p l e R s m args below meth c D dA bs 2 (MQ below (h_Q D dA bs none σ0 σ') args s R.cells R.slots (fun q => bs ≤ q)) σ 27 [(0, va_rf l0), (1, .int l1)] [va_rf t0] := by
  intro σ l0 l1 t0 h
  unfold j_X10_pass_27 at h
  refine V_iconst (v := 1) C dX10_pass_27 (by decide) ?_
  exact V_sub [0, 1] rfl (jw_X10_pass_28 C B σ l0 l1 1 t0 h)
set_option maxHeartbeats 4000000 in
set_option maxRecDepth 100000 in
theorem m_X10_pass (l : Launch) (D : va_G) (dA : Nat → ClassId) (bs : Nat) {σ σ' : HS} {a0 : Option Nat} {a1 : Int32} (h : f_X10_pass σ a0 a1 = some ((), σ')) : MetC l yX10_pass cX10_pass 2 none 1 22 D dA bs [va_rf a0, .int a1] none σ σ' := by
  refine MetC.of (by decide) (h_avR (h_avI h_av0)) (Nat.le_of_ble_eq_true rfl) ?_
  intro p e R s m args below meth c C B hnm
  unfold f_X10_pass at h
  refine V_sub (lv' := [(0, va_rf a0), (1, .int a1)]) [0, 1] rfl ?_
  refine V_aload_n C 0 dX10_pass_0 rfl rfl ?_
  refine V_iload_n C 1 dX10_pass_1 rfl rfl ?_
  refine V_iconst (v := 1) C dX10_pass_2 (by decide) ?_
  refine V_sipush (v := 1000) C dX10_pass_3 (by decide) ?_
  obtain ⟨r1, s2, e3, h⟩ := h_bd_some h
  refine V_cS (As := [.int a1, .int 1, .int 1000]) (rest := [va_rf a0]) C ms_RX10_120 (m_X10_in l D dA bs e3) rfl rfl (Nat.le_trans (h_wR h_w0) (by decide)) (h_fr B (by decide)) (h_lo B (by decide)) dX10_pass_6 ?_
  refine V_if_eq (tgt := 27) C dX10_pass_9 (by decide) (fun c4 => ?_) (fun c4 => ?_)
  · rw [if_pos c4] at h
    exact V_sub [0, 1] rfl (jw_X10_pass_27 C B s2 a0 a1 a0 h)
  · rw [if_neg c4] at h
    refine V_aload_n C 0 dX10_pass_12 rfl rfl ?_
    obtain ⟨x14, e15, h⟩ := h_b1_some h
    refine V_getI C fl_RX10_150 dX10_pass_13 e15 ?_
    refine V_iload_n C 1 dX10_pass_16 rfl rfl ?_
    refine V_iadd C dX10_pass_17 ?_
    refine V_ldc (v := 1000000) C dX10_pass_18 ck_RX10_186 ?_
    refine V_icmp_gt (tgt := 27) C dX10_pass_20 (by decide) (fun c16 => ?_) (fun c16 => ?_)
    · rw [if_pos c16] at h
      exact V_sub [0, 1] rfl (jw_X10_pass_27 C B s2 a0 a1 a0 h)
    · rw [if_neg c16] at h
      refine V_iconst (v := 0) C dX10_pass_23 (by decide) ?_
      refine V_goto (tgt := 28) C dX10_pass_24 (by decide) ?_
      exact V_sub [0, 1] rfl (jw_X10_pass_28 C B s2 a0 a1 0 a0 h)
/-! X10_send -/
theorem dX10_send_0 : decode cX10_send 0 = .ok (.aload_n 0, 1) := by decide +kernel
theorem dX10_send_1 : decode cX10_send 1 = .ok (.aload_n 0, 1) := by decide +kernel
theorem dX10_send_2 : decode cX10_send 2 = .ok (.getfield 231, 3) := by decide +kernel
theorem dX10_send_5 : decode cX10_send 5 = .ok (.sipush 200, 3) := by decide +kernel
theorem dX10_send_8 : decode cX10_send 8 = .ok (.if_icmp .ne 7, 3) := by decide +kernel
theorem dX10_send_11 : decode cX10_send 11 = .ok (.iconst 1, 1) := by decide +kernel
theorem dX10_send_12 : decode cX10_send 12 = .ok (.goto 16, 3) := by decide +kernel
theorem dX10_send_15 : decode cX10_send 15 = .ok (.aload_n 0, 1) := by decide +kernel
theorem dX10_send_16 : decode cX10_send 16 = .ok (.iload_n 1, 1) := by decide +kernel
theorem dX10_send_17 : decode cX10_send 17 = .ok (.invokevirtual 147, 3) := by decide +kernel
theorem dX10_send_20 : decode cX10_send 20 = .ok (.ifCond .eq 7, 3) := by decide +kernel
theorem dX10_send_23 : decode cX10_send 23 = .ok (.iconst 0, 1) := by decide +kernel
theorem dX10_send_24 : decode cX10_send 24 = .ok (.goto 4, 3) := by decide +kernel
theorem dX10_send_27 : decode cX10_send 27 = .ok (.iconst 2, 1) := by decide +kernel
theorem dX10_send_28 : decode cX10_send 28 = .ok (.putfield 117, 3) := by decide +kernel
theorem dX10_send_31 : decode cX10_send 31 = .ok (.aload_n 0, 1) := by decide +kernel
theorem dX10_send_32 : decode cX10_send 32 = .ok (.getfield 117, 3) := by decide +kernel
theorem dX10_send_35 : decode cX10_send 35 = .ok (.ifCond .le 5, 3) := by decide +kernel
theorem dX10_send_38 : decode cX10_send 38 = .ok (.iconst 0, 1) := by decide +kernel
theorem dX10_send_39 : decode cX10_send 39 = .ok (.ireturn, 1) := by decide +kernel
theorem dX10_send_40 : decode cX10_send 40 = .ok (.aload_n 0, 1) := by decide +kernel
theorem dX10_send_41 : decode cX10_send 41 = .ok (.dup, 1) := by decide +kernel
theorem dX10_send_42 : decode cX10_send 42 = .ok (.getfield 231, 3) := by decide +kernel
theorem dX10_send_45 : decode cX10_send 45 = .ok (.iconst 1, 1) := by decide +kernel
theorem dX10_send_46 : decode cX10_send 46 = .ok (.iadd, 1) := by decide +kernel
theorem dX10_send_47 : decode cX10_send 47 = .ok (.putfield 231, 3) := by decide +kernel
theorem dX10_send_50 : decode cX10_send 50 = .ok (.aload_n 0, 1) := by decide +kernel
theorem dX10_send_51 : decode cX10_send 51 = .ok (.getfield 231, 3) := by decide +kernel
theorem dX10_send_54 : decode cX10_send 54 = .ok (.istore_n 3, 1) := by decide +kernel
theorem dX10_send_55 : decode cX10_send 55 = .ok (.aload_n 0, 1) := by decide +kernel
theorem dX10_send_56 : decode cX10_send 56 = .ok (.getfield 88, 3) := by decide +kernel
theorem dX10_send_59 : decode cX10_send 59 = .ok (.iload_n 3, 1) := by decide +kernel
theorem dX10_send_60 : decode cX10_send 60 = .ok (.iload_n 1, 1) := by decide +kernel
theorem dX10_send_61 : decode cX10_send 61 = .ok (.iastore, 1) := by decide +kernel
theorem dX10_send_62 : decode cX10_send 62 = .ok (.aload_n 0, 1) := by decide +kernel
theorem dX10_send_63 : decode cX10_send 63 = .ok (.getfield 91, 3) := by decide +kernel
theorem dX10_send_66 : decode cX10_send 66 = .ok (.iload_n 3, 1) := by decide +kernel
theorem dX10_send_67 : decode cX10_send 67 = .ok (.iload_n 2, 1) := by decide +kernel
theorem dX10_send_68 : decode cX10_send 68 = .ok (.iastore, 1) := by decide +kernel
theorem dX10_send_69 : decode cX10_send 69 = .ok (.aload_n 0, 1) := by decide +kernel
theorem dX10_send_70 : decode cX10_send 70 = .ok (.getfield 100, 3) := by decide +kernel
theorem dX10_send_73 : decode cX10_send 73 = .ok (.iload_n 3, 1) := by decide +kernel
theorem dX10_send_74 : decode cX10_send 74 = .ok (.iconst (-1), 1) := by decide +kernel
theorem dX10_send_75 : decode cX10_send 75 = .ok (.iastore, 1) := by decide +kernel
theorem dX10_send_76 : decode cX10_send 76 = .ok (.aload_n 0, 1) := by decide +kernel
theorem dX10_send_77 : decode cX10_send 77 = .ok (.iload_n 1, 1) := by decide +kernel
theorem dX10_send_78 : decode cX10_send 78 = .ok (.iload_n 2, 1) := by decide +kernel
theorem dX10_send_79 : decode cX10_send 79 = .ok (.invokevirtual 222, 3) := by decide +kernel
theorem dX10_send_82 : decode cX10_send 82 = .ok (.istore 4, 2) := by decide +kernel
theorem dX10_send_84 : decode cX10_send 84 = .ok (.aload_n 0, 1) := by decide +kernel
theorem dX10_send_85 : decode cX10_send 85 = .ok (.iload_n 1, 1) := by decide +kernel
theorem dX10_send_86 : decode cX10_send 86 = .ok (.iload_n 2, 1) := by decide +kernel
theorem dX10_send_87 : decode cX10_send 87 = .ok (.invokevirtual 234, 3) := by decide +kernel
theorem dX10_send_90 : decode cX10_send 90 = .ok (.ifCond .eq 12, 3) := by decide +kernel
theorem dX10_send_93 : decode cX10_send 93 = .ok (.aload_n 0, 1) := by decide +kernel
theorem dX10_send_94 : decode cX10_send 94 = .ok (.iload_n 3, 1) := by decide +kernel
theorem dX10_send_95 : decode cX10_send 95 = .ok (.iload_n 1, 1) := by decide +kernel
theorem dX10_send_96 : decode cX10_send 96 = .ok (.invokevirtual 237, 3) := by decide +kernel
theorem dX10_send_99 : decode cX10_send 99 = .ok (.goto 30, 3) := by decide +kernel
theorem dX10_send_102 : decode cX10_send 102 = .ok (.iload 4, 2) := by decide +kernel
theorem dX10_send_104 : decode cX10_send 104 = .ok (.iconst (-1), 1) := by decide +kernel
theorem dX10_send_105 : decode cX10_send 105 = .ok (.if_icmp .eq 18, 3) := by decide +kernel
theorem dX10_send_108 : decode cX10_send 108 = .ok (.aload_n 0, 1) := by decide +kernel
theorem dX10_send_109 : decode cX10_send 109 = .ok (.iload_n 3, 1) := by decide +kernel
theorem dX10_send_110 : decode cX10_send 110 = .ok (.aload_n 0, 1) := by decide +kernel
theorem dX10_send_111 : decode cX10_send 111 = .ok (.getfield 70, 3) := by decide +kernel
theorem dX10_send_114 : decode cX10_send 114 = .ok (.iload 4, 2) := by decide +kernel
theorem dX10_send_116 : decode cX10_send 116 = .ok (.iaload, 1) := by decide +kernel
theorem dX10_send_117 : decode cX10_send 117 = .ok (.invokevirtual 240, 3) := by decide +kernel
theorem dX10_send_120 : decode cX10_send 120 = .ok (.goto 9, 3) := by decide +kernel
theorem dX10_send_123 : decode cX10_send 123 = .ok (.aload_n 0, 1) := by decide +kernel
theorem dX10_send_124 : decode cX10_send 124 = .ok (.iload_n 3, 1) := by decide +kernel
theorem dX10_send_125 : decode cX10_send 125 = .ok (.iconst 0, 1) := by decide +kernel
theorem dX10_send_126 : decode cX10_send 126 = .ok (.invokevirtual 243, 3) := by decide +kernel
theorem dX10_send_129 : decode cX10_send 129 = .ok (.iload_n 3, 1) := by decide +kernel
theorem dX10_send_130 : decode cX10_send 130 = .ok (.ireturn, 1) := by decide +kernel
def j_X10_send_28 (σ : HS) (l0 : Option Nat) (l1 : Int32) (l2 : Int32) (t0 : Int32) (t1 : Option Nat) : Option (Int32 × HS) :=
  h_b1 (h_pI σ t1 11 0 t0) fun s10 =>
  h_b1 (h_gI s10 l0 11 0) fun x12 =>
  if x12 ≤ 0 then
    h_b1 (h_gI s10 l0 11 28) fun x15 =>
    h_b1 (h_pI s10 l0 11 28 (x15 + 1)) fun s17 =>
    h_b1 (h_gI s17 l0 11 28) fun x19 =>
    h_b1 (h_gR s17 l0 11 29) fun x21 =>
    h_b1 (h_sI s17 x21 100 x19 l1) fun s23 =>
    h_b1 (h_gR s23 l0 11 30) fun x25 =>
    h_b1 (h_sI s23 x25 100 x19 l2) fun s27 =>
    h_b1 (h_gR s27 l0 11 33) fun x29 =>
    h_b1 (h_sI s27 x29 100 x19 (-1)) fun s31 =>
    h_b1 (h_rcv s31 l0 11) fun y36 =>
    h_bd (f_X10_noteFor s31 l0 l1 l2) fun r33 s34 =>
    h_b1 (h_rcv s34 l0 11) fun y41 =>
    h_bd (f_X10_hasEndpoint s34 l0 l1 l2) fun r38 s39 =>
    if r38 = 0 then
      if r33 = (-1) then
        h_b1 (h_rcv s39 l0 11) fun y48 =>
        h_bd (f_X10_ask s39 l0 x19 0) fun _ s46 =>
        some (x19, s46)
      else
        h_b1 (h_gR s39 l0 11 21) fun x50 =>
        h_b1 (h_aI s39 x50 100 r33) fun x52 =>
        h_b1 (h_rcv s39 l0 11) fun y57 =>
        h_bd (f_X10_follow s39 l0 x19 x52) fun _ s55 =>
        some (x19, s55)
    else
      h_b1 (h_rcv s39 l0 11) fun y62 =>
      h_bd (f_X10_deliver s39 l0 x19 l1) fun _ s60 =>
      some (x19, s60)
  else
    some (0, s10)
def f_X10_send (σ : HS) (a0 : Option Nat) (a1 : Int32) (a2 : Int32) : Option (Int32 × HS) :=
  h_b1 (h_gI σ a0 11 28) fun x1 =>
  if x1 = 200 then
    j_X10_send_28 σ a0 a1 a2 1 a0
  else
    h_b1 (h_rcv σ a0 11) fun y7 =>
    h_bd (f_X10_isSite σ a0 a1) fun r4 s5 =>
    if r4 = 0 then
      j_X10_send_28 s5 a0 a1 a2 2 a0
    else
      j_X10_send_28 s5 a0 a1 a2 0 a0
set_option maxHeartbeats 4000000 in
set_option maxRecDepth 100000 in
theorem jw_X10_send_28 {p : Program} {l : Launch} {e : Env} {R : Room} {s : State} {m : MethodId} {args : Array Value} {below : List Frame} {meth : Method} {c : Code} {D : va_G} {dA : Nat → ClassId} {bs : Nat} (C : h_C p m c cX10_send 5 s args RX10 D dA) {σ0 : HS} (B : h_B R s meth σ0 (some .int) 2 50) {σ' : HS} {r : Int32} : ∀ (σ : HS) (l0 : Option Nat) (l1 : Int32) (l2 : Int32) (t0 : Int32) (t1 : Option Nat), j_X10_send_28 σ l0 l1 l2 t0 t1 = some (r, σ') → V p l e R s m args below meth c D dA bs 5 (MQ below (h_Q D dA bs (some (.int r)) σ0 σ') args s R.cells R.slots (fun q => bs ≤ q)) σ 28 [(0, va_rf l0), (1, .int l1), (2, .int l2)] [.int t0, va_rf t1] := by
  intro σ l0 l1 l2 t0 t1 h
  unfold j_X10_send_28 at h
  obtain ⟨s10, e11, h⟩ := h_b1_some h
  refine V_putI C fw_RX10_117 dX10_send_28 e11 ?_
  refine V_aload_n C 0 dX10_send_31 rfl rfl ?_
  obtain ⟨x12, e13, h⟩ := h_b1_some h
  refine V_getI C fl_RX10_117 dX10_send_32 e13 ?_
  refine V_if_le (tgt := 40) C dX10_send_35 (by decide) (fun c14 => ?_) (fun c14 => ?_)
  · rw [if_pos c14] at h
    refine V_aload_n C 0 dX10_send_40 rfl rfl ?_
    refine V_dupR C dX10_send_41 ?_
    obtain ⟨x15, e16, h⟩ := h_b1_some h
    refine V_getI C fl_RX10_231 dX10_send_42 e16 ?_
    refine V_iconst (v := 1) C dX10_send_45 (by decide) ?_
    refine V_iadd C dX10_send_46 ?_
    obtain ⟨s17, e18, h⟩ := h_b1_some h
    refine V_putI C fw_RX10_231 dX10_send_47 e18 ?_
    refine V_aload_n C 0 dX10_send_50 rfl rfl ?_
    obtain ⟨x19, e20, h⟩ := h_b1_some h
    refine V_getI C fl_RX10_231 dX10_send_51 e20 ?_
    refine V_istore_n (lv' := [(3, .int x19), (0, va_rf l0), (1, .int l1), (2, .int l2)]) C dX10_send_54 rfl (by decide) rfl ?_
    refine V_aload_n C 1 dX10_send_55 rfl rfl ?_
    obtain ⟨x21, e22, h⟩ := h_b1_some h
    refine V_getR C fl_RX10_88 dX10_send_56 e22 ?_
    refine V_iload_n C 0 dX10_send_59 rfl rfl ?_
    refine V_iload_n C 2 dX10_send_60 rfl rfl ?_
    obtain ⟨s23, e24, h⟩ := h_b1_some h
    refine V_iast C dX10_send_61 e24 ?_
    refine V_aload_n C 1 dX10_send_62 rfl rfl ?_
    obtain ⟨x25, e26, h⟩ := h_b1_some h
    refine V_getR C fl_RX10_91 dX10_send_63 e26 ?_
    refine V_iload_n C 0 dX10_send_66 rfl rfl ?_
    refine V_iload_n C 3 dX10_send_67 rfl rfl ?_
    obtain ⟨s27, e28, h⟩ := h_b1_some h
    refine V_iast C dX10_send_68 e28 ?_
    refine V_aload_n C 1 dX10_send_69 rfl rfl ?_
    obtain ⟨x29, e30, h⟩ := h_b1_some h
    refine V_getR C fl_RX10_100 dX10_send_70 e30 ?_
    refine V_iload_n C 0 dX10_send_73 rfl rfl ?_
    refine V_iconst (v := (-1)) C dX10_send_74 (by decide) ?_
    obtain ⟨s31, e32, h⟩ := h_b1_some h
    refine V_iast C dX10_send_75 e32 ?_
    refine V_aload_n C 1 dX10_send_76 rfl rfl ?_
    refine V_iload_n C 2 dX10_send_77 rfl rfl ?_
    refine V_iload_n C 3 dX10_send_78 rfl rfl ?_
    obtain ⟨y36, e37, h⟩ := h_b1_some h
    obtain ⟨r33, s34, e35, h⟩ := h_bd_some h
    refine V_cV (As := [.int l1, .int l2]) (rest := []) C mv_RX10_222 (m_X10_noteFor l D dA bs e35) e37 rfl rfl (Nat.le_trans h_w0 (by decide)) (h_fr B (by decide)) (h_lo B (by decide)) dX10_send_79 ?_
    refine V_istore (lv' := [(4, .int r33), (3, .int x19), (0, va_rf l0), (1, .int l1), (2, .int l2)]) C dX10_send_82 (by decide) rfl ?_
    refine V_aload_n C 2 dX10_send_84 rfl rfl ?_
    refine V_iload_n C 3 dX10_send_85 rfl rfl ?_
    refine V_iload_n C 4 dX10_send_86 rfl rfl ?_
    obtain ⟨y41, e42, h⟩ := h_b1_some h
    obtain ⟨r38, s39, e40, h⟩ := h_bd_some h
    refine V_cV (As := [.int l1, .int l2]) (rest := []) C mv_RX10_234 (m_X10_hasEndpoint l D dA bs e40) e42 rfl rfl (Nat.le_trans h_w0 (by decide)) (h_fr B (by decide)) (h_lo B (by decide)) dX10_send_87 ?_
    refine V_if_eq (tgt := 102) C dX10_send_90 (by decide) (fun c43 => ?_) (fun c43 => ?_)
    · rw [if_pos c43] at h
      refine V_iload C 0 dX10_send_102 rfl ?_
      refine V_iconst (v := (-1)) C dX10_send_104 (by decide) ?_
      refine V_icmp_eq (tgt := 123) C dX10_send_105 (by decide) (fun c44 => ?_) (fun c44 => ?_)
      · rw [if_pos c44] at h
        refine V_aload_n C 2 dX10_send_123 rfl rfl ?_
        refine V_iload_n C 1 dX10_send_124 rfl rfl ?_
        refine V_iconst (v := 0) C dX10_send_125 (by decide) ?_
        obtain ⟨y48, e49, h⟩ := h_b1_some h
        obtain ⟨r45, s46, e47, h⟩ := h_bd_some h
        refine V_cV (As := [.int x19, .int 0]) (rest := []) C mv_RX10_243 (m_X10_ask l D dA bs e47) e49 rfl rfl (Nat.le_trans h_w0 (by decide)) (h_fr B (by decide)) (h_lo B (by decide)) dX10_send_126 ?_
        refine V_iload_n C 1 dX10_send_129 rfl rfl ?_
        cases h
        exact V_iret C B dX10_send_130
      · rw [if_neg c44] at h
        refine V_aload_n C 2 dX10_send_108 rfl rfl ?_
        refine V_iload_n C 1 dX10_send_109 rfl rfl ?_
        refine V_aload_n C 2 dX10_send_110 rfl rfl ?_
        obtain ⟨x50, e51, h⟩ := h_b1_some h
        refine V_getR C fl_RX10_70 dX10_send_111 e51 ?_
        refine V_iload C 0 dX10_send_114 rfl ?_
        obtain ⟨x52, e53, h⟩ := h_b1_some h
        refine V_iald C dX10_send_116 e53 ?_
        obtain ⟨y57, e58, h⟩ := h_b1_some h
        obtain ⟨r54, s55, e56, h⟩ := h_bd_some h
        refine V_cV (As := [.int x19, .int x52]) (rest := []) C mv_RX10_240 (m_X10_follow l D dA bs e56) e58 rfl rfl (Nat.le_trans h_w0 (by decide)) (h_fr B (by decide)) (h_lo B (by decide)) dX10_send_117 ?_
        refine V_goto (tgt := 129) C dX10_send_120 (by decide) ?_
        refine V_iload_n C 1 dX10_send_129 rfl rfl ?_
        cases h
        exact V_iret C B dX10_send_130
    · rw [if_neg c43] at h
      refine V_aload_n C 2 dX10_send_93 rfl rfl ?_
      refine V_iload_n C 1 dX10_send_94 rfl rfl ?_
      refine V_iload_n C 3 dX10_send_95 rfl rfl ?_
      obtain ⟨y62, e63, h⟩ := h_b1_some h
      obtain ⟨r59, s60, e61, h⟩ := h_bd_some h
      refine V_cV (As := [.int x19, .int l1]) (rest := []) C mv_RX10_237 (m_X10_deliver l D dA bs e61) e63 rfl rfl (Nat.le_trans h_w0 (by decide)) (h_fr B (by decide)) (h_lo B (by decide)) dX10_send_96 ?_
      refine V_goto (tgt := 129) C dX10_send_99 (by decide) ?_
      refine V_iload_n C 1 dX10_send_129 rfl rfl ?_
      cases h
      exact V_iret C B dX10_send_130
  · rw [if_neg c14] at h
    refine V_iconst (v := 0) C dX10_send_38 (by decide) ?_
    cases h
    exact V_iret C B dX10_send_39
set_option maxHeartbeats 4000000 in
set_option maxRecDepth 100000 in
theorem m_X10_send (l : Launch) (D : va_G) (dA : Nat → ClassId) (bs : Nat) {σ σ' : HS} {a0 : Option Nat} {a1 : Int32} {a2 : Int32} {r : Int32} (h : f_X10_send σ a0 a1 a2 = some (r, σ')) : MetC l yX10_send cX10_send 5 (some .int) 2 50 D dA bs [va_rf a0, .int a1, .int a2] (some (.int r)) σ σ' := by
  refine MetC.of (by decide) (h_avR (h_avI (h_avI h_av0))) (Nat.le_of_ble_eq_true rfl) ?_
  intro p e R s m args below meth c C B hnm
  unfold f_X10_send at h
  refine V_sub (lv' := [(0, va_rf a0), (1, .int a1), (2, .int a2)]) [0, 1, 2] rfl ?_
  refine V_aload_n C 0 dX10_send_0 rfl rfl ?_
  refine V_aload_n C 0 dX10_send_1 rfl rfl ?_
  obtain ⟨x1, e2, h⟩ := h_b1_some h
  refine V_getI C fl_RX10_231 dX10_send_2 e2 ?_
  refine V_sipush (v := 200) C dX10_send_5 (by decide) ?_
  refine V_icmp_ne (tgt := 15) C dX10_send_8 (by decide) (fun c3 => ?_) (fun c3 => ?_)
  · rw [if_neg c3] at h
    refine V_aload_n C 0 dX10_send_15 rfl rfl ?_
    refine V_iload_n C 1 dX10_send_16 rfl rfl ?_
    obtain ⟨y7, e8, h⟩ := h_b1_some h
    obtain ⟨r4, s5, e6, h⟩ := h_bd_some h
    refine V_cV (As := [.int a1]) (rest := [va_rf a0]) C mv_RX10_147 (m_X10_isSite l D dA bs e6) e8 rfl rfl (Nat.le_trans (h_wR h_w0) (by decide)) (h_fr B (by decide)) (h_lo B (by decide)) dX10_send_17 ?_
    refine V_if_eq (tgt := 27) C dX10_send_20 (by decide) (fun c9 => ?_) (fun c9 => ?_)
    · rw [if_pos c9] at h
      refine V_iconst (v := 2) C dX10_send_27 (by decide) ?_
      exact V_sub [0, 1, 2] rfl (jw_X10_send_28 C B s5 a0 a1 a2 2 a0 h)
    · rw [if_neg c9] at h
      refine V_iconst (v := 0) C dX10_send_23 (by decide) ?_
      refine V_goto (tgt := 28) C dX10_send_24 (by decide) ?_
      exact V_sub [0, 1, 2] rfl (jw_X10_send_28 C B s5 a0 a1 a2 0 a0 h)
  · rw [if_pos c3] at h
    refine V_iconst (v := 1) C dX10_send_11 (by decide) ?_
    refine V_goto (tgt := 28) C dX10_send_12 (by decide) ?_
    exact V_sub [0, 1, 2] rfl (jw_X10_send_28 C B σ a0 a1 a2 1 a0 h)
/-! X10_packet -/
theorem dX10_packet_0 : decode cX10_packet 0 = .ok (.aload_n 0, 1) := by decide +kernel
theorem dX10_packet_1 : decode cX10_packet 1 = .ok (.iload_n 1, 1) := by decide +kernel
theorem dX10_packet_2 : decode cX10_packet 2 = .ok (.iconst 1, 1) := by decide +kernel
theorem dX10_packet_3 : decode cX10_packet 3 = .ok (.aload_n 0, 1) := by decide +kernel
theorem dX10_packet_4 : decode cX10_packet 4 = .ok (.getfield 231, 3) := by decide +kernel
theorem dX10_packet_7 : decode cX10_packet 7 = .ok (.invokestatic 120, 3) := by decide +kernel
theorem dX10_packet_10 : decode cX10_packet 10 = .ok (.ifCond .eq 7, 3) := by decide +kernel
theorem dX10_packet_13 : decode cX10_packet 13 = .ok (.iconst 0, 1) := by decide +kernel
theorem dX10_packet_14 : decode cX10_packet 14 = .ok (.goto 4, 3) := by decide +kernel
theorem dX10_packet_17 : decode cX10_packet 17 = .ok (.iconst 1, 1) := by decide +kernel
theorem dX10_packet_18 : decode cX10_packet 18 = .ok (.putfield 117, 3) := by decide +kernel
theorem dX10_packet_21 : decode cX10_packet 21 = .ok (.aload_n 0, 1) := by decide +kernel
theorem dX10_packet_22 : decode cX10_packet 22 = .ok (.getfield 117, 3) := by decide +kernel
theorem dX10_packet_25 : decode cX10_packet 25 = .ok (.ifCond .le 5, 3) := by decide +kernel
theorem dX10_packet_28 : decode cX10_packet 28 = .ok (.iconst 0, 1) := by decide +kernel
theorem dX10_packet_29 : decode cX10_packet 29 = .ok (.ireturn, 1) := by decide +kernel
theorem dX10_packet_30 : decode cX10_packet 30 = .ok (.iload_n 2, 1) := by decide +kernel
theorem dX10_packet_31 : decode cX10_packet 31 = .ok (.tableswitch 57 0 3 #[29, 36, 43, 50], 29) := by decide +kernel
theorem dX10_packet_60 : decode cX10_packet 60 = .ok (.aload_n 0, 1) := by decide +kernel
theorem dX10_packet_61 : decode cX10_packet 61 = .ok (.getfield 94, 3) := by decide +kernel
theorem dX10_packet_64 : decode cX10_packet 64 = .ok (.iload_n 1, 1) := by decide +kernel
theorem dX10_packet_65 : decode cX10_packet 65 = .ok (.iaload, 1) := by decide +kernel
theorem dX10_packet_66 : decode cX10_packet 66 = .ok (.ireturn, 1) := by decide +kernel
theorem dX10_packet_67 : decode cX10_packet 67 = .ok (.aload_n 0, 1) := by decide +kernel
theorem dX10_packet_68 : decode cX10_packet 68 = .ok (.getfield 100, 3) := by decide +kernel
theorem dX10_packet_71 : decode cX10_packet 71 = .ok (.iload_n 1, 1) := by decide +kernel
theorem dX10_packet_72 : decode cX10_packet 72 = .ok (.iaload, 1) := by decide +kernel
theorem dX10_packet_73 : decode cX10_packet 73 = .ok (.ireturn, 1) := by decide +kernel
theorem dX10_packet_74 : decode cX10_packet 74 = .ok (.aload_n 0, 1) := by decide +kernel
theorem dX10_packet_75 : decode cX10_packet 75 = .ok (.getfield 103, 3) := by decide +kernel
theorem dX10_packet_78 : decode cX10_packet 78 = .ok (.iload_n 1, 1) := by decide +kernel
theorem dX10_packet_79 : decode cX10_packet 79 = .ok (.iaload, 1) := by decide +kernel
theorem dX10_packet_80 : decode cX10_packet 80 = .ok (.ireturn, 1) := by decide +kernel
theorem dX10_packet_81 : decode cX10_packet 81 = .ok (.aload_n 0, 1) := by decide +kernel
theorem dX10_packet_82 : decode cX10_packet 82 = .ok (.getfield 106, 3) := by decide +kernel
theorem dX10_packet_85 : decode cX10_packet 85 = .ok (.iload_n 1, 1) := by decide +kernel
theorem dX10_packet_86 : decode cX10_packet 86 = .ok (.iaload, 1) := by decide +kernel
theorem dX10_packet_87 : decode cX10_packet 87 = .ok (.ireturn, 1) := by decide +kernel
theorem dX10_packet_88 : decode cX10_packet 88 = .ok (.iconst (-1), 1) := by decide +kernel
theorem dX10_packet_89 : decode cX10_packet 89 = .ok (.ireturn, 1) := by decide +kernel
def j_X10_packet_18 (σ : HS) (l0 : Option Nat) (l1 : Int32) (l2 : Int32) (t0 : Int32) (t1 : Option Nat) : Option (Int32 × HS) :=
  h_b1 (h_pI σ t1 11 0 t0) fun s7 =>
  h_b1 (h_gI s7 l0 11 0) fun x9 =>
  if x9 ≤ 0 then
    if l2 = 0 then
      h_b1 (h_gR s7 l0 11 31) fun x13 =>
      h_b1 (h_aI s7 x13 100 l1) fun x15 =>
      some (x15, s7)
    else
      if l2 = 1 then
        h_b1 (h_gR s7 l0 11 33) fun x18 =>
        h_b1 (h_aI s7 x18 100 l1) fun x20 =>
        some (x20, s7)
      else
        if l2 = 2 then
          h_b1 (h_gR s7 l0 11 34) fun x23 =>
          h_b1 (h_aI s7 x23 100 l1) fun x25 =>
          some (x25, s7)
        else
          if l2 = 3 then
            h_b1 (h_gR s7 l0 11 35) fun x28 =>
            h_b1 (h_aI s7 x28 100 l1) fun x30 =>
            some (x30, s7)
          else
            some ((-1), s7)
  else
    some (0, s7)
def f_X10_packet (σ : HS) (a0 : Option Nat) (a1 : Int32) (a2 : Int32) : Option (Int32 × HS) :=
  h_b1 (h_gI σ a0 11 28) fun x1 =>
  h_bd (f_X10_in σ a1 1 x1) fun r3 s4 =>
  if r3 = 0 then
    j_X10_packet_18 s4 a0 a1 a2 1 a0
  else
    j_X10_packet_18 s4 a0 a1 a2 0 a0
set_option maxHeartbeats 4000000 in
set_option maxRecDepth 100000 in
theorem jw_X10_packet_18 {p : Program} {l : Launch} {e : Env} {R : Room} {s : State} {m : MethodId} {args : Array Value} {below : List Frame} {meth : Method} {c : Code} {D : va_G} {dA : Nat → ClassId} {bs : Nat} (C : h_C p m c cX10_packet 3 s args RX10 D dA) {σ0 : HS} (B : h_B R s meth σ0 (some .int) 1 22) {σ' : HS} {r : Int32} : ∀ (σ : HS) (l0 : Option Nat) (l1 : Int32) (l2 : Int32) (t0 : Int32) (t1 : Option Nat), j_X10_packet_18 σ l0 l1 l2 t0 t1 = some (r, σ') → V p l e R s m args below meth c D dA bs 3 (MQ below (h_Q D dA bs (some (.int r)) σ0 σ') args s R.cells R.slots (fun q => bs ≤ q)) σ 18 [(0, va_rf l0), (1, .int l1), (2, .int l2)] [.int t0, va_rf t1] := by
  intro σ l0 l1 l2 t0 t1 h
  unfold j_X10_packet_18 at h
  obtain ⟨s7, e8, h⟩ := h_b1_some h
  refine V_putI C fw_RX10_117 dX10_packet_18 e8 ?_
  refine V_aload_n C 0 dX10_packet_21 rfl rfl ?_
  obtain ⟨x9, e10, h⟩ := h_b1_some h
  refine V_getI C fl_RX10_117 dX10_packet_22 e10 ?_
  refine V_if_le (tgt := 30) C dX10_packet_25 (by decide) (fun c11 => ?_) (fun c11 => ?_)
  · rw [if_pos c11] at h
    refine V_iload_n C 2 dX10_packet_30 rfl rfl ?_
    by_cases c12 : l2 = 0
    · rw [if_pos c12] at h
      refine V_tabIn (tgt := 60) C dX10_packet_31 (by rw [c12]; decide) (by rw [c12]; decide) (by rw [c12]; rfl) (by decide) ?_
      refine V_aload_n C 0 dX10_packet_60 rfl rfl ?_
      obtain ⟨x13, e14, h⟩ := h_b1_some h
      refine V_getR C fl_RX10_94 dX10_packet_61 e14 ?_
      refine V_iload_n C 1 dX10_packet_64 rfl rfl ?_
      obtain ⟨x15, e16, h⟩ := h_b1_some h
      refine V_iald C dX10_packet_65 e16 ?_
      cases h
      exact V_iret C B dX10_packet_66
    · rw [if_neg c12] at h
      by_cases c17 : l2 = 1
      · rw [if_pos c17] at h
        refine V_tabIn (tgt := 67) C dX10_packet_31 (by rw [c17]; decide) (by rw [c17]; decide) (by rw [c17]; rfl) (by decide) ?_
        refine V_aload_n C 0 dX10_packet_67 rfl rfl ?_
        obtain ⟨x18, e19, h⟩ := h_b1_some h
        refine V_getR C fl_RX10_100 dX10_packet_68 e19 ?_
        refine V_iload_n C 1 dX10_packet_71 rfl rfl ?_
        obtain ⟨x20, e21, h⟩ := h_b1_some h
        refine V_iald C dX10_packet_72 e21 ?_
        cases h
        exact V_iret C B dX10_packet_73
      · rw [if_neg c17] at h
        by_cases c22 : l2 = 2
        · rw [if_pos c22] at h
          refine V_tabIn (tgt := 74) C dX10_packet_31 (by rw [c22]; decide) (by rw [c22]; decide) (by rw [c22]; rfl) (by decide) ?_
          refine V_aload_n C 0 dX10_packet_74 rfl rfl ?_
          obtain ⟨x23, e24, h⟩ := h_b1_some h
          refine V_getR C fl_RX10_103 dX10_packet_75 e24 ?_
          refine V_iload_n C 1 dX10_packet_78 rfl rfl ?_
          obtain ⟨x25, e26, h⟩ := h_b1_some h
          refine V_iald C dX10_packet_79 e26 ?_
          cases h
          exact V_iret C B dX10_packet_80
        · rw [if_neg c22] at h
          by_cases c27 : l2 = 3
          · rw [if_pos c27] at h
            refine V_tabIn (tgt := 81) C dX10_packet_31 (by rw [c27]; decide) (by rw [c27]; decide) (by rw [c27]; rfl) (by decide) ?_
            refine V_aload_n C 0 dX10_packet_81 rfl rfl ?_
            obtain ⟨x28, e29, h⟩ := h_b1_some h
            refine V_getR C fl_RX10_106 dX10_packet_82 e29 ?_
            refine V_iload_n C 1 dX10_packet_85 rfl rfl ?_
            obtain ⟨x30, e31, h⟩ := h_b1_some h
            refine V_iald C dX10_packet_86 e31 ?_
            cases h
            exact V_iret C B dX10_packet_87
          · rw [if_neg c27] at h
            refine V_tabOut (tgt := 88) C dX10_packet_31 (by have q0 := lv_neT c12 (show (0 : Int32).toInt = 0 by decide); have q1 := lv_neT c17 (show (1 : Int32).toInt = 1 by decide); have q2 := lv_neT c22 (show (2 : Int32).toInt = 2 by decide); have q3 := lv_neT c27 (show (3 : Int32).toInt = 3 by decide); omega) (by decide) ?_
            refine V_iconst (v := (-1)) C dX10_packet_88 (by decide) ?_
            cases h
            exact V_iret C B dX10_packet_89
  · rw [if_neg c11] at h
    refine V_iconst (v := 0) C dX10_packet_28 (by decide) ?_
    cases h
    exact V_iret C B dX10_packet_29
set_option maxHeartbeats 4000000 in
set_option maxRecDepth 100000 in
theorem m_X10_packet (l : Launch) (D : va_G) (dA : Nat → ClassId) (bs : Nat) {σ σ' : HS} {a0 : Option Nat} {a1 : Int32} {a2 : Int32} {r : Int32} (h : f_X10_packet σ a0 a1 a2 = some (r, σ')) : MetC l yX10_packet cX10_packet 3 (some .int) 1 22 D dA bs [va_rf a0, .int a1, .int a2] (some (.int r)) σ σ' := by
  refine MetC.of (by decide) (h_avR (h_avI (h_avI h_av0))) (Nat.le_of_ble_eq_true rfl) ?_
  intro p e R s m args below meth c C B hnm
  unfold f_X10_packet at h
  refine V_sub (lv' := [(0, va_rf a0), (1, .int a1), (2, .int a2)]) [0, 1, 2] rfl ?_
  refine V_aload_n C 0 dX10_packet_0 rfl rfl ?_
  refine V_iload_n C 1 dX10_packet_1 rfl rfl ?_
  refine V_iconst (v := 1) C dX10_packet_2 (by decide) ?_
  refine V_aload_n C 0 dX10_packet_3 rfl rfl ?_
  obtain ⟨x1, e2, h⟩ := h_b1_some h
  refine V_getI C fl_RX10_231 dX10_packet_4 e2 ?_
  obtain ⟨r3, s4, e5, h⟩ := h_bd_some h
  refine V_cS (As := [.int a1, .int 1, .int x1]) (rest := [va_rf a0]) C ms_RX10_120 (m_X10_in l D dA bs e5) rfl rfl (Nat.le_trans (h_wR h_w0) (by decide)) (h_fr B (by decide)) (h_lo B (by decide)) dX10_packet_7 ?_
  refine V_if_eq (tgt := 17) C dX10_packet_10 (by decide) (fun c6 => ?_) (fun c6 => ?_)
  · rw [if_pos c6] at h
    refine V_iconst (v := 1) C dX10_packet_17 (by decide) ?_
    exact V_sub [0, 1, 2] rfl (jw_X10_packet_18 C B s4 a0 a1 a2 1 a0 h)
  · rw [if_neg c6] at h
    refine V_iconst (v := 0) C dX10_packet_13 (by decide) ?_
    refine V_goto (tgt := 18) C dX10_packet_14 (by decide) ?_
    exact V_sub [0, 1, 2] rfl (jw_X10_packet_18 C B s4 a0 a1 a2 0 a0 h)
/-! X10_note -/
theorem dX10_note_0 : decode cX10_note 0 = .ok (.aload_n 0, 1) := by decide +kernel
theorem dX10_note_1 : decode cX10_note 1 = .ok (.aload_n 0, 1) := by decide +kernel
theorem dX10_note_2 : decode cX10_note 2 = .ok (.iload_n 1, 1) := by decide +kernel
theorem dX10_note_3 : decode cX10_note 3 = .ok (.invokevirtual 147, 3) := by decide +kernel
theorem dX10_note_6 : decode cX10_note 6 = .ok (.ifCond .eq 7, 3) := by decide +kernel
theorem dX10_note_9 : decode cX10_note 9 = .ok (.iconst 0, 1) := by decide +kernel
theorem dX10_note_10 : decode cX10_note 10 = .ok (.goto 4, 3) := by decide +kernel
theorem dX10_note_13 : decode cX10_note 13 = .ok (.iconst 1, 1) := by decide +kernel
theorem dX10_note_14 : decode cX10_note 14 = .ok (.putfield 117, 3) := by decide +kernel
theorem dX10_note_17 : decode cX10_note 17 = .ok (.aload_n 0, 1) := by decide +kernel
theorem dX10_note_18 : decode cX10_note 18 = .ok (.getfield 117, 3) := by decide +kernel
theorem dX10_note_21 : decode cX10_note 21 = .ok (.ifCond .le 5, 3) := by decide +kernel
theorem dX10_note_24 : decode cX10_note 24 = .ok (.iconst 0, 1) := by decide +kernel
theorem dX10_note_25 : decode cX10_note 25 = .ok (.ireturn, 1) := by decide +kernel
theorem dX10_note_26 : decode cX10_note 26 = .ok (.aload_n 0, 1) := by decide +kernel
theorem dX10_note_27 : decode cX10_note 27 = .ok (.iload_n 1, 1) := by decide +kernel
theorem dX10_note_28 : decode cX10_note 28 = .ok (.iload_n 2, 1) := by decide +kernel
theorem dX10_note_29 : decode cX10_note 29 = .ok (.invokevirtual 222, 3) := by decide +kernel
theorem dX10_note_32 : decode cX10_note 32 = .ok (.istore 4, 2) := by decide +kernel
theorem dX10_note_34 : decode cX10_note 34 = .ok (.iload 4, 2) := by decide +kernel
theorem dX10_note_36 : decode cX10_note 36 = .ok (.iconst (-1), 1) := by decide +kernel
theorem dX10_note_37 : decode cX10_note 37 = .ok (.if_icmp .ne 5, 3) := by decide +kernel
theorem dX10_note_40 : decode cX10_note 40 = .ok (.iconst (-1), 1) := by decide +kernel
theorem dX10_note_41 : decode cX10_note 41 = .ok (.ireturn, 1) := by decide +kernel
theorem dX10_note_42 : decode cX10_note 42 = .ok (.iload_n 3, 1) := by decide +kernel
theorem dX10_note_43 : decode cX10_note 43 = .ok (.ifCond .ne 13, 3) := by decide +kernel
theorem dX10_note_46 : decode cX10_note 46 = .ok (.aload_n 0, 1) := by decide +kernel
theorem dX10_note_47 : decode cX10_note 47 = .ok (.getfield 67, 3) := by decide +kernel
theorem dX10_note_50 : decode cX10_note 50 = .ok (.iload 4, 2) := by decide +kernel
theorem dX10_note_52 : decode cX10_note 52 = .ok (.iaload, 1) := by decide +kernel
theorem dX10_note_53 : decode cX10_note 53 = .ok (.goto 34, 3) := by decide +kernel
theorem dX10_note_56 : decode cX10_note 56 = .ok (.iload_n 3, 1) := by decide +kernel
theorem dX10_note_57 : decode cX10_note 57 = .ok (.iconst 1, 1) := by decide +kernel
theorem dX10_note_58 : decode cX10_note 58 = .ok (.if_icmp .ne 13, 3) := by decide +kernel
theorem dX10_note_61 : decode cX10_note 61 = .ok (.aload_n 0, 1) := by decide +kernel
theorem dX10_note_62 : decode cX10_note 62 = .ok (.getfield 70, 3) := by decide +kernel
theorem dX10_note_65 : decode cX10_note 65 = .ok (.iload 4, 2) := by decide +kernel
theorem dX10_note_67 : decode cX10_note 67 = .ok (.iaload, 1) := by decide +kernel
theorem dX10_note_68 : decode cX10_note 68 = .ok (.goto 19, 3) := by decide +kernel
theorem dX10_note_71 : decode cX10_note 71 = .ok (.iload_n 3, 1) := by decide +kernel
theorem dX10_note_72 : decode cX10_note 72 = .ok (.iconst 2, 1) := by decide +kernel
theorem dX10_note_73 : decode cX10_note 73 = .ok (.if_icmp .ne 13, 3) := by decide +kernel
theorem dX10_note_76 : decode cX10_note 76 = .ok (.aload_n 0, 1) := by decide +kernel
theorem dX10_note_77 : decode cX10_note 77 = .ok (.getfield 73, 3) := by decide +kernel
theorem dX10_note_80 : decode cX10_note 80 = .ok (.iload 4, 2) := by decide +kernel
theorem dX10_note_82 : decode cX10_note 82 = .ok (.iaload, 1) := by decide +kernel
theorem dX10_note_83 : decode cX10_note 83 = .ok (.goto 4, 3) := by decide +kernel
theorem dX10_note_86 : decode cX10_note 86 = .ok (.iconst (-1), 1) := by decide +kernel
theorem dX10_note_87 : decode cX10_note 87 = .ok (.ireturn, 1) := by decide +kernel
def j_X10_note_14 (σ : HS) (l0 : Option Nat) (l1 : Int32) (l2 : Int32) (l3 : Int32) (t0 : Int32) (t1 : Option Nat) : Option (Int32 × HS) :=
  h_b1 (h_pI σ t1 11 0 t0) fun s7 =>
  h_b1 (h_gI s7 l0 11 0) fun x9 =>
  if x9 ≤ 0 then
    h_b1 (h_rcv s7 l0 11) fun y15 =>
    h_bd (f_X10_noteFor s7 l0 l1 l2) fun r12 s13 =>
    if r12 = (-1) then
      some ((-1), s13)
    else
      if l3 = 0 then
        h_b1 (h_gR s13 l0 11 20) fun x29 =>
        h_b1 (h_aI s13 x29 100 r12) fun x31 =>
        some (x31, s13)
      else
        if l3 = 1 then
          h_b1 (h_gR s13 l0 11 21) fun x25 =>
          h_b1 (h_aI s13 x25 100 r12) fun x27 =>
          some (x27, s13)
        else
          if l3 = 2 then
            h_b1 (h_gR s13 l0 11 22) fun x21 =>
            h_b1 (h_aI s13 x21 100 r12) fun x23 =>
            some (x23, s13)
          else
            some ((-1), s13)
  else
    some (0, s7)
def f_X10_note (σ : HS) (a0 : Option Nat) (a1 : Int32) (a2 : Int32) (a3 : Int32) : Option (Int32 × HS) :=
  h_b1 (h_rcv σ a0 11) fun y4 =>
  h_bd (f_X10_isSite σ a0 a1) fun r1 s2 =>
  if r1 = 0 then
    j_X10_note_14 s2 a0 a1 a2 a3 1 a0
  else
    j_X10_note_14 s2 a0 a1 a2 a3 0 a0
set_option maxHeartbeats 4000000 in
set_option maxRecDepth 100000 in
theorem jw_X10_note_14 {p : Program} {l : Launch} {e : Env} {R : Room} {s : State} {m : MethodId} {args : Array Value} {below : List Frame} {meth : Method} {c : Code} {D : va_G} {dA : Nat → ClassId} {bs : Nat} (C : h_C p m c cX10_note 5 s args RX10 D dA) {σ0 : HS} (B : h_B R s meth σ0 (some .int) 2 45) {σ' : HS} {r : Int32} : ∀ (σ : HS) (l0 : Option Nat) (l1 : Int32) (l2 : Int32) (l3 : Int32) (t0 : Int32) (t1 : Option Nat), j_X10_note_14 σ l0 l1 l2 l3 t0 t1 = some (r, σ') → V p l e R s m args below meth c D dA bs 5 (MQ below (h_Q D dA bs (some (.int r)) σ0 σ') args s R.cells R.slots (fun q => bs ≤ q)) σ 14 [(0, va_rf l0), (1, .int l1), (2, .int l2), (3, .int l3)] [.int t0, va_rf t1] := by
  intro σ l0 l1 l2 l3 t0 t1 h
  unfold j_X10_note_14 at h
  obtain ⟨s7, e8, h⟩ := h_b1_some h
  refine V_putI C fw_RX10_117 dX10_note_14 e8 ?_
  refine V_aload_n C 0 dX10_note_17 rfl rfl ?_
  obtain ⟨x9, e10, h⟩ := h_b1_some h
  refine V_getI C fl_RX10_117 dX10_note_18 e10 ?_
  refine V_if_le (tgt := 26) C dX10_note_21 (by decide) (fun c11 => ?_) (fun c11 => ?_)
  · rw [if_pos c11] at h
    refine V_aload_n C 0 dX10_note_26 rfl rfl ?_
    refine V_iload_n C 1 dX10_note_27 rfl rfl ?_
    refine V_iload_n C 2 dX10_note_28 rfl rfl ?_
    obtain ⟨y15, e16, h⟩ := h_b1_some h
    obtain ⟨r12, s13, e14, h⟩ := h_bd_some h
    refine V_cV (As := [.int l1, .int l2]) (rest := []) C mv_RX10_222 (m_X10_noteFor l D dA bs e14) e16 rfl rfl (Nat.le_trans h_w0 (by decide)) (h_fr B (by decide)) (h_lo B (by decide)) dX10_note_29 ?_
    refine V_istore (lv' := [(4, .int r12), (0, va_rf l0), (1, .int l1), (2, .int l2), (3, .int l3)]) C dX10_note_32 (by decide) rfl ?_
    refine V_iload C 0 dX10_note_34 rfl ?_
    refine V_iconst (v := (-1)) C dX10_note_36 (by decide) ?_
    refine V_icmp_ne (tgt := 42) C dX10_note_37 (by decide) (fun c17 => ?_) (fun c17 => ?_)
    · rw [if_neg c17] at h
      refine V_iload_n C 4 dX10_note_42 rfl rfl ?_
      refine V_if_ne (tgt := 56) C dX10_note_43 (by decide) (fun c18 => ?_) (fun c18 => ?_)
      · rw [if_neg c18] at h
        refine V_iload_n C 4 dX10_note_56 rfl rfl ?_
        refine V_iconst (v := 1) C dX10_note_57 (by decide) ?_
        refine V_icmp_ne (tgt := 71) C dX10_note_58 (by decide) (fun c19 => ?_) (fun c19 => ?_)
        · rw [if_neg c19] at h
          refine V_iload_n C 4 dX10_note_71 rfl rfl ?_
          refine V_iconst (v := 2) C dX10_note_72 (by decide) ?_
          refine V_icmp_ne (tgt := 86) C dX10_note_73 (by decide) (fun c20 => ?_) (fun c20 => ?_)
          · rw [if_neg c20] at h
            refine V_iconst (v := (-1)) C dX10_note_86 (by decide) ?_
            cases h
            exact V_iret C B dX10_note_87
          · rw [if_pos c20] at h
            refine V_aload_n C 1 dX10_note_76 rfl rfl ?_
            obtain ⟨x21, e22, h⟩ := h_b1_some h
            refine V_getR C fl_RX10_73 dX10_note_77 e22 ?_
            refine V_iload C 0 dX10_note_80 rfl ?_
            obtain ⟨x23, e24, h⟩ := h_b1_some h
            refine V_iald C dX10_note_82 e24 ?_
            refine V_goto (tgt := 87) C dX10_note_83 (by decide) ?_
            cases h
            exact V_iret C B dX10_note_87
        · rw [if_pos c19] at h
          refine V_aload_n C 1 dX10_note_61 rfl rfl ?_
          obtain ⟨x25, e26, h⟩ := h_b1_some h
          refine V_getR C fl_RX10_70 dX10_note_62 e26 ?_
          refine V_iload C 0 dX10_note_65 rfl ?_
          obtain ⟨x27, e28, h⟩ := h_b1_some h
          refine V_iald C dX10_note_67 e28 ?_
          refine V_goto (tgt := 87) C dX10_note_68 (by decide) ?_
          cases h
          exact V_iret C B dX10_note_87
      · rw [if_pos c18] at h
        refine V_aload_n C 1 dX10_note_46 rfl rfl ?_
        obtain ⟨x29, e30, h⟩ := h_b1_some h
        refine V_getR C fl_RX10_67 dX10_note_47 e30 ?_
        refine V_iload C 0 dX10_note_50 rfl ?_
        obtain ⟨x31, e32, h⟩ := h_b1_some h
        refine V_iald C dX10_note_52 e32 ?_
        refine V_goto (tgt := 87) C dX10_note_53 (by decide) ?_
        cases h
        exact V_iret C B dX10_note_87
    · rw [if_pos c17] at h
      refine V_iconst (v := (-1)) C dX10_note_40 (by decide) ?_
      cases h
      exact V_iret C B dX10_note_41
  · rw [if_neg c11] at h
    refine V_iconst (v := 0) C dX10_note_24 (by decide) ?_
    cases h
    exact V_iret C B dX10_note_25
set_option maxHeartbeats 4000000 in
set_option maxRecDepth 100000 in
theorem m_X10_note (l : Launch) (D : va_G) (dA : Nat → ClassId) (bs : Nat) {σ σ' : HS} {a0 : Option Nat} {a1 : Int32} {a2 : Int32} {a3 : Int32} {r : Int32} (h : f_X10_note σ a0 a1 a2 a3 = some (r, σ')) : MetC l yX10_note cX10_note 5 (some .int) 2 45 D dA bs [va_rf a0, .int a1, .int a2, .int a3] (some (.int r)) σ σ' := by
  refine MetC.of (by decide) (h_avR (h_avI (h_avI (h_avI h_av0)))) (Nat.le_of_ble_eq_true rfl) ?_
  intro p e R s m args below meth c C B hnm
  unfold f_X10_note at h
  refine V_sub (lv' := [(0, va_rf a0), (1, .int a1), (2, .int a2), (3, .int a3)]) [0, 1, 2, 3] rfl ?_
  refine V_aload_n C 0 dX10_note_0 rfl rfl ?_
  refine V_aload_n C 0 dX10_note_1 rfl rfl ?_
  refine V_iload_n C 1 dX10_note_2 rfl rfl ?_
  obtain ⟨y4, e5, h⟩ := h_b1_some h
  obtain ⟨r1, s2, e3, h⟩ := h_bd_some h
  refine V_cV (As := [.int a1]) (rest := [va_rf a0]) C mv_RX10_147 (m_X10_isSite l D dA bs e3) e5 rfl rfl (Nat.le_trans (h_wR h_w0) (by decide)) (h_fr B (by decide)) (h_lo B (by decide)) dX10_note_3 ?_
  refine V_if_eq (tgt := 13) C dX10_note_6 (by decide) (fun c6 => ?_) (fun c6 => ?_)
  · rw [if_pos c6] at h
    refine V_iconst (v := 1) C dX10_note_13 (by decide) ?_
    exact V_sub [0, 1, 2, 3] rfl (jw_X10_note_14 C B s2 a0 a1 a2 a3 1 a0 h)
  · rw [if_neg c6] at h
    refine V_iconst (v := 0) C dX10_note_9 (by decide) ?_
    refine V_goto (tgt := 14) C dX10_note_10 (by decide) ?_
    exact V_sub [0, 1, 2, 3] rfl (jw_X10_note_14 C B s2 a0 a1 a2 a3 0 a0 h)
/-! X10_truth -/
theorem dX10_truth_0 : decode cX10_truth 0 = .ok (.aload_n 0, 1) := by decide +kernel
theorem dX10_truth_1 : decode cX10_truth 1 = .ok (.iconst 0, 1) := by decide +kernel
theorem dX10_truth_2 : decode cX10_truth 2 = .ok (.putfield 117, 3) := by decide +kernel
theorem dX10_truth_5 : decode cX10_truth 5 = .ok (.iconst (-1), 1) := by decide +kernel
theorem dX10_truth_6 : decode cX10_truth 6 = .ok (.istore_n 2, 1) := by decide +kernel
theorem dX10_truth_7 : decode cX10_truth 7 = .ok (.iconst (-1), 1) := by decide +kernel
theorem dX10_truth_8 : decode cX10_truth 8 = .ok (.istore_n 3, 1) := by decide +kernel
theorem dX10_truth_9 : decode cX10_truth 9 = .ok (.iconst 0, 1) := by decide +kernel
theorem dX10_truth_10 : decode cX10_truth 10 = .ok (.istore 4, 2) := by decide +kernel
theorem dX10_truth_12 : decode cX10_truth 12 = .ok (.iload 4, 2) := by decide +kernel
theorem dX10_truth_14 : decode cX10_truth 14 = .ok (.bipush 8, 2) := by decide +kernel
theorem dX10_truth_16 : decode cX10_truth 16 = .ok (.if_icmp .ge 54, 3) := by decide +kernel
theorem dX10_truth_19 : decode cX10_truth 19 = .ok (.aload_n 0, 1) := by decide +kernel
theorem dX10_truth_20 : decode cX10_truth 20 = .ok (.iload 4, 2) := by decide +kernel
theorem dX10_truth_22 : decode cX10_truth 22 = .ok (.iload_n 1, 1) := by decide +kernel
theorem dX10_truth_23 : decode cX10_truth 23 = .ok (.invokevirtual 213, 3) := by decide +kernel
theorem dX10_truth_26 : decode cX10_truth 26 = .ok (.istore 5, 2) := by decide +kernel
theorem dX10_truth_28 : decode cX10_truth 28 = .ok (.iload 5, 2) := by decide +kernel
theorem dX10_truth_30 : decode cX10_truth 30 = .ok (.iconst (-1), 1) := by decide +kernel
theorem dX10_truth_31 : decode cX10_truth 31 = .ok (.if_icmp .eq 33, 3) := by decide +kernel
theorem dX10_truth_34 : decode cX10_truth 34 = .ok (.aload_n 0, 1) := by decide +kernel
theorem dX10_truth_35 : decode cX10_truth 35 = .ok (.getfield 30, 3) := by decide +kernel
theorem dX10_truth_38 : decode cX10_truth 38 = .ok (.iload 5, 2) := by decide +kernel
theorem dX10_truth_40 : decode cX10_truth 40 = .ok (.iaload, 1) := by decide +kernel
theorem dX10_truth_41 : decode cX10_truth 41 = .ok (.iload_n 3, 1) := by decide +kernel
theorem dX10_truth_42 : decode cX10_truth 42 = .ok (.if_icmp .gt 6, 3) := by decide +kernel
theorem dX10_truth_45 : decode cX10_truth 45 = .ok (.goto 19, 3) := by decide +kernel
theorem dX10_truth_48 : decode cX10_truth 48 = .ok (.aload_n 0, 1) := by decide +kernel
theorem dX10_truth_49 : decode cX10_truth 49 = .ok (.getfield 33, 3) := by decide +kernel
theorem dX10_truth_52 : decode cX10_truth 52 = .ok (.iload 5, 2) := by decide +kernel
theorem dX10_truth_54 : decode cX10_truth 54 = .ok (.iaload, 1) := by decide +kernel
theorem dX10_truth_55 : decode cX10_truth 55 = .ok (.istore_n 2, 1) := by decide +kernel
theorem dX10_truth_56 : decode cX10_truth 56 = .ok (.aload_n 0, 1) := by decide +kernel
theorem dX10_truth_57 : decode cX10_truth 57 = .ok (.getfield 30, 3) := by decide +kernel
theorem dX10_truth_60 : decode cX10_truth 60 = .ok (.iload 5, 2) := by decide +kernel
theorem dX10_truth_62 : decode cX10_truth 62 = .ok (.iaload, 1) := by decide +kernel
theorem dX10_truth_63 : decode cX10_truth 63 = .ok (.istore_n 3, 1) := by decide +kernel
theorem dX10_truth_64 : decode cX10_truth 64 = .ok (.iinc 4 1, 3) := by decide +kernel
theorem dX10_truth_67 : decode cX10_truth 67 = .ok (.goto (-55), 3) := by decide +kernel
theorem dX10_truth_70 : decode cX10_truth 70 = .ok (.iload_n 2, 1) := by decide +kernel
theorem dX10_truth_71 : decode cX10_truth 71 = .ok (.ireturn, 1) := by decide +kernel
def g_X10_truth_12 : Nat → HS → Option Nat → Int32 → Int32 → Int32 → Int32 → Option (Int32 × HS)
  | 0, _, _, _, _, _, _ => none
  | n + 1, σ, l0, l1, l2, l3, l4 =>
    if 8 ≤ l4 then
      some (l2, σ)
    else
      h_b1 (h_rcv σ l0 11) fun y7 =>
      h_bd (f_X10_best σ l0 l4 l1) fun r4 s5 =>
      if r4 = (-1) then
        g_X10_truth_12 n s5 l0 l1 l2 l3 (l4 + 1)
      else
        h_b1 (h_gR s5 l0 11 8) fun x10 =>
        h_b1 (h_aI s5 x10 100 r4) fun x12 =>
        if l3 < x12 then
          h_b1 (h_gR s5 l0 11 9) fun x15 =>
          h_b1 (h_aI s5 x15 100 r4) fun x17 =>
          h_b1 (h_gR s5 l0 11 8) fun x19 =>
          h_b1 (h_aI s5 x19 100 r4) fun x21 =>
          g_X10_truth_12 n s5 l0 l1 x17 x21 (l4 + 1)
        else
          g_X10_truth_12 n s5 l0 l1 l2 l3 (l4 + 1)
def f_X10_truth (σ : HS) (a0 : Option Nat) (a1 : Int32) : Option (Int32 × HS) :=
  h_b1 (h_pI σ a0 11 0 0) fun s1 =>
  g_X10_truth_12 h_hN s1 a0 a1 (-1) (-1) 0
set_option maxHeartbeats 4000000 in
set_option maxRecDepth 100000 in
theorem w_X10_truth_12 {p : Program} {l : Launch} {e : Env} {R : Room} {s : State} {m : MethodId} {args : Array Value} {below : List Frame} {meth : Method} {c : Code} {D : va_G} {dA : Nat → ClassId} {bs : Nat} (C : h_C p m c cX10_truth 6 s args RX10 D dA) {σ0 : HS} (B : h_B R s meth σ0 (some .int) 2 46) {σ' : HS} {r : Int32} : ∀ (n : Nat) (σ : HS) (l0 : Option Nat) (l1 : Int32) (l2 : Int32) (l3 : Int32) (l4 : Int32), g_X10_truth_12 n σ l0 l1 l2 l3 l4 = some (r, σ') → V p l e R s m args below meth c D dA bs 6 (MQ below (h_Q D dA bs (some (.int r)) σ0 σ') args s R.cells R.slots (fun q => bs ≤ q)) σ 12 [(0, va_rf l0), (1, .int l1), (2, .int l2), (3, .int l3), (4, .int l4)] [] := by
  intro n
  induction n with
  | zero =>
    intro σ l0 l1 l2 l3 l4 h
    rw [g_X10_truth_12] at h
    cases h
  | succ n ih =>
    intro σ l0 l1 l2 l3 l4 h
    rw [g_X10_truth_12] at h
    refine V_iload C 4 dX10_truth_12 rfl ?_
    refine V_bipush (v := 8) C dX10_truth_14 (by decide) ?_
    refine V_icmp_ge (tgt := 70) C dX10_truth_16 (by decide) (fun c3 => ?_) (fun c3 => ?_)
    · rw [if_pos c3] at h
      refine V_iload_n C 2 dX10_truth_70 rfl rfl ?_
      cases h
      exact V_iret C B dX10_truth_71
    · rw [if_neg c3] at h
      refine V_aload_n C 0 dX10_truth_19 rfl rfl ?_
      refine V_iload C 4 dX10_truth_20 rfl ?_
      refine V_iload_n C 1 dX10_truth_22 rfl rfl ?_
      obtain ⟨y7, e8, h⟩ := h_b1_some h
      obtain ⟨r4, s5, e6, h⟩ := h_bd_some h
      refine V_cV (As := [.int l4, .int l1]) (rest := []) C mv_RX10_213 (m_X10_best l D dA bs e6) e8 rfl rfl (Nat.le_trans h_w0 (by decide)) (h_fr B (by decide)) (h_lo B (by decide)) dX10_truth_23 ?_
      refine V_istore (lv' := [(5, .int r4), (0, va_rf l0), (1, .int l1), (2, .int l2), (3, .int l3), (4, .int l4)]) C dX10_truth_26 (by decide) rfl ?_
      refine V_iload C 0 dX10_truth_28 rfl ?_
      refine V_iconst (v := (-1)) C dX10_truth_30 (by decide) ?_
      refine V_icmp_eq (tgt := 64) C dX10_truth_31 (by decide) (fun c9 => ?_) (fun c9 => ?_)
      · rw [if_pos c9] at h
        refine V_iinc (v := (l4 + 1)) (lv' := [(4, .int (l4 + 1)), (5, .int r4), (0, va_rf l0), (1, .int l1), (2, .int l2), (3, .int l3)]) C 5 dX10_truth_64 rfl rfl (by decide) rfl ?_
        refine V_goto (tgt := 12) C dX10_truth_67 (by decide) ?_
        exact V_sub [2, 3, 4, 5, 0] rfl (ih s5 l0 l1 l2 l3 (l4 + 1) h)
      · rw [if_neg c9] at h
        refine V_aload_n C 1 dX10_truth_34 rfl rfl ?_
        obtain ⟨x10, e11, h⟩ := h_b1_some h
        refine V_getR C fl_RX10_30 dX10_truth_35 e11 ?_
        refine V_iload C 0 dX10_truth_38 rfl ?_
        obtain ⟨x12, e13, h⟩ := h_b1_some h
        refine V_iald C dX10_truth_40 e13 ?_
        refine V_iload_n C 4 dX10_truth_41 rfl rfl ?_
        refine V_icmp_gt (tgt := 48) C dX10_truth_42 (by decide) (fun c14 => ?_) (fun c14 => ?_)
        · rw [if_pos c14] at h
          refine V_aload_n C 1 dX10_truth_48 rfl rfl ?_
          obtain ⟨x15, e16, h⟩ := h_b1_some h
          refine V_getR C fl_RX10_33 dX10_truth_49 e16 ?_
          refine V_iload C 0 dX10_truth_52 rfl ?_
          obtain ⟨x17, e18, h⟩ := h_b1_some h
          refine V_iald C dX10_truth_54 e18 ?_
          refine V_istore_n (lv' := [(2, .int x17), (5, .int r4), (0, va_rf l0), (1, .int l1), (3, .int l3), (4, .int l4)]) C dX10_truth_55 rfl (by decide) rfl ?_
          refine V_aload_n C 2 dX10_truth_56 rfl rfl ?_
          obtain ⟨x19, e20, h⟩ := h_b1_some h
          refine V_getR C fl_RX10_30 dX10_truth_57 e20 ?_
          refine V_iload C 1 dX10_truth_60 rfl ?_
          obtain ⟨x21, e22, h⟩ := h_b1_some h
          refine V_iald C dX10_truth_62 e22 ?_
          refine V_istore_n (lv' := [(3, .int x21), (2, .int x17), (5, .int r4), (0, va_rf l0), (1, .int l1), (4, .int l4)]) C dX10_truth_63 rfl (by decide) rfl ?_
          refine V_iinc (v := (l4 + 1)) (lv' := [(4, .int (l4 + 1)), (3, .int x21), (2, .int x17), (5, .int r4), (0, va_rf l0), (1, .int l1)]) C 5 dX10_truth_64 rfl rfl (by decide) rfl ?_
          refine V_goto (tgt := 12) C dX10_truth_67 (by decide) ?_
          exact V_sub [4, 5, 2, 1, 0] rfl (ih s5 l0 l1 x17 x21 (l4 + 1) h)
        · rw [if_neg c14] at h
          refine V_goto (tgt := 64) C dX10_truth_45 (by decide) ?_
          refine V_iinc (v := (l4 + 1)) (lv' := [(4, .int (l4 + 1)), (5, .int r4), (0, va_rf l0), (1, .int l1), (2, .int l2), (3, .int l3)]) C 5 dX10_truth_64 rfl rfl (by decide) rfl ?_
          refine V_goto (tgt := 12) C dX10_truth_67 (by decide) ?_
          exact V_sub [2, 3, 4, 5, 0] rfl (ih s5 l0 l1 l2 l3 (l4 + 1) h)
set_option maxHeartbeats 4000000 in
set_option maxRecDepth 100000 in
theorem m_X10_truth (l : Launch) (D : va_G) (dA : Nat → ClassId) (bs : Nat) {σ σ' : HS} {a0 : Option Nat} {a1 : Int32} {r : Int32} (h : f_X10_truth σ a0 a1 = some (r, σ')) : MetC l yX10_truth cX10_truth 6 (some .int) 2 46 D dA bs [va_rf a0, .int a1] (some (.int r)) σ σ' := by
  refine MetC.of (by decide) (h_avR (h_avI h_av0)) (Nat.le_of_ble_eq_true rfl) ?_
  intro p e R s m args below meth c C B hnm
  unfold f_X10_truth at h
  refine V_sub (lv' := [(0, va_rf a0), (1, .int a1)]) [0, 1] rfl ?_
  refine V_aload_n C 0 dX10_truth_0 rfl rfl ?_
  refine V_iconst (v := 0) C dX10_truth_1 (by decide) ?_
  obtain ⟨s1, e2, h⟩ := h_b1_some h
  refine V_putI C fw_RX10_117 dX10_truth_2 e2 ?_
  refine V_iconst (v := (-1)) C dX10_truth_5 (by decide) ?_
  refine V_istore_n (lv' := [(2, .int (-1)), (0, va_rf a0), (1, .int a1)]) C dX10_truth_6 rfl (by decide) rfl ?_
  refine V_iconst (v := (-1)) C dX10_truth_7 (by decide) ?_
  refine V_istore_n (lv' := [(3, .int (-1)), (2, .int (-1)), (0, va_rf a0), (1, .int a1)]) C dX10_truth_8 rfl (by decide) rfl ?_
  refine V_iconst (v := 0) C dX10_truth_9 (by decide) ?_
  refine V_istore (lv' := [(4, .int 0), (3, .int (-1)), (2, .int (-1)), (0, va_rf a0), (1, .int a1)]) C dX10_truth_10 (by decide) rfl ?_
  exact V_sub [3, 4, 2, 1, 0] rfl (w_X10_truth_12 C B h_hN s1 a0 a1 (-1) (-1) 0 h)
/-! X10_count -/
theorem dX10_count_0 : decode cX10_count 0 = .ok (.aload_n 0, 1) := by decide +kernel
theorem dX10_count_1 : decode cX10_count 1 = .ok (.iconst 0, 1) := by decide +kernel
theorem dX10_count_2 : decode cX10_count 2 = .ok (.putfield 117, 3) := by decide +kernel
theorem dX10_count_5 : decode cX10_count 5 = .ok (.iconst 0, 1) := by decide +kernel
theorem dX10_count_6 : decode cX10_count 6 = .ok (.istore_n 2, 1) := by decide +kernel
theorem dX10_count_7 : decode cX10_count 7 = .ok (.iload_n 1, 1) := by decide +kernel
theorem dX10_count_8 : decode cX10_count 8 = .ok (.tableswitch 162 0 8 #[52, 57, 62, 67, 72, 77, 82, 87, 125], 52) := by decide +kernel
theorem dX10_count_60 : decode cX10_count 60 = .ok (.aload_n 0, 1) := by decide +kernel
theorem dX10_count_61 : decode cX10_count 61 = .ok (.getfield 153, 3) := by decide +kernel
theorem dX10_count_64 : decode cX10_count 64 = .ok (.ireturn, 1) := by decide +kernel
theorem dX10_count_65 : decode cX10_count 65 = .ok (.aload_n 0, 1) := by decide +kernel
theorem dX10_count_66 : decode cX10_count 66 = .ok (.getfield 210, 3) := by decide +kernel
theorem dX10_count_69 : decode cX10_count 69 = .ok (.ireturn, 1) := by decide +kernel
theorem dX10_count_70 : decode cX10_count 70 = .ok (.aload_n 0, 1) := by decide +kernel
theorem dX10_count_71 : decode cX10_count 71 = .ok (.getfield 246, 3) := by decide +kernel
theorem dX10_count_74 : decode cX10_count 74 = .ok (.ireturn, 1) := by decide +kernel
theorem dX10_count_75 : decode cX10_count 75 = .ok (.aload_n 0, 1) := by decide +kernel
theorem dX10_count_76 : decode cX10_count 76 = .ok (.getfield 256, 3) := by decide +kernel
theorem dX10_count_79 : decode cX10_count 79 = .ok (.ireturn, 1) := by decide +kernel
theorem dX10_count_80 : decode cX10_count 80 = .ok (.aload_n 0, 1) := by decide +kernel
theorem dX10_count_81 : decode cX10_count 81 = .ok (.getfield 156, 3) := by decide +kernel
theorem dX10_count_84 : decode cX10_count 84 = .ok (.ireturn, 1) := by decide +kernel
theorem dX10_count_85 : decode cX10_count 85 = .ok (.aload_n 0, 1) := by decide +kernel
theorem dX10_count_86 : decode cX10_count 86 = .ok (.getfield 231, 3) := by decide +kernel
theorem dX10_count_89 : decode cX10_count 89 = .ok (.ireturn, 1) := by decide +kernel
theorem dX10_count_90 : decode cX10_count 90 = .ok (.aload_n 0, 1) := by decide +kernel
theorem dX10_count_91 : decode cX10_count 91 = .ok (.getfield 150, 3) := by decide +kernel
theorem dX10_count_94 : decode cX10_count 94 = .ok (.ireturn, 1) := by decide +kernel
theorem dX10_count_95 : decode cX10_count 95 = .ok (.iconst 0, 1) := by decide +kernel
theorem dX10_count_96 : decode cX10_count 96 = .ok (.istore_n 3, 1) := by decide +kernel
theorem dX10_count_97 : decode cX10_count 97 = .ok (.iload_n 3, 1) := by decide +kernel
theorem dX10_count_98 : decode cX10_count 98 = .ok (.sipush 128, 3) := by decide +kernel
theorem dX10_count_101 : decode cX10_count 101 = .ok (.if_icmp .ge 30, 3) := by decide +kernel
theorem dX10_count_104 : decode cX10_count 104 = .ok (.iload_n 2, 1) := by decide +kernel
theorem dX10_count_105 : decode cX10_count 105 = .ok (.aload_n 0, 1) := by decide +kernel
theorem dX10_count_106 : decode cX10_count 106 = .ok (.getfield 42, 3) := by decide +kernel
theorem dX10_count_109 : decode cX10_count 109 = .ok (.iload_n 3, 1) := by decide +kernel
theorem dX10_count_110 : decode cX10_count 110 = .ok (.iaload, 1) := by decide +kernel
theorem dX10_count_111 : decode cX10_count 111 = .ok (.aload_n 0, 1) := by decide +kernel
theorem dX10_count_112 : decode cX10_count 112 = .ok (.getfield 150, 3) := by decide +kernel
theorem dX10_count_115 : decode cX10_count 115 = .ok (.if_icmp .le 7, 3) := by decide +kernel
theorem dX10_count_118 : decode cX10_count 118 = .ok (.iconst 1, 1) := by decide +kernel
theorem dX10_count_119 : decode cX10_count 119 = .ok (.goto 4, 3) := by decide +kernel
theorem dX10_count_122 : decode cX10_count 122 = .ok (.iconst 0, 1) := by decide +kernel
theorem dX10_count_123 : decode cX10_count 123 = .ok (.iadd, 1) := by decide +kernel
theorem dX10_count_124 : decode cX10_count 124 = .ok (.istore_n 2, 1) := by decide +kernel
theorem dX10_count_125 : decode cX10_count 125 = .ok (.iinc 3 1, 3) := by decide +kernel
theorem dX10_count_128 : decode cX10_count 128 = .ok (.goto (-31), 3) := by decide +kernel
theorem dX10_count_131 : decode cX10_count 131 = .ok (.iload_n 2, 1) := by decide +kernel
theorem dX10_count_132 : decode cX10_count 132 = .ok (.ireturn, 1) := by decide +kernel
theorem dX10_count_133 : decode cX10_count 133 = .ok (.iconst 0, 1) := by decide +kernel
theorem dX10_count_134 : decode cX10_count 134 = .ok (.istore_n 3, 1) := by decide +kernel
theorem dX10_count_135 : decode cX10_count 135 = .ok (.iload_n 3, 1) := by decide +kernel
theorem dX10_count_136 : decode cX10_count 136 = .ok (.bipush 48, 2) := by decide +kernel
theorem dX10_count_138 : decode cX10_count 138 = .ok (.if_icmp .ge 30, 3) := by decide +kernel
theorem dX10_count_141 : decode cX10_count 141 = .ok (.iload_n 2, 1) := by decide +kernel
theorem dX10_count_142 : decode cX10_count 142 = .ok (.aload_n 0, 1) := by decide +kernel
theorem dX10_count_143 : decode cX10_count 143 = .ok (.getfield 76, 3) := by decide +kernel
theorem dX10_count_146 : decode cX10_count 146 = .ok (.iload_n 3, 1) := by decide +kernel
theorem dX10_count_147 : decode cX10_count 147 = .ok (.iaload, 1) := by decide +kernel
theorem dX10_count_148 : decode cX10_count 148 = .ok (.aload_n 0, 1) := by decide +kernel
theorem dX10_count_149 : decode cX10_count 149 = .ok (.getfield 150, 3) := by decide +kernel
theorem dX10_count_152 : decode cX10_count 152 = .ok (.if_icmp .le 7, 3) := by decide +kernel
theorem dX10_count_155 : decode cX10_count 155 = .ok (.iconst 1, 1) := by decide +kernel
theorem dX10_count_156 : decode cX10_count 156 = .ok (.goto 4, 3) := by decide +kernel
theorem dX10_count_159 : decode cX10_count 159 = .ok (.iconst 0, 1) := by decide +kernel
theorem dX10_count_160 : decode cX10_count 160 = .ok (.iadd, 1) := by decide +kernel
theorem dX10_count_161 : decode cX10_count 161 = .ok (.istore_n 2, 1) := by decide +kernel
theorem dX10_count_162 : decode cX10_count 162 = .ok (.iinc 3 1, 3) := by decide +kernel
theorem dX10_count_165 : decode cX10_count 165 = .ok (.goto (-30), 3) := by decide +kernel
theorem dX10_count_168 : decode cX10_count 168 = .ok (.iload_n 2, 1) := by decide +kernel
theorem dX10_count_169 : decode cX10_count 169 = .ok (.ireturn, 1) := by decide +kernel
theorem dX10_count_170 : decode cX10_count 170 = .ok (.iconst (-1), 1) := by decide +kernel
theorem dX10_count_171 : decode cX10_count 171 = .ok (.ireturn, 1) := by decide +kernel
def g_X10_count_97 : Nat → HS → Option Nat → Int32 → Int32 → Option (Int32 × HS)
  | 0, _, _, _, _ => none
  | n + 1, σ, l0, l2, l3 =>
    if 128 ≤ l3 then
      some (l2, σ)
    else
      h_b1 (h_gR σ l0 11 12) fun x26 =>
      h_b1 (h_aI σ x26 100 l3) fun x28 =>
      h_b1 (h_gI σ l0 11 1) fun x30 =>
      if x28 ≤ x30 then
        g_X10_count_97 n σ l0 (l2 + 0) (l3 + 1)
      else
        g_X10_count_97 n σ l0 (l2 + 1) (l3 + 1)
def g_X10_count_135 : Nat → HS → Option Nat → Int32 → Int32 → Option (Int32 × HS)
  | 0, _, _, _, _ => none
  | n + 1, σ, l0, l2, l3 =>
    if 48 ≤ l3 then
      some (l2, σ)
    else
      h_b1 (h_gR σ l0 11 23) fun x35 =>
      h_b1 (h_aI σ x35 100 l3) fun x37 =>
      h_b1 (h_gI σ l0 11 1) fun x39 =>
      if x37 ≤ x39 then
        g_X10_count_135 n σ l0 (l2 + 0) (l3 + 1)
      else
        g_X10_count_135 n σ l0 (l2 + 1) (l3 + 1)
def f_X10_count (σ : HS) (a0 : Option Nat) (a1 : Int32) : Option (Int32 × HS) :=
  h_b1 (h_pI σ a0 11 0 0) fun s1 =>
  if a1 = 0 then
    h_b1 (h_gI s1 a0 11 36) fun x4 =>
    some (x4, s1)
  else
    if a1 = 1 then
      h_b1 (h_gI s1 a0 11 39) fun x7 =>
      some (x7, s1)
    else
      if a1 = 2 then
        h_b1 (h_gI s1 a0 11 40) fun x10 =>
        some (x10, s1)
      else
        if a1 = 3 then
          h_b1 (h_gI s1 a0 11 41) fun x13 =>
          some (x13, s1)
        else
          if a1 = 4 then
            h_b1 (h_gI s1 a0 11 42) fun x16 =>
            some (x16, s1)
          else
            if a1 = 5 then
              h_b1 (h_gI s1 a0 11 28) fun x19 =>
              some (x19, s1)
            else
              if a1 = 6 then
                h_b1 (h_gI s1 a0 11 1) fun x22 =>
                some (x22, s1)
              else
                if a1 = 7 then
                  g_X10_count_97 h_hN s1 a0 0 0
                else
                  if a1 = 8 then
                    g_X10_count_135 h_hN s1 a0 0 0
                  else
                    some ((-1), s1)
set_option maxHeartbeats 4000000 in
set_option maxRecDepth 100000 in
theorem w_X10_count_97 {p : Program} {l : Launch} {e : Env} {R : Room} {s : State} {m : MethodId} {args : Array Value} {below : List Frame} {meth : Method} {c : Code} {D : va_G} {dA : Nat → ClassId} {bs : Nat} (C : h_C p m c cX10_count 4 s args RX10 D dA) {σ0 : HS} (B : h_B R s meth σ0 (some .int) 0 0) {σ' : HS} {r : Int32} : ∀ (n : Nat) (σ : HS) (l0 : Option Nat) (l2 : Int32) (l3 : Int32), g_X10_count_97 n σ l0 l2 l3 = some (r, σ') → V p l e R s m args below meth c D dA bs 4 (MQ below (h_Q D dA bs (some (.int r)) σ0 σ') args s R.cells R.slots (fun q => bs ≤ q)) σ 97 [(0, va_rf l0), (2, .int l2), (3, .int l3)] [] := by
  intro n
  induction n with
  | zero =>
    intro σ l0 l2 l3 h
    rw [g_X10_count_97] at h
    cases h
  | succ n ih =>
    intro σ l0 l2 l3 h
    rw [g_X10_count_97] at h
    refine V_iload_n C 2 dX10_count_97 rfl rfl ?_
    refine V_sipush (v := 128) C dX10_count_98 (by decide) ?_
    refine V_icmp_ge (tgt := 131) C dX10_count_101 (by decide) (fun c25 => ?_) (fun c25 => ?_)
    · rw [if_pos c25] at h
      refine V_iload_n C 1 dX10_count_131 rfl rfl ?_
      cases h
      exact V_iret C B dX10_count_132
    · rw [if_neg c25] at h
      refine V_iload_n C 1 dX10_count_104 rfl rfl ?_
      refine V_aload_n C 0 dX10_count_105 rfl rfl ?_
      obtain ⟨x26, e27, h⟩ := h_b1_some h
      refine V_getR C fl_RX10_42 dX10_count_106 e27 ?_
      refine V_iload_n C 2 dX10_count_109 rfl rfl ?_
      obtain ⟨x28, e29, h⟩ := h_b1_some h
      refine V_iald C dX10_count_110 e29 ?_
      refine V_aload_n C 0 dX10_count_111 rfl rfl ?_
      obtain ⟨x30, e31, h⟩ := h_b1_some h
      refine V_getI C fl_RX10_150 dX10_count_112 e31 ?_
      refine V_icmp_le (tgt := 122) C dX10_count_115 (by decide) (fun c32 => ?_) (fun c32 => ?_)
      · rw [if_pos c32] at h
        refine V_iconst (v := 0) C dX10_count_122 (by decide) ?_
        refine V_iadd C dX10_count_123 ?_
        refine V_istore_n (lv' := [(2, .int (l2 + 0)), (0, va_rf l0), (3, .int l3)]) C dX10_count_124 rfl (by decide) rfl ?_
        refine V_iinc (v := (l3 + 1)) (lv' := [(3, .int (l3 + 1)), (2, .int (l2 + 0)), (0, va_rf l0)]) C 2 dX10_count_125 rfl rfl (by decide) rfl ?_
        refine V_goto (tgt := 97) C dX10_count_128 (by decide) ?_
        exact V_sub [2, 1, 0] rfl (ih σ l0 (l2 + 0) (l3 + 1) h)
      · rw [if_neg c32] at h
        refine V_iconst (v := 1) C dX10_count_118 (by decide) ?_
        refine V_goto (tgt := 123) C dX10_count_119 (by decide) ?_
        refine V_iadd C dX10_count_123 ?_
        refine V_istore_n (lv' := [(2, .int (l2 + 1)), (0, va_rf l0), (3, .int l3)]) C dX10_count_124 rfl (by decide) rfl ?_
        refine V_iinc (v := (l3 + 1)) (lv' := [(3, .int (l3 + 1)), (2, .int (l2 + 1)), (0, va_rf l0)]) C 2 dX10_count_125 rfl rfl (by decide) rfl ?_
        refine V_goto (tgt := 97) C dX10_count_128 (by decide) ?_
        exact V_sub [2, 1, 0] rfl (ih σ l0 (l2 + 1) (l3 + 1) h)
set_option maxHeartbeats 4000000 in
set_option maxRecDepth 100000 in
theorem w_X10_count_135 {p : Program} {l : Launch} {e : Env} {R : Room} {s : State} {m : MethodId} {args : Array Value} {below : List Frame} {meth : Method} {c : Code} {D : va_G} {dA : Nat → ClassId} {bs : Nat} (C : h_C p m c cX10_count 4 s args RX10 D dA) {σ0 : HS} (B : h_B R s meth σ0 (some .int) 0 0) {σ' : HS} {r : Int32} : ∀ (n : Nat) (σ : HS) (l0 : Option Nat) (l2 : Int32) (l3 : Int32), g_X10_count_135 n σ l0 l2 l3 = some (r, σ') → V p l e R s m args below meth c D dA bs 4 (MQ below (h_Q D dA bs (some (.int r)) σ0 σ') args s R.cells R.slots (fun q => bs ≤ q)) σ 135 [(0, va_rf l0), (2, .int l2), (3, .int l3)] [] := by
  intro n
  induction n with
  | zero =>
    intro σ l0 l2 l3 h
    rw [g_X10_count_135] at h
    cases h
  | succ n ih =>
    intro σ l0 l2 l3 h
    rw [g_X10_count_135] at h
    refine V_iload_n C 2 dX10_count_135 rfl rfl ?_
    refine V_bipush (v := 48) C dX10_count_136 (by decide) ?_
    refine V_icmp_ge (tgt := 168) C dX10_count_138 (by decide) (fun c34 => ?_) (fun c34 => ?_)
    · rw [if_pos c34] at h
      refine V_iload_n C 1 dX10_count_168 rfl rfl ?_
      cases h
      exact V_iret C B dX10_count_169
    · rw [if_neg c34] at h
      refine V_iload_n C 1 dX10_count_141 rfl rfl ?_
      refine V_aload_n C 0 dX10_count_142 rfl rfl ?_
      obtain ⟨x35, e36, h⟩ := h_b1_some h
      refine V_getR C fl_RX10_76 dX10_count_143 e36 ?_
      refine V_iload_n C 2 dX10_count_146 rfl rfl ?_
      obtain ⟨x37, e38, h⟩ := h_b1_some h
      refine V_iald C dX10_count_147 e38 ?_
      refine V_aload_n C 0 dX10_count_148 rfl rfl ?_
      obtain ⟨x39, e40, h⟩ := h_b1_some h
      refine V_getI C fl_RX10_150 dX10_count_149 e40 ?_
      refine V_icmp_le (tgt := 159) C dX10_count_152 (by decide) (fun c41 => ?_) (fun c41 => ?_)
      · rw [if_pos c41] at h
        refine V_iconst (v := 0) C dX10_count_159 (by decide) ?_
        refine V_iadd C dX10_count_160 ?_
        refine V_istore_n (lv' := [(2, .int (l2 + 0)), (0, va_rf l0), (3, .int l3)]) C dX10_count_161 rfl (by decide) rfl ?_
        refine V_iinc (v := (l3 + 1)) (lv' := [(3, .int (l3 + 1)), (2, .int (l2 + 0)), (0, va_rf l0)]) C 2 dX10_count_162 rfl rfl (by decide) rfl ?_
        refine V_goto (tgt := 135) C dX10_count_165 (by decide) ?_
        exact V_sub [2, 1, 0] rfl (ih σ l0 (l2 + 0) (l3 + 1) h)
      · rw [if_neg c41] at h
        refine V_iconst (v := 1) C dX10_count_155 (by decide) ?_
        refine V_goto (tgt := 160) C dX10_count_156 (by decide) ?_
        refine V_iadd C dX10_count_160 ?_
        refine V_istore_n (lv' := [(2, .int (l2 + 1)), (0, va_rf l0), (3, .int l3)]) C dX10_count_161 rfl (by decide) rfl ?_
        refine V_iinc (v := (l3 + 1)) (lv' := [(3, .int (l3 + 1)), (2, .int (l2 + 1)), (0, va_rf l0)]) C 2 dX10_count_162 rfl rfl (by decide) rfl ?_
        refine V_goto (tgt := 135) C dX10_count_165 (by decide) ?_
        exact V_sub [2, 1, 0] rfl (ih σ l0 (l2 + 1) (l3 + 1) h)
set_option maxHeartbeats 4000000 in
set_option maxRecDepth 100000 in
theorem m_X10_count (l : Launch) (D : va_G) (dA : Nat → ClassId) (bs : Nat) {σ σ' : HS} {a0 : Option Nat} {a1 : Int32} {r : Int32} (h : f_X10_count σ a0 a1 = some (r, σ')) : MetC l yX10_count cX10_count 4 (some .int) 0 0 D dA bs [va_rf a0, .int a1] (some (.int r)) σ σ' := by
  refine MetC.of (by decide) (h_avR (h_avI h_av0)) (Nat.le_of_ble_eq_true rfl) ?_
  intro p e R s m args below meth c C B hnm
  unfold f_X10_count at h
  refine V_sub (lv' := [(0, va_rf a0), (1, .int a1)]) [0, 1] rfl ?_
  refine V_aload_n C 0 dX10_count_0 rfl rfl ?_
  refine V_iconst (v := 0) C dX10_count_1 (by decide) ?_
  obtain ⟨s1, e2, h⟩ := h_b1_some h
  refine V_putI C fw_RX10_117 dX10_count_2 e2 ?_
  refine V_iconst (v := 0) C dX10_count_5 (by decide) ?_
  refine V_istore_n (lv' := [(2, .int 0), (0, va_rf a0), (1, .int a1)]) C dX10_count_6 rfl (by decide) rfl ?_
  refine V_iload_n C 2 dX10_count_7 rfl rfl ?_
  by_cases c3 : a1 = 0
  · rw [if_pos c3] at h
    refine V_tabIn (tgt := 60) C dX10_count_8 (by rw [c3]; decide) (by rw [c3]; decide) (by rw [c3]; rfl) (by decide) ?_
    refine V_aload_n C 1 dX10_count_60 rfl rfl ?_
    obtain ⟨x4, e5, h⟩ := h_b1_some h
    refine V_getI C fl_RX10_153 dX10_count_61 e5 ?_
    cases h
    exact V_iret C B dX10_count_64
  · rw [if_neg c3] at h
    by_cases c6 : a1 = 1
    · rw [if_pos c6] at h
      refine V_tabIn (tgt := 65) C dX10_count_8 (by rw [c6]; decide) (by rw [c6]; decide) (by rw [c6]; rfl) (by decide) ?_
      refine V_aload_n C 1 dX10_count_65 rfl rfl ?_
      obtain ⟨x7, e8, h⟩ := h_b1_some h
      refine V_getI C fl_RX10_210 dX10_count_66 e8 ?_
      cases h
      exact V_iret C B dX10_count_69
    · rw [if_neg c6] at h
      by_cases c9 : a1 = 2
      · rw [if_pos c9] at h
        refine V_tabIn (tgt := 70) C dX10_count_8 (by rw [c9]; decide) (by rw [c9]; decide) (by rw [c9]; rfl) (by decide) ?_
        refine V_aload_n C 1 dX10_count_70 rfl rfl ?_
        obtain ⟨x10, e11, h⟩ := h_b1_some h
        refine V_getI C fl_RX10_246 dX10_count_71 e11 ?_
        cases h
        exact V_iret C B dX10_count_74
      · rw [if_neg c9] at h
        by_cases c12 : a1 = 3
        · rw [if_pos c12] at h
          refine V_tabIn (tgt := 75) C dX10_count_8 (by rw [c12]; decide) (by rw [c12]; decide) (by rw [c12]; rfl) (by decide) ?_
          refine V_aload_n C 1 dX10_count_75 rfl rfl ?_
          obtain ⟨x13, e14, h⟩ := h_b1_some h
          refine V_getI C fl_RX10_256 dX10_count_76 e14 ?_
          cases h
          exact V_iret C B dX10_count_79
        · rw [if_neg c12] at h
          by_cases c15 : a1 = 4
          · rw [if_pos c15] at h
            refine V_tabIn (tgt := 80) C dX10_count_8 (by rw [c15]; decide) (by rw [c15]; decide) (by rw [c15]; rfl) (by decide) ?_
            refine V_aload_n C 1 dX10_count_80 rfl rfl ?_
            obtain ⟨x16, e17, h⟩ := h_b1_some h
            refine V_getI C fl_RX10_156 dX10_count_81 e17 ?_
            cases h
            exact V_iret C B dX10_count_84
          · rw [if_neg c15] at h
            by_cases c18 : a1 = 5
            · rw [if_pos c18] at h
              refine V_tabIn (tgt := 85) C dX10_count_8 (by rw [c18]; decide) (by rw [c18]; decide) (by rw [c18]; rfl) (by decide) ?_
              refine V_aload_n C 1 dX10_count_85 rfl rfl ?_
              obtain ⟨x19, e20, h⟩ := h_b1_some h
              refine V_getI C fl_RX10_231 dX10_count_86 e20 ?_
              cases h
              exact V_iret C B dX10_count_89
            · rw [if_neg c18] at h
              by_cases c21 : a1 = 6
              · rw [if_pos c21] at h
                refine V_tabIn (tgt := 90) C dX10_count_8 (by rw [c21]; decide) (by rw [c21]; decide) (by rw [c21]; rfl) (by decide) ?_
                refine V_aload_n C 1 dX10_count_90 rfl rfl ?_
                obtain ⟨x22, e23, h⟩ := h_b1_some h
                refine V_getI C fl_RX10_150 dX10_count_91 e23 ?_
                cases h
                exact V_iret C B dX10_count_94
              · rw [if_neg c21] at h
                by_cases c24 : a1 = 7
                · rw [if_pos c24] at h
                  refine V_tabIn (tgt := 95) C dX10_count_8 (by rw [c24]; decide) (by rw [c24]; decide) (by rw [c24]; rfl) (by decide) ?_
                  refine V_iconst (v := 0) C dX10_count_95 (by decide) ?_
                  refine V_istore_n (lv' := [(3, .int 0), (2, .int 0), (0, va_rf a0), (1, .int a1)]) C dX10_count_96 rfl (by decide) rfl ?_
                  exact V_sub [2, 1, 0] rfl (w_X10_count_97 C B h_hN s1 a0 0 0 h)
                · rw [if_neg c24] at h
                  by_cases c33 : a1 = 8
                  · rw [if_pos c33] at h
                    refine V_tabIn (tgt := 133) C dX10_count_8 (by rw [c33]; decide) (by rw [c33]; decide) (by rw [c33]; rfl) (by decide) ?_
                    refine V_iconst (v := 0) C dX10_count_133 (by decide) ?_
                    refine V_istore_n (lv' := [(3, .int 0), (2, .int 0), (0, va_rf a0), (1, .int a1)]) C dX10_count_134 rfl (by decide) rfl ?_
                    exact V_sub [2, 1, 0] rfl (w_X10_count_135 C B h_hN s1 a0 0 0 h)
                  · rw [if_neg c33] at h
                    refine V_tabOut (tgt := 170) C dX10_count_8 (by have q0 := lv_neT c3 (show (0 : Int32).toInt = 0 by decide); have q1 := lv_neT c6 (show (1 : Int32).toInt = 1 by decide); have q2 := lv_neT c9 (show (2 : Int32).toInt = 2 by decide); have q3 := lv_neT c12 (show (3 : Int32).toInt = 3 by decide); have q4 := lv_neT c15 (show (4 : Int32).toInt = 4 by decide); have q5 := lv_neT c18 (show (5 : Int32).toInt = 5 by decide); have q6 := lv_neT c21 (show (6 : Int32).toInt = 6 by decide); have q7 := lv_neT c24 (show (7 : Int32).toInt = 7 by decide); have q8 := lv_neT c33 (show (8 : Int32).toInt = 8 by decide); omega) (by decide) ?_
                    refine V_iconst (v := (-1)) C dX10_count_170 (by decide) ?_
                    cases h
                    exact V_iret C B dX10_count_171
