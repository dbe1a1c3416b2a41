/-! X10_move -/
theorem dX10_move_0 : decode cX10_move 0 = .ok (.aload_n 0, 1) := by decide +kernel
theorem dX10_move_1 : decode cX10_move 1 = .ok (.aload_n 0, 1) := by decide +kernel
theorem dX10_move_2 : decode cX10_move 2 = .ok (.iload_n 1, 1) := by decide +kernel
theorem dX10_move_3 : decode cX10_move 3 = .ok (.invokevirtual 147, 3) := by decide +kernel
theorem dX10_move_6 : decode cX10_move 6 = .ok (.ifCond .eq 26, 3) := by decide +kernel
theorem dX10_move_9 : decode cX10_move 9 = .ok (.iload_n 2, 1) := by decide +kernel
theorem dX10_move_10 : decode cX10_move 10 = .ok (.iconst 0, 1) := by decide +kernel
theorem dX10_move_11 : decode cX10_move 11 = .ok (.bipush 15, 2) := by decide +kernel
theorem dX10_move_13 : decode cX10_move 13 = .ok (.invokestatic 120, 3) := by decide +kernel
theorem dX10_move_16 : decode cX10_move 16 = .ok (.ifCond .eq 16, 3) := by decide +kernel
theorem dX10_move_19 : decode cX10_move 19 = .ok (.aload_n 0, 1) := by decide +kernel
theorem dX10_move_20 : decode cX10_move 20 = .ok (.iload_n 2, 1) := by decide +kernel
theorem dX10_move_21 : decode cX10_move 21 = .ok (.invokevirtual 143, 3) := by decide +kernel
theorem dX10_move_24 : decode cX10_move 24 = .ok (.iconst (-1), 1) := by decide +kernel
theorem dX10_move_25 : decode cX10_move 25 = .ok (.if_icmp .ne 7, 3) := by decide +kernel
theorem dX10_move_28 : decode cX10_move 28 = .ok (.iconst 0, 1) := by decide +kernel
theorem dX10_move_29 : decode cX10_move 29 = .ok (.goto 4, 3) := by decide +kernel
theorem dX10_move_32 : decode cX10_move 32 = .ok (.iconst 1, 1) := by decide +kernel
theorem dX10_move_33 : decode cX10_move 33 = .ok (.putfield 117, 3) := by decide +kernel
theorem dX10_move_36 : decode cX10_move 36 = .ok (.aload_n 0, 1) := by decide +kernel
theorem dX10_move_37 : decode cX10_move 37 = .ok (.getfield 117, 3) := by decide +kernel
theorem dX10_move_40 : decode cX10_move 40 = .ok (.ifCond .le 4, 3) := by decide +kernel
theorem dX10_move_43 : decode cX10_move 43 = .ok (.return_, 1) := by decide +kernel
theorem dX10_move_44 : decode cX10_move 44 = .ok (.aload_n 0, 1) := by decide +kernel
theorem dX10_move_45 : decode cX10_move 45 = .ok (.getfield 82, 3) := by decide +kernel
theorem dX10_move_48 : decode cX10_move 48 = .ok (.aload_n 0, 1) := by decide +kernel
theorem dX10_move_49 : decode cX10_move 49 = .ok (.getfield 49, 3) := by decide +kernel
theorem dX10_move_52 : decode cX10_move 52 = .ok (.iload_n 1, 1) := by decide +kernel
theorem dX10_move_53 : decode cX10_move 53 = .ok (.iaload, 1) := by decide +kernel
theorem dX10_move_54 : decode cX10_move 54 = .ok (.iload_n 1, 1) := by decide +kernel
theorem dX10_move_55 : decode cX10_move 55 = .ok (.iastore, 1) := by decide +kernel
theorem dX10_move_56 : decode cX10_move 56 = .ok (.aload_n 0, 1) := by decide +kernel
theorem dX10_move_57 : decode cX10_move 57 = .ok (.getfield 85, 3) := by decide +kernel
theorem dX10_move_60 : decode cX10_move 60 = .ok (.aload_n 0, 1) := by decide +kernel
theorem dX10_move_61 : decode cX10_move 61 = .ok (.getfield 49, 3) := by decide +kernel
theorem dX10_move_64 : decode cX10_move 64 = .ok (.iload_n 1, 1) := by decide +kernel
theorem dX10_move_65 : decode cX10_move 65 = .ok (.iaload, 1) := by decide +kernel
theorem dX10_move_66 : decode cX10_move 66 = .ok (.aload_n 0, 1) := by decide +kernel
theorem dX10_move_67 : decode cX10_move 67 = .ok (.getfield 150, 3) := by decide +kernel
theorem dX10_move_70 : decode cX10_move 70 = .ok (.bipush 30, 2) := by decide +kernel
theorem dX10_move_72 : decode cX10_move 72 = .ok (.iadd, 1) := by decide +kernel
theorem dX10_move_73 : decode cX10_move 73 = .ok (.iastore, 1) := by decide +kernel
theorem dX10_move_74 : decode cX10_move 74 = .ok (.aload_n 0, 1) := by decide +kernel
theorem dX10_move_75 : decode cX10_move 75 = .ok (.getfield 49, 3) := by decide +kernel
theorem dX10_move_78 : decode cX10_move 78 = .ok (.iload_n 1, 1) := by decide +kernel
theorem dX10_move_79 : decode cX10_move 79 = .ok (.iload_n 2, 1) := by decide +kernel
theorem dX10_move_80 : decode cX10_move 80 = .ok (.iastore, 1) := by decide +kernel
theorem dX10_move_81 : decode cX10_move 81 = .ok (.return_, 1) := by decide +kernel
def j_X10_move_33 (σ : HS) (l0 : Option Nat) (l1 : Int32) (l2 : Int32) (t0 : Int32) (t1 : Option Nat) : Option (Unit × HS) :=
  h_b1 (h_pI σ t1 11 0 t0) fun s7 =>
  h_b1 (h_gI s7 l0 11 0) fun x9 =>
  if x9 ≤ 0 then
    h_b1 (h_gR s7 l0 11 26) fun x12 =>
    h_b1 (h_gR s7 l0 11 14) fun x14 =>
    h_b1 (h_aI s7 x14 100 l1) fun x16 =>
    h_b1 (h_sI s7 x12 100 x16 l1) fun s18 =>
    h_b1 (h_gR s18 l0 11 27) fun x20 =>
    h_b1 (h_gR s18 l0 11 14) fun x22 =>
    h_b1 (h_aI s18 x22 100 l1) fun x24 =>
    h_b1 (h_gI s18 l0 11 1) fun x26 =>
    h_b1 (h_sI s18 x20 100 x24 (x26 + 30)) fun s28 =>
    h_b1 (h_gR s28 l0 11 14) fun x30 =>
    h_b1 (h_sI s28 x30 100 l1 l2) fun s32 =>
    some ((), s32)
  else
    some ((), s7)
def j_X10_move_32 (σ : HS) (l0 : Option Nat) (l1 : Int32) (l2 : Int32) (t0 : Option Nat) : Option (Unit × HS) :=
  j_X10_move_33 σ l0 l1 l2 1 t0
def f_X10_move (σ : HS) (a0 : Option Nat) (a1 : Int32) (a2 : Int32) : Option (Unit × HS) :=
  h_b1 (h_rcv σ a0 11) fun y4 =>
  h_bd (f_X10_isSite σ a0 a1) fun r1 s2 =>
  if r1 = 0 then
    j_X10_move_32 s2 a0 a1 a2 a0
  else
    h_bd (f_X10_in s2 a2 0 15) fun r34 s35 =>
    if r34 = 0 then
      j_X10_move_32 s35 a0 a1 a2 a0
    else
      h_b1 (h_rcv s35 a0 11) fun y41 =>
      h_bd (f_X10_siteAt s35 a0 a2) fun r38 s39 =>
      if r38 = (-1) then
        j_X10_move_33 s39 a0 a1 a2 0 a0
      else
        j_X10_move_32 s39 a0 a1 a2 a0
set_option maxHeartbeats 4000000 in
set_option maxRecDepth 100000 in
theorem jw_X10_move_33 {p : Program} {l : Launch} {e : Env} {R : Room} {s : State} {m : MethodId} {args : Array Value} {below : List Frame} {meth : Method} {c : Code} {D : va_G} {dA : Nat → ClassId} {bs : Nat} (C : h_C p m c cX10_move 3 s args RX10 D dA) {σ0 : HS} (B : h_B R s meth σ0 none 2 43) {σ' : HS} : ∀ (σ : HS) (l0 : Option Nat) (l1 : Int32) (l2 : Int32) (t0 : Int32) (t1 : Option Nat), j_X10_move_33 σ l0 l1 l2 t0 t1 = some ((), σ') → V p l e R s m args below meth c D dA bs 3 (MQ below (h_Q D dA bs none σ0 σ') args s R.cells R.slots (fun q => bs ≤ q)) σ 33 [(0, va_rf l0), (1, .int l1), (2, .int l2)] [.int t0, va_rf t1] := by
  intro σ l0 l1 l2 t0 t1 h
  unfold j_X10_move_33 at h
  obtain ⟨s7, e8, h⟩ := h_b1_some h
  refine V_putI C fw_RX10_117 dX10_move_33 e8 ?_
  refine V_aload_n C 0 dX10_move_36 rfl rfl ?_
  obtain ⟨x9, e10, h⟩ := h_b1_some h
  refine V_getI C fl_RX10_117 dX10_move_37 e10 ?_
  refine V_if_le (tgt := 44) C dX10_move_40 (by decide) (fun c11 => ?_) (fun c11 => ?_)
  · rw [if_pos c11] at h
    refine V_aload_n C 0 dX10_move_44 rfl rfl ?_
    obtain ⟨x12, e13, h⟩ := h_b1_some h
    refine V_getR C fl_RX10_82 dX10_move_45 e13 ?_
    refine V_aload_n C 0 dX10_move_48 rfl rfl ?_
    obtain ⟨x14, e15, h⟩ := h_b1_some h
    refine V_getR C fl_RX10_49 dX10_move_49 e15 ?_
    refine V_iload_n C 1 dX10_move_52 rfl rfl ?_
    obtain ⟨x16, e17, h⟩ := h_b1_some h
    refine V_iald C dX10_move_53 e17 ?_
    refine V_iload_n C 1 dX10_move_54 rfl rfl ?_
    obtain ⟨s18, e19, h⟩ := h_b1_some h
    refine V_iast C dX10_move_55 e19 ?_
    refine V_aload_n C 0 dX10_move_56 rfl rfl ?_
    obtain ⟨x20, e21, h⟩ := h_b1_some h
    refine V_getR C fl_RX10_85 dX10_move_57 e21 ?_
    refine V_aload_n C 0 dX10_move_60 rfl rfl ?_
    obtain ⟨x22, e23, h⟩ := h_b1_some h
    refine V_getR C fl_RX10_49 dX10_move_61 e23 ?_
    refine V_iload_n C 1 dX10_move_64 rfl rfl ?_
    obtain ⟨x24, e25, h⟩ := h_b1_some h
    refine V_iald C dX10_move_65 e25 ?_
    refine V_aload_n C 0 dX10_move_66 rfl rfl ?_
    obtain ⟨x26, e27, h⟩ := h_b1_some h
    refine V_getI C fl_RX10_150 dX10_move_67 e27 ?_
    refine V_bipush (v := 30) C dX10_move_70 (by decide) ?_
    refine V_iadd C dX10_move_72 ?_
    obtain ⟨s28, e29, h⟩ := h_b1_some h
    refine V_iast C dX10_move_73 e29 ?_
    refine V_aload_n C 0 dX10_move_74 rfl rfl ?_
    obtain ⟨x30, e31, h⟩ := h_b1_some h
    refine V_getR C fl_RX10_49 dX10_move_75 e31 ?_
    refine V_iload_n C 1 dX10_move_78 rfl rfl ?_
    refine V_iload_n C 2 dX10_move_79 rfl rfl ?_
    obtain ⟨s32, e33, h⟩ := h_b1_some h
    refine V_iast C dX10_move_80 e33 ?_
    cases h
    exact V_vret C B dX10_move_81
  · rw [if_neg c11] at h
    cases h
    exact V_vret C B dX10_move_43
set_option maxHeartbeats 4000000 in
set_option maxRecDepth 100000 in
theorem jw_X10_move_32 {p : Program} {l : Launch} {e : Env} {R : Room} {s : State} {m : MethodId} {args : Array Value} {below : List Frame} {meth : Method} {c : Code} {D : va_G} {dA : Nat → ClassId} {bs : Nat} (C : h_C p m c cX10_move 3 s args RX10 D dA) {σ0 : HS} (B : h_B R s meth σ0 none 2 43) {σ' : HS} : ∀ (σ : HS) (l0 : Option Nat) (l1 : Int32) (l2 : Int32) (t0 : Option Nat), j_X10_move_32 σ l0 l1 l2 t0 = some ((), σ') → V p l e R s m args below meth c D dA bs 3 (MQ below (h_Q D dA bs none σ0 σ') args s R.cells R.slots (fun q => bs ≤ q)) σ 32 [(0, va_rf l0), (1, .int l1), (2, .int l2)] [va_rf t0] := by
  intro σ l0 l1 l2 t0 h
  unfold j_X10_move_32 at h
  refine V_iconst (v := 1) C dX10_move_32 (by decide) ?_
  exact V_sub [0, 1, 2] rfl (jw_X10_move_33 C B σ l0 l1 l2 1 t0 h)
set_option maxHeartbeats 4000000 in
set_option maxRecDepth 100000 in
theorem m_X10_move (l : Launch) (D : va_G) (dA : Nat → ClassId) (bs : Nat) {σ σ' : HS} {a0 : Option Nat} {a1 : Int32} {a2 : Int32} (h : f_X10_move σ a0 a1 a2 = some ((), σ')) : MetC l yX10_move cX10_move 3 none 2 43 D dA bs [va_rf a0, .int a1, .int a2] none σ σ' := by
  refine MetC.of (by decide) (h_avR (h_avI (h_avI h_av0))) (Nat.le_of_ble_eq_true rfl) ?_
  intro p e R s m args below meth c C B hnm
  unfold f_X10_move at h
  refine V_sub (lv' := [(0, va_rf a0), (1, .int a1), (2, .int a2)]) [0, 1, 2] rfl ?_
  refine V_aload_n C 0 dX10_move_0 rfl rfl ?_
  refine V_aload_n C 0 dX10_move_1 rfl rfl ?_
  refine V_iload_n C 1 dX10_move_2 rfl rfl ?_
  obtain ⟨y4, e5, h⟩ := h_b1_some h
  obtain ⟨r1, s2, e3, h⟩ := h_bd_some h
  refine V_cV (As := [.int a1]) (rest := [va_rf a0]) C mv_RX10_147 (m_X10_isSite l D dA bs e3) e5 rfl rfl (Nat.le_trans (h_wR h_w0) (by decide)) (h_fr B (by decide)) (h_lo B (by decide)) dX10_move_3 ?_
  refine V_if_eq (tgt := 32) C dX10_move_6 (by decide) (fun c6 => ?_) (fun c6 => ?_)
  · rw [if_pos c6] at h
    exact V_sub [0, 1, 2] rfl (jw_X10_move_32 C B s2 a0 a1 a2 a0 h)
  · rw [if_neg c6] at h
    refine V_iload_n C 2 dX10_move_9 rfl rfl ?_
    refine V_iconst (v := 0) C dX10_move_10 (by decide) ?_
    refine V_bipush (v := 15) C dX10_move_11 (by decide) ?_
    obtain ⟨r34, s35, e36, h⟩ := h_bd_some h
    refine V_cS (As := [.int a2, .int 0, .int 15]) (rest := [va_rf a0]) C ms_RX10_120 (m_X10_in l D dA bs e36) rfl rfl (Nat.le_trans (h_wR h_w0) (by decide)) (h_fr B (by decide)) (h_lo B (by decide)) dX10_move_13 ?_
    refine V_if_eq (tgt := 32) C dX10_move_16 (by decide) (fun c37 => ?_) (fun c37 => ?_)
    · rw [if_pos c37] at h
      exact V_sub [0, 1, 2] rfl (jw_X10_move_32 C B s35 a0 a1 a2 a0 h)
    · rw [if_neg c37] at h
      refine V_aload_n C 0 dX10_move_19 rfl rfl ?_
      refine V_iload_n C 2 dX10_move_20 rfl rfl ?_
      obtain ⟨y41, e42, h⟩ := h_b1_some h
      obtain ⟨r38, s39, e40, h⟩ := h_bd_some h
      refine V_cV (As := [.int a2]) (rest := [va_rf a0]) C mv_RX10_143 (m_X10_siteAt l D dA bs e40) e42 rfl rfl (Nat.le_trans (h_wR h_w0) (by decide)) (h_fr B (by decide)) (h_lo B (by decide)) dX10_move_21 ?_
      refine V_iconst (v := (-1)) C dX10_move_24 (by decide) ?_
      refine V_icmp_ne (tgt := 32) C dX10_move_25 (by decide) (fun c43 => ?_) (fun c43 => ?_)
      · rw [if_neg c43] at h
        exact V_sub [0, 1, 2] rfl (jw_X10_move_32 C B s39 a0 a1 a2 a0 h)
      · rw [if_pos c43] at h
        refine V_iconst (v := 0) C dX10_move_28 (by decide) ?_
        refine V_goto (tgt := 33) C dX10_move_29 (by decide) ?_
        exact V_sub [0, 1, 2] rfl (jw_X10_move_33 C B s39 a0 a1 a2 0 a0 h)
/-! X10_post -/
theorem dX10_post_0 : decode cX10_post 0 = .ok (.aload_n 0, 1) := by decide +kernel
theorem dX10_post_1 : decode cX10_post 1 = .ok (.getfield 153, 3) := by decide +kernel
theorem dX10_post_4 : decode cX10_post 4 = .ok (.sipush 200, 3) := by decide +kernel
theorem dX10_post_7 : decode cX10_post 7 = .ok (.if_icmp .ne 14, 3) := by decide +kernel
theorem dX10_post_10 : decode cX10_post 10 = .ok (.aload_n 0, 1) := by decide +kernel
theorem dX10_post_11 : decode cX10_post 11 = .ok (.dup, 1) := by decide +kernel
theorem dX10_post_12 : decode cX10_post 12 = .ok (.getfield 156, 3) := by decide +kernel
theorem dX10_post_15 : decode cX10_post 15 = .ok (.iconst 1, 1) := by decide +kernel
theorem dX10_post_16 : decode cX10_post 16 = .ok (.iadd, 1) := by decide +kernel
theorem dX10_post_17 : decode cX10_post 17 = .ok (.putfield 156, 3) := by decide +kernel
theorem dX10_post_20 : decode cX10_post 20 = .ok (.return_, 1) := by decide +kernel
theorem dX10_post_21 : decode cX10_post 21 = .ok (.bipush 8, 2) := by decide +kernel
theorem dX10_post_23 : decode cX10_post 23 = .ok (.aload_n 0, 1) := by decide +kernel
theorem dX10_post_24 : decode cX10_post 24 = .ok (.getfield 153, 3) := by decide +kernel
theorem dX10_post_27 : decode cX10_post 27 = .ok (.imul, 1) := by decide +kernel
theorem dX10_post_28 : decode cX10_post 28 = .ok (.istore 8, 2) := by decide +kernel
theorem dX10_post_30 : decode cX10_post 30 = .ok (.aload_n 0, 1) := by decide +kernel
theorem dX10_post_31 : decode cX10_post 31 = .ok (.getfield 109, 3) := by decide +kernel
theorem dX10_post_34 : decode cX10_post 34 = .ok (.iload 8, 2) := by decide +kernel
theorem dX10_post_36 : decode cX10_post 36 = .ok (.iload_n 3, 1) := by decide +kernel
theorem dX10_post_37 : decode cX10_post 37 = .ok (.iastore, 1) := by decide +kernel
theorem dX10_post_38 : decode cX10_post 38 = .ok (.aload_n 0, 1) := by decide +kernel
theorem dX10_post_39 : decode cX10_post 39 = .ok (.getfield 109, 3) := by decide +kernel
theorem dX10_post_42 : decode cX10_post 42 = .ok (.iload 8, 2) := by decide +kernel
theorem dX10_post_44 : decode cX10_post 44 = .ok (.iconst 1, 1) := by decide +kernel
theorem dX10_post_45 : decode cX10_post 45 = .ok (.iadd, 1) := by decide +kernel
theorem dX10_post_46 : decode cX10_post 46 = .ok (.iload 4, 2) := by decide +kernel
theorem dX10_post_48 : decode cX10_post 48 = .ok (.iastore, 1) := by decide +kernel
theorem dX10_post_49 : decode cX10_post 49 = .ok (.aload_n 0, 1) := by decide +kernel
theorem dX10_post_50 : decode cX10_post 50 = .ok (.getfield 109, 3) := by decide +kernel
theorem dX10_post_53 : decode cX10_post 53 = .ok (.iload 8, 2) := by decide +kernel
theorem dX10_post_55 : decode cX10_post 55 = .ok (.iconst 2, 1) := by decide +kernel
theorem dX10_post_56 : decode cX10_post 56 = .ok (.iadd, 1) := by decide +kernel
theorem dX10_post_57 : decode cX10_post 57 = .ok (.iload 5, 2) := by decide +kernel
theorem dX10_post_59 : decode cX10_post 59 = .ok (.iastore, 1) := by decide +kernel
theorem dX10_post_60 : decode cX10_post 60 = .ok (.aload_n 0, 1) := by decide +kernel
theorem dX10_post_61 : decode cX10_post 61 = .ok (.getfield 109, 3) := by decide +kernel
theorem dX10_post_64 : decode cX10_post 64 = .ok (.iload 8, 2) := by decide +kernel
theorem dX10_post_66 : decode cX10_post 66 = .ok (.iconst 3, 1) := by decide +kernel
theorem dX10_post_67 : decode cX10_post 67 = .ok (.iadd, 1) := by decide +kernel
theorem dX10_post_68 : decode cX10_post 68 = .ok (.iload 6, 2) := by decide +kernel
theorem dX10_post_70 : decode cX10_post 70 = .ok (.iastore, 1) := by decide +kernel
theorem dX10_post_71 : decode cX10_post 71 = .ok (.aload_n 0, 1) := by decide +kernel
theorem dX10_post_72 : decode cX10_post 72 = .ok (.getfield 109, 3) := by decide +kernel
theorem dX10_post_75 : decode cX10_post 75 = .ok (.iload 8, 2) := by decide +kernel
theorem dX10_post_77 : decode cX10_post 77 = .ok (.iconst 4, 1) := by decide +kernel
theorem dX10_post_78 : decode cX10_post 78 = .ok (.iadd, 1) := by decide +kernel
theorem dX10_post_79 : decode cX10_post 79 = .ok (.iload 7, 2) := by decide +kernel
theorem dX10_post_81 : decode cX10_post 81 = .ok (.iastore, 1) := by decide +kernel
theorem dX10_post_82 : decode cX10_post 82 = .ok (.aload_n 0, 1) := by decide +kernel
theorem dX10_post_83 : decode cX10_post 83 = .ok (.getfield 109, 3) := by decide +kernel
theorem dX10_post_86 : decode cX10_post 86 = .ok (.iload 8, 2) := by decide +kernel
theorem dX10_post_88 : decode cX10_post 88 = .ok (.iconst 5, 1) := by decide +kernel
theorem dX10_post_89 : decode cX10_post 89 = .ok (.iadd, 1) := by decide +kernel
theorem dX10_post_90 : decode cX10_post 90 = .ok (.iconst 0, 1) := by decide +kernel
theorem dX10_post_91 : decode cX10_post 91 = .ok (.iastore, 1) := by decide +kernel
theorem dX10_post_92 : decode cX10_post 92 = .ok (.aload_n 0, 1) := by decide +kernel
theorem dX10_post_93 : decode cX10_post 93 = .ok (.getfield 109, 3) := by decide +kernel
theorem dX10_post_96 : decode cX10_post 96 = .ok (.iload 8, 2) := by decide +kernel
theorem dX10_post_98 : decode cX10_post 98 = .ok (.bipush 6, 2) := by decide +kernel
theorem dX10_post_100 : decode cX10_post 100 = .ok (.iadd, 1) := by decide +kernel
theorem dX10_post_101 : decode cX10_post 101 = .ok (.iload_n 1, 1) := by decide +kernel
theorem dX10_post_102 : decode cX10_post 102 = .ok (.iastore, 1) := by decide +kernel
theorem dX10_post_103 : decode cX10_post 103 = .ok (.aload_n 0, 1) := by decide +kernel
theorem dX10_post_104 : decode cX10_post 104 = .ok (.getfield 109, 3) := by decide +kernel
theorem dX10_post_107 : decode cX10_post 107 = .ok (.iload 8, 2) := by decide +kernel
theorem dX10_post_109 : decode cX10_post 109 = .ok (.bipush 7, 2) := by decide +kernel
theorem dX10_post_111 : decode cX10_post 111 = .ok (.iadd, 1) := by decide +kernel
theorem dX10_post_112 : decode cX10_post 112 = .ok (.iload_n 2, 1) := by decide +kernel
theorem dX10_post_113 : decode cX10_post 113 = .ok (.iastore, 1) := by decide +kernel
theorem dX10_post_114 : decode cX10_post 114 = .ok (.aload_n 0, 1) := by decide +kernel
theorem dX10_post_115 : decode cX10_post 115 = .ok (.dup, 1) := by decide +kernel
theorem dX10_post_116 : decode cX10_post 116 = .ok (.getfield 153, 3) := by decide +kernel
theorem dX10_post_119 : decode cX10_post 119 = .ok (.iconst 1, 1) := by decide +kernel
theorem dX10_post_120 : decode cX10_post 120 = .ok (.iadd, 1) := by decide +kernel
theorem dX10_post_121 : decode cX10_post 121 = .ok (.putfield 153, 3) := by decide +kernel
theorem dX10_post_124 : decode cX10_post 124 = .ok (.return_, 1) := by decide +kernel
def f_X10_post (σ : HS) (a0 : Option Nat) (a1 : Int32) (a2 : Int32) (a3 : Int32) (a4 : Int32) (a5 : Int32) (a6 : Int32) (a7 : Int32) : Option (Unit × HS) :=
  h_b1 (h_gI σ a0 11 36) fun x1 =>
  if x1 = 200 then
    h_b1 (h_gI σ a0 11 42) fun x42 =>
    h_b1 (h_pI σ a0 11 42 (x42 + 1)) fun s44 =>
    some ((), s44)
  else
    h_b1 (h_gI σ a0 11 36) fun x4 =>
    h_b1 (h_gR σ a0 11 37) fun x6 =>
    h_b1 (h_sI σ x6 100 (8 * x4) a3) fun s8 =>
    h_b1 (h_gR s8 a0 11 37) fun x10 =>
    h_b1 (h_sI s8 x10 100 ((8 * x4) + 1) a4) fun s12 =>
    h_b1 (h_gR s12 a0 11 37) fun x14 =>
    h_b1 (h_sI s12 x14 100 ((8 * x4) + 2) a5) fun s16 =>
    h_b1 (h_gR s16 a0 11 37) fun x18 =>
    h_b1 (h_sI s16 x18 100 ((8 * x4) + 3) a6) fun s20 =>
    h_b1 (h_gR s20 a0 11 37) fun x22 =>
    h_b1 (h_sI s20 x22 100 ((8 * x4) + 4) a7) fun s24 =>
    h_b1 (h_gR s24 a0 11 37) fun x26 =>
    h_b1 (h_sI s24 x26 100 ((8 * x4) + 5) 0) fun s28 =>
    h_b1 (h_gR s28 a0 11 37) fun x30 =>
    h_b1 (h_sI s28 x30 100 ((8 * x4) + 6) a1) fun s32 =>
    h_b1 (h_gR s32 a0 11 37) fun x34 =>
    h_b1 (h_sI s32 x34 100 ((8 * x4) + 7) a2) fun s36 =>
    h_b1 (h_gI s36 a0 11 36) fun x38 =>
    h_b1 (h_pI s36 a0 11 36 (x38 + 1)) fun s40 =>
    some ((), s40)
set_option maxHeartbeats 4000000 in
set_option maxRecDepth 100000 in
theorem m_X10_post (l : Launch) (D : va_G) (dA : Nat → ClassId) (bs : Nat) {σ σ' : HS} {a0 : Option Nat} {a1 : Int32} {a2 : Int32} {a3 : Int32} {a4 : Int32} {a5 : Int32} {a6 : Int32} {a7 : Int32} (h : f_X10_post σ a0 a1 a2 a3 a4 a5 a6 a7 = some ((), σ')) : MetC l yX10_post cX10_post 9 none 0 0 D dA bs [va_rf a0, .int a1, .int a2, .int a3, .int a4, .int a5, .int a6, .int a7] none σ σ' := by
  refine MetC.of (by decide) (h_avR (h_avI (h_avI (h_avI (h_avI (h_avI (h_avI (h_avI h_av0)))))))) (Nat.le_of_ble_eq_true rfl) ?_
  intro p e R s m args below meth c C B hnm
  unfold f_X10_post at h
  refine V_sub (lv' := [(0, va_rf a0), (1, .int a1), (2, .int a2), (3, .int a3), (4, .int a4), (5, .int a5), (6, .int a6), (7, .int a7)]) [0, 1, 2, 3, 4, 5, 6, 7] rfl ?_
  refine V_aload_n C 0 dX10_post_0 rfl rfl ?_
  obtain ⟨x1, e2, h⟩ := h_b1_some h
  refine V_getI C fl_RX10_153 dX10_post_1 e2 ?_
  refine V_sipush (v := 200) C dX10_post_4 (by decide) ?_
  refine V_icmp_ne (tgt := 21) C dX10_post_7 (by decide) (fun c3 => ?_) (fun c3 => ?_)
  · rw [if_neg c3] at h
    refine V_bipush (v := 8) C dX10_post_21 (by decide) ?_
    refine V_aload_n C 0 dX10_post_23 rfl rfl ?_
    obtain ⟨x4, e5, h⟩ := h_b1_some h
    refine V_getI C fl_RX10_153 dX10_post_24 e5 ?_
    refine V_imul C dX10_post_27 ?_
    refine V_istore (lv' := [(8, .int (8 * x4)), (0, va_rf a0), (1, .int a1), (2, .int a2), (3, .int a3), (4, .int a4), (5, .int a5), (6, .int a6), (7, .int a7)]) C dX10_post_28 (by decide) rfl ?_
    refine V_aload_n C 1 dX10_post_30 rfl rfl ?_
    obtain ⟨x6, e7, h⟩ := h_b1_some h
    refine V_getR C fl_RX10_109 dX10_post_31 e7 ?_
    refine V_iload C 0 dX10_post_34 rfl ?_
    refine V_iload_n C 4 dX10_post_36 rfl rfl ?_
    obtain ⟨s8, e9, h⟩ := h_b1_some h
    refine V_iast C dX10_post_37 e9 ?_
    refine V_aload_n C 1 dX10_post_38 rfl rfl ?_
    obtain ⟨x10, e11, h⟩ := h_b1_some h
    refine V_getR C fl_RX10_109 dX10_post_39 e11 ?_
    refine V_iload C 0 dX10_post_42 rfl ?_
    refine V_iconst (v := 1) C dX10_post_44 (by decide) ?_
    refine V_iadd C dX10_post_45 ?_
    refine V_iload C 5 dX10_post_46 rfl ?_
    obtain ⟨s12, e13, h⟩ := h_b1_some h
    refine V_iast C dX10_post_48 e13 ?_
    refine V_aload_n C 1 dX10_post_49 rfl rfl ?_
    obtain ⟨x14, e15, h⟩ := h_b1_some h
    refine V_getR C fl_RX10_109 dX10_post_50 e15 ?_
    refine V_iload C 0 dX10_post_53 rfl ?_
    refine V_iconst (v := 2) C dX10_post_55 (by decide) ?_
    refine V_iadd C dX10_post_56 ?_
    refine V_iload C 6 dX10_post_57 rfl ?_
    obtain ⟨s16, e17, h⟩ := h_b1_some h
    refine V_iast C dX10_post_59 e17 ?_
    refine V_aload_n C 1 dX10_post_60 rfl rfl ?_
    obtain ⟨x18, e19, h⟩ := h_b1_some h
    refine V_getR C fl_RX10_109 dX10_post_61 e19 ?_
    refine V_iload C 0 dX10_post_64 rfl ?_
    refine V_iconst (v := 3) C dX10_post_66 (by decide) ?_
    refine V_iadd C dX10_post_67 ?_
    refine V_iload C 7 dX10_post_68 rfl ?_
    obtain ⟨s20, e21, h⟩ := h_b1_some h
    refine V_iast C dX10_post_70 e21 ?_
    refine V_aload_n C 1 dX10_post_71 rfl rfl ?_
    obtain ⟨x22, e23, h⟩ := h_b1_some h
    refine V_getR C fl_RX10_109 dX10_post_72 e23 ?_
    refine V_iload C 0 dX10_post_75 rfl ?_
    refine V_iconst (v := 4) C dX10_post_77 (by decide) ?_
    refine V_iadd C dX10_post_78 ?_
    refine V_iload C 8 dX10_post_79 rfl ?_
    obtain ⟨s24, e25, h⟩ := h_b1_some h
    refine V_iast C dX10_post_81 e25 ?_
    refine V_aload_n C 1 dX10_post_82 rfl rfl ?_
    obtain ⟨x26, e27, h⟩ := h_b1_some h
    refine V_getR C fl_RX10_109 dX10_post_83 e27 ?_
    refine V_iload C 0 dX10_post_86 rfl ?_
    refine V_iconst (v := 5) C dX10_post_88 (by decide) ?_
    refine V_iadd C dX10_post_89 ?_
    refine V_iconst (v := 0) C dX10_post_90 (by decide) ?_
    obtain ⟨s28, e29, h⟩ := h_b1_some h
    refine V_iast C dX10_post_91 e29 ?_
    refine V_aload_n C 1 dX10_post_92 rfl rfl ?_
    obtain ⟨x30, e31, h⟩ := h_b1_some h
    refine V_getR C fl_RX10_109 dX10_post_93 e31 ?_
    refine V_iload C 0 dX10_post_96 rfl ?_
    refine V_bipush (v := 6) C dX10_post_98 (by decide) ?_
    refine V_iadd C dX10_post_100 ?_
    refine V_iload_n C 2 dX10_post_101 rfl rfl ?_
    obtain ⟨s32, e33, h⟩ := h_b1_some h
    refine V_iast C dX10_post_102 e33 ?_
    refine V_aload_n C 1 dX10_post_103 rfl rfl ?_
    obtain ⟨x34, e35, h⟩ := h_b1_some h
    refine V_getR C fl_RX10_109 dX10_post_104 e35 ?_
    refine V_iload C 0 dX10_post_107 rfl ?_
    refine V_bipush (v := 7) C dX10_post_109 (by decide) ?_
    refine V_iadd C dX10_post_111 ?_
    refine V_iload_n C 3 dX10_post_112 rfl rfl ?_
    obtain ⟨s36, e37, h⟩ := h_b1_some h
    refine V_iast C dX10_post_113 e37 ?_
    refine V_aload_n C 1 dX10_post_114 rfl rfl ?_
    refine V_dupR C dX10_post_115 ?_
    obtain ⟨x38, e39, h⟩ := h_b1_some h
    refine V_getI C fl_RX10_153 dX10_post_116 e39 ?_
    refine V_iconst (v := 1) C dX10_post_119 (by decide) ?_
    refine V_iadd C dX10_post_120 ?_
    obtain ⟨s40, e41, h⟩ := h_b1_some h
    refine V_putI C fw_RX10_153 dX10_post_121 e41 ?_
    cases h
    exact V_vret C B dX10_post_124
  · rw [if_pos c3] at h
    refine V_aload_n C 0 dX10_post_10 rfl rfl ?_
    refine V_dupR C dX10_post_11 ?_
    obtain ⟨x42, e43, h⟩ := h_b1_some h
    refine V_getI C fl_RX10_156 dX10_post_12 e43 ?_
    refine V_iconst (v := 1) C dX10_post_15 (by decide) ?_
    refine V_iadd C dX10_post_16 ?_
    obtain ⟨s44, e45, h⟩ := h_b1_some h
    refine V_putI C fw_RX10_156 dX10_post_17 e45 ?_
    cases h
    exact V_vret C B dX10_post_20
/-! X10_last -/
theorem dX10_last_0 : decode cX10_last 0 = .ok (.aload_n 0, 1) := by decide +kernel
theorem dX10_last_1 : decode cX10_last 1 = .ok (.getfield 153, 3) := by decide +kernel
theorem dX10_last_4 : decode cX10_last 4 = .ok (.iload_n 2, 1) := by decide +kernel
theorem dX10_last_5 : decode cX10_last 5 = .ok (.if_icmp .le 18, 3) := by decide +kernel
theorem dX10_last_8 : decode cX10_last 8 = .ok (.aload_n 0, 1) := by decide +kernel
theorem dX10_last_9 : decode cX10_last 9 = .ok (.getfield 109, 3) := by decide +kernel
theorem dX10_last_12 : decode cX10_last 12 = .ok (.bipush 8, 2) := by decide +kernel
theorem dX10_last_14 : decode cX10_last 14 = .ok (.aload_n 0, 1) := by decide +kernel
theorem dX10_last_15 : decode cX10_last 15 = .ok (.getfield 153, 3) := by decide +kernel
theorem dX10_last_18 : decode cX10_last 18 = .ok (.imul, 1) := by decide +kernel
theorem dX10_last_19 : decode cX10_last 19 = .ok (.iconst 3, 1) := by decide +kernel
theorem dX10_last_20 : decode cX10_last 20 = .ok (.isub, 1) := by decide +kernel
theorem dX10_last_21 : decode cX10_last 21 = .ok (.iload_n 1, 1) := by decide +kernel
theorem dX10_last_22 : decode cX10_last 22 = .ok (.iastore, 1) := by decide +kernel
theorem dX10_last_23 : decode cX10_last 23 = .ok (.return_, 1) := by decide +kernel
def f_X10_last (σ : HS) (a0 : Option Nat) (a1 : Int32) (a2 : Int32) : Option (Unit × HS) :=
  h_b1 (h_gI σ a0 11 36) fun x1 =>
  if x1 ≤ a2 then
    some ((), σ)
  else
    h_b1 (h_gR σ a0 11 37) fun x4 =>
    h_b1 (h_gI σ a0 11 36) fun x6 =>
    h_b1 (h_sI σ x4 100 ((8 * x6) - 3) a1) fun s8 =>
    some ((), s8)
set_option maxHeartbeats 4000000 in
set_option maxRecDepth 100000 in
theorem m_X10_last (l : Launch) (D : va_G) (dA : Nat → ClassId) (bs : Nat) {σ σ' : HS} {a0 : Option Nat} {a1 : Int32} {a2 : Int32} (h : f_X10_last σ a0 a1 a2 = some ((), σ')) : MetC l yX10_last cX10_last 3 none 0 0 D dA bs [va_rf a0, .int a1, .int a2] none σ σ' := by
  refine MetC.of (by decide) (h_avR (h_avI (h_avI h_av0))) (Nat.le_of_ble_eq_true rfl) ?_
  intro p e R s m args below meth c C B hnm
  unfold f_X10_last at h
  refine V_sub (lv' := [(0, va_rf a0), (1, .int a1), (2, .int a2)]) [0, 1, 2] rfl ?_
  refine V_aload_n C 0 dX10_last_0 rfl rfl ?_
  obtain ⟨x1, e2, h⟩ := h_b1_some h
  refine V_getI C fl_RX10_153 dX10_last_1 e2 ?_
  refine V_iload_n C 2 dX10_last_4 rfl rfl ?_
  refine V_icmp_le (tgt := 23) C dX10_last_5 (by decide) (fun c3 => ?_) (fun c3 => ?_)
  · rw [if_pos c3] at h
    cases h
    exact V_vret C B dX10_last_23
  · rw [if_neg c3] at h
    refine V_aload_n C 0 dX10_last_8 rfl rfl ?_
    obtain ⟨x4, e5, h⟩ := h_b1_some h
    refine V_getR C fl_RX10_109 dX10_last_9 e5 ?_
    refine V_bipush (v := 8) C dX10_last_12 (by decide) ?_
    refine V_aload_n C 0 dX10_last_14 rfl rfl ?_
    obtain ⟨x6, e7, h⟩ := h_b1_some h
    refine V_getI C fl_RX10_153 dX10_last_15 e7 ?_
    refine V_imul C dX10_last_18 ?_
    refine V_iconst (v := 3) C dX10_last_19 (by decide) ?_
    refine V_isub C dX10_last_20 ?_
    refine V_iload_n C 1 dX10_last_21 rfl rfl ?_
    obtain ⟨s8, e9, h⟩ := h_b1_some h
    refine V_iast C dX10_last_22 e9 ?_
    cases h
    exact V_vret C B dX10_last_23
/-! X10_mix -/
theorem dX10_mix_0 : decode cX10_mix 0 = .ok (.iload_n 0, 1) := by decide +kernel
theorem dX10_mix_1 : decode cX10_mix 1 = .ok (.iload_n 1, 1) := by decide +kernel
theorem dX10_mix_2 : decode cX10_mix 2 = .ok (.ixor, 1) := by decide +kernel
theorem dX10_mix_3 : decode cX10_mix 3 = .ok (.ldc 159, 2) := by decide +kernel
theorem dX10_mix_5 : decode cX10_mix 5 = .ok (.imul, 1) := by decide +kernel
theorem dX10_mix_6 : decode cX10_mix 6 = .ok (.istore_n 2, 1) := by decide +kernel
theorem dX10_mix_7 : decode cX10_mix 7 = .ok (.iload_n 2, 1) := by decide +kernel
theorem dX10_mix_8 : decode cX10_mix 8 = .ok (.iload_n 2, 1) := by decide +kernel
theorem dX10_mix_9 : decode cX10_mix 9 = .ok (.bipush 15, 2) := by decide +kernel
theorem dX10_mix_11 : decode cX10_mix 11 = .ok (.iushr, 1) := by decide +kernel
theorem dX10_mix_12 : decode cX10_mix 12 = .ok (.ixor, 1) := by decide +kernel
theorem dX10_mix_13 : decode cX10_mix 13 = .ok (.ireturn, 1) := by decide +kernel
def f_X10_mix (σ : HS) (a0 : Int32) (a1 : Int32) : Option (Int32 × HS) :=
  some ((((a0 ^^^ a1) * 16777619) ^^^ (h_ushr ((a0 ^^^ a1) * 16777619) 15)), σ)
set_option maxHeartbeats 4000000 in
set_option maxRecDepth 100000 in
theorem m_X10_mix (l : Launch) (D : va_G) (dA : Nat → ClassId) (bs : Nat) {σ σ' : HS} {a0 : Int32} {a1 : Int32} {r : Int32} (h : f_X10_mix σ a0 a1 = some (r, σ')) : MetC l yX10_mix cX10_mix 3 (some .int) 0 0 D dA bs [.int a0, .int a1] (some (.int r)) σ σ' := by
  refine MetC.of (by decide) (h_avI (h_avI h_av0)) (Nat.le_of_ble_eq_true rfl) ?_
  intro p e R s m args below meth c C B hnm
  unfold f_X10_mix at h
  refine V_sub (lv' := [(0, .int a0), (1, .int a1)]) [0, 1] rfl ?_
  refine V_iload_n C 0 dX10_mix_0 rfl rfl ?_
  refine V_iload_n C 1 dX10_mix_1 rfl rfl ?_
  refine V_ixor C dX10_mix_2 ?_
  refine V_ldc (v := 16777619) C dX10_mix_3 ck_RX10_159 ?_
  refine V_imul C dX10_mix_5 ?_
  refine V_istore_n (lv' := [(2, .int ((a0 ^^^ a1) * 16777619)), (0, .int a0), (1, .int a1)]) C dX10_mix_6 rfl (by decide) rfl ?_
  refine V_iload_n C 0 dX10_mix_7 rfl rfl ?_
  refine V_iload_n C 0 dX10_mix_8 rfl rfl ?_
  refine V_bipush (v := 15) C dX10_mix_9 (by decide) ?_
  refine V_iushr C dX10_mix_11 ?_
  refine V_ixor C dX10_mix_12 ?_
  cases h
  exact V_iret C B dX10_mix_13
/-! X10_tag -/
theorem dX10_tag_0 : decode cX10_tag 0 = .ok (.iload_n 0, 1) := by decide +kernel
theorem dX10_tag_1 : decode cX10_tag 1 = .ok (.iconst 1, 1) := by decide +kernel
theorem dX10_tag_2 : decode cX10_tag 2 = .ok (.iadd, 1) := by decide +kernel
theorem dX10_tag_3 : decode cX10_tag 3 = .ok (.ldc 160, 2) := by decide +kernel
theorem dX10_tag_5 : decode cX10_tag 5 = .ok (.imul, 1) := by decide +kernel
theorem dX10_tag_6 : decode cX10_tag 6 = .ok (.iload_n 0, 1) := by decide +kernel
theorem dX10_tag_7 : decode cX10_tag 7 = .ok (.invokestatic 161, 3) := by decide +kernel
theorem dX10_tag_10 : decode cX10_tag 10 = .ok (.iload_n 1, 1) := by decide +kernel
theorem dX10_tag_11 : decode cX10_tag 11 = .ok (.invokestatic 161, 3) := by decide +kernel
theorem dX10_tag_14 : decode cX10_tag 14 = .ok (.iload_n 2, 1) := by decide +kernel
theorem dX10_tag_15 : decode cX10_tag 15 = .ok (.invokestatic 161, 3) := by decide +kernel
theorem dX10_tag_18 : decode cX10_tag 18 = .ok (.iload_n 3, 1) := by decide +kernel
theorem dX10_tag_19 : decode cX10_tag 19 = .ok (.invokestatic 161, 3) := by decide +kernel
theorem dX10_tag_22 : decode cX10_tag 22 = .ok (.iload 4, 2) := by decide +kernel
theorem dX10_tag_24 : decode cX10_tag 24 = .ok (.invokestatic 161, 3) := by decide +kernel
theorem dX10_tag_27 : decode cX10_tag 27 = .ok (.ireturn, 1) := by decide +kernel
def f_X10_tag (σ : HS) (a0 : Int32) (a1 : Int32) (a2 : Int32) (a3 : Int32) (a4 : Int32) : Option (Int32 × HS) :=
  h_bd (f_X10_mix σ ((a0 + 1) * 40503) a0) fun r1 s2 =>
  h_bd (f_X10_mix s2 r1 a1) fun r4 s5 =>
  h_bd (f_X10_mix s5 r4 a2) fun r7 s8 =>
  h_bd (f_X10_mix s8 r7 a3) fun r10 s11 =>
  h_bd (f_X10_mix s11 r10 a4) fun r13 s14 =>
  some (r13, s14)
set_option maxHeartbeats 4000000 in
set_option maxRecDepth 100000 in
theorem m_X10_tag (l : Launch) (D : va_G) (dA : Nat → ClassId) (bs : Nat) {σ σ' : HS} {a0 : Int32} {a1 : Int32} {a2 : Int32} {a3 : Int32} {a4 : Int32} {r : Int32} (h : f_X10_tag σ a0 a1 a2 a3 a4 = some (r, σ')) : MetC l yX10_tag cX10_tag 5 (some .int) 1 22 D dA bs [.int a0, .int a1, .int a2, .int a3, .int a4] (some (.int r)) σ σ' := by
  refine MetC.of (by decide) (h_avI (h_avI (h_avI (h_avI (h_avI h_av0))))) (Nat.le_of_ble_eq_true rfl) ?_
  intro p e R s m args below meth c C B hnm
  unfold f_X10_tag at h
  refine V_sub (lv' := [(0, .int a0), (1, .int a1), (2, .int a2), (3, .int a3), (4, .int a4)]) [0, 1, 2, 3, 4] rfl ?_
  refine V_iload_n C 0 dX10_tag_0 rfl rfl ?_
  refine V_iconst (v := 1) C dX10_tag_1 (by decide) ?_
  refine V_iadd C dX10_tag_2 ?_
  refine V_ldc (v := 40503) C dX10_tag_3 ck_RX10_160 ?_
  refine V_imul C dX10_tag_5 ?_
  refine V_iload_n C 0 dX10_tag_6 rfl rfl ?_
  obtain ⟨r1, s2, e3, h⟩ := h_bd_some h
  refine V_cS (As := [.int ((a0 + 1) * 40503), .int a0]) (rest := []) C ms_RX10_161 (m_X10_mix l D dA bs e3) rfl rfl (Nat.le_trans h_w0 (by decide)) (h_fr B (by decide)) (h_lo B (by decide)) dX10_tag_7 ?_
  refine V_iload_n C 1 dX10_tag_10 rfl rfl ?_
  obtain ⟨r4, s5, e6, h⟩ := h_bd_some h
  refine V_cS (As := [.int r1, .int a1]) (rest := []) C ms_RX10_161 (m_X10_mix l D dA bs e6) rfl rfl (Nat.le_trans h_w0 (by decide)) (h_fr B (by decide)) (h_lo B (by decide)) dX10_tag_11 ?_
  refine V_iload_n C 2 dX10_tag_14 rfl rfl ?_
  obtain ⟨r7, s8, e9, h⟩ := h_bd_some h
  refine V_cS (As := [.int r4, .int a2]) (rest := []) C ms_RX10_161 (m_X10_mix l D dA bs e9) rfl rfl (Nat.le_trans h_w0 (by decide)) (h_fr B (by decide)) (h_lo B (by decide)) dX10_tag_15 ?_
  refine V_iload_n C 3 dX10_tag_18 rfl rfl ?_
  obtain ⟨r10, s11, e12, h⟩ := h_bd_some h
  refine V_cS (As := [.int r7, .int a3]) (rest := []) C ms_RX10_161 (m_X10_mix l D dA bs e12) rfl rfl (Nat.le_trans h_w0 (by decide)) (h_fr B (by decide)) (h_lo B (by decide)) dX10_tag_19 ?_
  refine V_iload C 4 dX10_tag_22 rfl ?_
  obtain ⟨r13, s14, e15, h⟩ := h_bd_some h
  refine V_cS (As := [.int r10, .int a4]) (rest := []) C ms_RX10_161 (m_X10_mix l D dA bs e15) rfl rfl (Nat.le_trans h_w0 (by decide)) (h_fr B (by decide)) (h_lo B (by decide)) dX10_tag_24 ?_
  cases h
  exact V_iret C B dX10_tag_27
/-! X10_register -/
theorem dX10_register_0 : decode cX10_register 0 = .ok (.aload_n 0, 1) := by decide +kernel
theorem dX10_register_1 : decode cX10_register 1 = .ok (.aload_n 0, 1) := by decide +kernel
theorem dX10_register_2 : decode cX10_register 2 = .ok (.iload_n 1, 1) := by decide +kernel
theorem dX10_register_3 : decode cX10_register 3 = .ok (.invokevirtual 147, 3) := by decide +kernel
theorem dX10_register_6 : decode cX10_register 6 = .ok (.ifCond .eq 7, 3) := by decide +kernel
theorem dX10_register_9 : decode cX10_register 9 = .ok (.iconst 0, 1) := by decide +kernel
theorem dX10_register_10 : decode cX10_register 10 = .ok (.goto 4, 3) := by decide +kernel
theorem dX10_register_13 : decode cX10_register 13 = .ok (.iconst 1, 1) := by decide +kernel
theorem dX10_register_14 : decode cX10_register 14 = .ok (.putfield 117, 3) := by decide +kernel
theorem dX10_register_17 : decode cX10_register 17 = .ok (.aload_n 0, 1) := by decide +kernel
theorem dX10_register_18 : decode cX10_register 18 = .ok (.getfield 117, 3) := by decide +kernel
theorem dX10_register_21 : decode cX10_register 21 = .ok (.ifCond .le 5, 3) := by decide +kernel
theorem dX10_register_24 : decode cX10_register 24 = .ok (.iconst 0, 1) := by decide +kernel
theorem dX10_register_25 : decode cX10_register 25 = .ok (.ireturn, 1) := by decide +kernel
theorem dX10_register_26 : decode cX10_register 26 = .ok (.iconst 0, 1) := by decide +kernel
theorem dX10_register_27 : decode cX10_register 27 = .ok (.istore_n 2, 1) := by decide +kernel
theorem dX10_register_28 : decode cX10_register 28 = .ok (.iconst 4, 1) := by decide +kernel
theorem dX10_register_29 : decode cX10_register 29 = .ok (.iload_n 1, 1) := by decide +kernel
theorem dX10_register_30 : decode cX10_register 30 = .ok (.imul, 1) := by decide +kernel
theorem dX10_register_31 : decode cX10_register 31 = .ok (.istore_n 3, 1) := by decide +kernel
theorem dX10_register_32 : decode cX10_register 32 = .ok (.iload_n 3, 1) := by decide +kernel
theorem dX10_register_33 : decode cX10_register 33 = .ok (.iconst 4, 1) := by decide +kernel
theorem dX10_register_34 : decode cX10_register 34 = .ok (.iload_n 1, 1) := by decide +kernel
theorem dX10_register_35 : decode cX10_register 35 = .ok (.imul, 1) := by decide +kernel
theorem dX10_register_36 : decode cX10_register 36 = .ok (.aload_n 0, 1) := by decide +kernel
theorem dX10_register_37 : decode cX10_register 37 = .ok (.getfield 52, 3) := by decide +kernel
theorem dX10_register_40 : decode cX10_register 40 = .ok (.iload_n 1, 1) := by decide +kernel
theorem dX10_register_41 : decode cX10_register 41 = .ok (.iaload, 1) := by decide +kernel
theorem dX10_register_42 : decode cX10_register 42 = .ok (.iadd, 1) := by decide +kernel
theorem dX10_register_43 : decode cX10_register 43 = .ok (.if_icmp .ge 121, 3) := by decide +kernel
theorem dX10_register_46 : decode cX10_register 46 = .ok (.aload_n 0, 1) := by decide +kernel
theorem dX10_register_47 : decode cX10_register 47 = .ok (.aload_n 0, 1) := by decide +kernel
theorem dX10_register_48 : decode cX10_register 48 = .ok (.getfield 55, 3) := by decide +kernel
theorem dX10_register_51 : decode cX10_register 51 = .ok (.iload_n 3, 1) := by decide +kernel
theorem dX10_register_52 : decode cX10_register 52 = .ok (.iaload, 1) := by decide +kernel
theorem dX10_register_53 : decode cX10_register 53 = .ok (.aload_n 0, 1) := by decide +kernel
theorem dX10_register_54 : decode cX10_register 54 = .ok (.getfield 58, 3) := by decide +kernel
theorem dX10_register_57 : decode cX10_register 57 = .ok (.iload_n 3, 1) := by decide +kernel
theorem dX10_register_58 : decode cX10_register 58 = .ok (.iaload, 1) := by decide +kernel
theorem dX10_register_59 : decode cX10_register 59 = .ok (.invokevirtual 139, 3) := by decide +kernel
theorem dX10_register_62 : decode cX10_register 62 = .ok (.istore 4, 2) := by decide +kernel
theorem dX10_register_64 : decode cX10_register 64 = .ok (.iload 4, 2) := by decide +kernel
theorem dX10_register_66 : decode cX10_register 66 = .ok (.iconst (-1), 1) := by decide +kernel
theorem dX10_register_67 : decode cX10_register 67 = .ok (.if_icmp .ne 6, 3) := by decide +kernel
theorem dX10_register_70 : decode cX10_register 70 = .ok (.goto 88, 3) := by decide +kernel
theorem dX10_register_73 : decode cX10_register 73 = .ok (.iinc 2 1, 3) := by decide +kernel
theorem dX10_register_76 : decode cX10_register 76 = .ok (.aload_n 0, 1) := by decide +kernel
theorem dX10_register_77 : decode cX10_register 77 = .ok (.getfield 61, 3) := by decide +kernel
theorem dX10_register_80 : decode cX10_register 80 = .ok (.iload_n 1, 1) := by decide +kernel
theorem dX10_register_81 : decode cX10_register 81 = .ok (.dup2, 1) := by decide +kernel
theorem dX10_register_82 : decode cX10_register 82 = .ok (.iaload, 1) := by decide +kernel
theorem dX10_register_83 : decode cX10_register 83 = .ok (.iconst 1, 1) := by decide +kernel
theorem dX10_register_84 : decode cX10_register 84 = .ok (.iadd, 1) := by decide +kernel
theorem dX10_register_85 : decode cX10_register 85 = .ok (.iastore, 1) := by decide +kernel
theorem dX10_register_86 : decode cX10_register 86 = .ok (.aload_n 0, 1) := by decide +kernel
theorem dX10_register_87 : decode cX10_register 87 = .ok (.getfield 153, 3) := by decide +kernel
theorem dX10_register_90 : decode cX10_register 90 = .ok (.istore 5, 2) := by decide +kernel
theorem dX10_register_92 : decode cX10_register 92 = .ok (.aload_n 0, 1) := by decide +kernel
theorem dX10_register_93 : decode cX10_register 93 = .ok (.iconst 0, 1) := by decide +kernel
theorem dX10_register_94 : decode cX10_register 94 = .ok (.iload 4, 2) := by decide +kernel
theorem dX10_register_96 : decode cX10_register 96 = .ok (.iload_n 1, 1) := by decide +kernel
theorem dX10_register_97 : decode cX10_register 97 = .ok (.aload_n 0, 1) := by decide +kernel
theorem dX10_register_98 : decode cX10_register 98 = .ok (.getfield 55, 3) := by decide +kernel
theorem dX10_register_101 : decode cX10_register 101 = .ok (.iload_n 3, 1) := by decide +kernel
theorem dX10_register_102 : decode cX10_register 102 = .ok (.iaload, 1) := by decide +kernel
theorem dX10_register_103 : decode cX10_register 103 = .ok (.aload_n 0, 1) := by decide +kernel
theorem dX10_register_104 : decode cX10_register 104 = .ok (.getfield 58, 3) := by decide +kernel
theorem dX10_register_107 : decode cX10_register 107 = .ok (.iload_n 3, 1) := by decide +kernel
theorem dX10_register_108 : decode cX10_register 108 = .ok (.iaload, 1) := by decide +kernel
theorem dX10_register_109 : decode cX10_register 109 = .ok (.aload_n 0, 1) := by decide +kernel
theorem dX10_register_110 : decode cX10_register 110 = .ok (.getfield 49, 3) := by decide +kernel
theorem dX10_register_113 : decode cX10_register 113 = .ok (.iload_n 1, 1) := by decide +kernel
theorem dX10_register_114 : decode cX10_register 114 = .ok (.iaload, 1) := by decide +kernel
theorem dX10_register_115 : decode cX10_register 115 = .ok (.aload_n 0, 1) := by decide +kernel
theorem dX10_register_116 : decode cX10_register 116 = .ok (.getfield 61, 3) := by decide +kernel
theorem dX10_register_119 : decode cX10_register 119 = .ok (.iload_n 1, 1) := by decide +kernel
theorem dX10_register_120 : decode cX10_register 120 = .ok (.iaload, 1) := by decide +kernel
theorem dX10_register_121 : decode cX10_register 121 = .ok (.invokevirtual 164, 3) := by decide +kernel
theorem dX10_register_124 : decode cX10_register 124 = .ok (.aload_n 0, 1) := by decide +kernel
theorem dX10_register_125 : decode cX10_register 125 = .ok (.iload_n 1, 1) := by decide +kernel
theorem dX10_register_126 : decode cX10_register 126 = .ok (.aload_n 0, 1) := by decide +kernel
theorem dX10_register_127 : decode cX10_register 127 = .ok (.getfield 55, 3) := by decide +kernel
theorem dX10_register_130 : decode cX10_register 130 = .ok (.iload_n 3, 1) := by decide +kernel
theorem dX10_register_131 : decode cX10_register 131 = .ok (.iaload, 1) := by decide +kernel
theorem dX10_register_132 : decode cX10_register 132 = .ok (.aload_n 0, 1) := by decide +kernel
theorem dX10_register_133 : decode cX10_register 133 = .ok (.getfield 58, 3) := by decide +kernel
theorem dX10_register_136 : decode cX10_register 136 = .ok (.iload_n 3, 1) := by decide +kernel
theorem dX10_register_137 : decode cX10_register 137 = .ok (.iaload, 1) := by decide +kernel
theorem dX10_register_138 : decode cX10_register 138 = .ok (.aload_n 0, 1) := by decide +kernel
theorem dX10_register_139 : decode cX10_register 139 = .ok (.getfield 49, 3) := by decide +kernel
theorem dX10_register_142 : decode cX10_register 142 = .ok (.iload_n 1, 1) := by decide +kernel
theorem dX10_register_143 : decode cX10_register 143 = .ok (.iaload, 1) := by decide +kernel
theorem dX10_register_144 : decode cX10_register 144 = .ok (.aload_n 0, 1) := by decide +kernel
theorem dX10_register_145 : decode cX10_register 145 = .ok (.getfield 61, 3) := by decide +kernel
theorem dX10_register_148 : decode cX10_register 148 = .ok (.iload_n 1, 1) := by decide +kernel
theorem dX10_register_149 : decode cX10_register 149 = .ok (.iaload, 1) := by decide +kernel
theorem dX10_register_150 : decode cX10_register 150 = .ok (.invokestatic 168, 3) := by decide +kernel
theorem dX10_register_153 : decode cX10_register 153 = .ok (.iload 5, 2) := by decide +kernel
theorem dX10_register_155 : decode cX10_register 155 = .ok (.invokevirtual 172, 3) := by decide +kernel
theorem dX10_register_158 : decode cX10_register 158 = .ok (.iinc 3 1, 3) := by decide +kernel
theorem dX10_register_161 : decode cX10_register 161 = .ok (.goto (-129), 3) := by decide +kernel
theorem dX10_register_164 : decode cX10_register 164 = .ok (.iload_n 2, 1) := by decide +kernel
theorem dX10_register_165 : decode cX10_register 165 = .ok (.ireturn, 1) := by decide +kernel
def g_X10_register_32 : Nat → HS → Option Nat → Int32 → Int32 → Int32 → Option (Int32 × HS)
  | 0, _, _, _, _, _ => none
  | n + 1, σ, l0, l1, l2, l3 =>
    h_b1 (h_gR σ l0 11 15) fun x12 =>
    h_b1 (h_aI σ x12 100 l1) fun x14 =>
    if ((4 * l1) + x14) ≤ l3 then
      some (l2, σ)
    else
      h_b1 (h_gR σ l0 11 16) fun x17 =>
      h_b1 (h_aI σ x17 100 l3) fun x19 =>
      h_b1 (h_gR σ l0 11 17) fun x21 =>
      h_b1 (h_aI σ x21 100 l3) fun x23 =>
      h_b1 (h_rcv σ l0 11) fun y28 =>
      h_bd (f_X10_owner σ l0 x19 x23) fun r25 s26 =>
      if r25 = (-1) then
        g_X10_register_32 n s26 l0 l1 l2 (l3 + 1)
      else
        h_b1 (h_gR s26 l0 11 18) fun x31 =>
        h_b1 (h_aI s26 x31 100 l1) fun x33 =>
        h_b1 (h_sI s26 x31 100 l1 (x33 + 1)) fun s35 =>
        h_b1 (h_gI s35 l0 11 36) fun x37 =>
        h_b1 (h_gR s35 l0 11 16) fun x39 =>
        h_b1 (h_aI s35 x39 100 l3) fun x41 =>
        h_b1 (h_gR s35 l0 11 17) fun x43 =>
        h_b1 (h_aI s35 x43 100 l3) fun x45 =>
        h_b1 (h_gR s35 l0 11 14) fun x47 =>
        h_b1 (h_aI s35 x47 100 l1) fun x49 =>
        h_b1 (h_gR s35 l0 11 18) fun x51 =>
        h_b1 (h_aI s35 x51 100 l1) fun x53 =>
        h_b1 (h_rcv s35 l0 11) fun y58 =>
        h_bd (f_X10_post s35 l0 0 r25 l1 x41 x45 x49 x53) fun _ s56 =>
        h_b1 (h_gR s56 l0 11 16) fun x60 =>
        h_b1 (h_aI s56 x60 100 l3) fun x62 =>
        h_b1 (h_gR s56 l0 11 17) fun x64 =>
        h_b1 (h_aI s56 x64 100 l3) fun x66 =>
        h_b1 (h_gR s56 l0 11 14) fun x68 =>
        h_b1 (h_aI s56 x68 100 l1) fun x70 =>
        h_b1 (h_gR s56 l0 11 18) fun x72 =>
        h_b1 (h_aI s56 x72 100 l1) fun x74 =>
        h_bd (f_X10_tag s56 l1 x62 x66 x70 x74) fun r76 s77 =>
        h_b1 (h_rcv s77 l0 11) fun y82 =>
        h_bd (f_X10_last s77 l0 r76 x37) fun _ s80 =>
        g_X10_register_32 n s80 l0 l1 (l2 + 1) (l3 + 1)
def j_X10_register_14 (σ : HS) (l0 : Option Nat) (l1 : Int32) (t0 : Int32) (t1 : Option Nat) : Option (Int32 × HS) :=
  h_b1 (h_pI σ t1 11 0 t0) fun s7 =>
  h_b1 (h_gI s7 l0 11 0) fun x9 =>
  if x9 ≤ 0 then
    g_X10_register_32 h_hN s7 l0 l1 0 (4 * l1)
  else
    some (0, s7)
def f_X10_register (σ : HS) (a0 : Option Nat) (a1 : Int32) : Option (Int32 × HS) :=
  h_b1 (h_rcv σ a0 11) fun y4 =>
  h_bd (f_X10_isSite σ a0 a1) fun r1 s2 =>
  if r1 = 0 then
    j_X10_register_14 s2 a0 a1 1 a0
  else
    j_X10_register_14 s2 a0 a1 0 a0
set_option maxHeartbeats 4000000 in
set_option maxRecDepth 100000 in
theorem w_X10_register_32 {p : Program} {l : Launch} {e : Env} {R : Room} {s : State} {m : MethodId} {args : Array Value} {below : List Frame} {meth : Method} {c : Code} {D : va_G} {dA : Nat → ClassId} {bs : Nat} (C : h_C p m c cX10_register 6 s args RX10 D dA) {σ0 : HS} (B : h_B R s meth σ0 (some .int) 3 69) {σ' : HS} {r : Int32} : ∀ (n : Nat) (σ : HS) (l0 : Option Nat) (l1 : Int32) (l2 : Int32) (l3 : Int32), g_X10_register_32 n σ l0 l1 l2 l3 = some (r, σ') → V p l e R s m args below meth c D dA bs 6 (MQ below (h_Q D dA bs (some (.int r)) σ0 σ') args s R.cells R.slots (fun q => bs ≤ q)) σ 32 [(0, va_rf l0), (1, .int l1), (2, .int l2), (3, .int l3)] [] := by
  intro n
  induction n with
  | zero =>
    intro σ l0 l1 l2 l3 h
    rw [g_X10_register_32] at h
    cases h
  | succ n ih =>
    intro σ l0 l1 l2 l3 h
    rw [g_X10_register_32] at h
    refine V_iload_n C 3 dX10_register_32 rfl rfl ?_
    refine V_iconst (v := 4) C dX10_register_33 (by decide) ?_
    refine V_iload_n C 1 dX10_register_34 rfl rfl ?_
    refine V_imul C dX10_register_35 ?_
    refine V_aload_n C 0 dX10_register_36 rfl rfl ?_
    obtain ⟨x12, e13, h⟩ := h_b1_some h
    refine V_getR C fl_RX10_52 dX10_register_37 e13 ?_
    refine V_iload_n C 1 dX10_register_40 rfl rfl ?_
    obtain ⟨x14, e15, h⟩ := h_b1_some h
    refine V_iald C dX10_register_41 e15 ?_
    refine V_iadd C dX10_register_42 ?_
    refine V_icmp_ge (tgt := 164) C dX10_register_43 (by decide) (fun c16 => ?_) (fun c16 => ?_)
    · rw [if_pos c16] at h
      refine V_iload_n C 2 dX10_register_164 rfl rfl ?_
      cases h
      exact V_iret C B dX10_register_165
    · rw [if_neg c16] at h
      refine V_aload_n C 0 dX10_register_46 rfl rfl ?_
      refine V_aload_n C 0 dX10_register_47 rfl rfl ?_
      obtain ⟨x17, e18, h⟩ := h_b1_some h
      refine V_getR C fl_RX10_55 dX10_register_48 e18 ?_
      refine V_iload_n C 3 dX10_register_51 rfl rfl ?_
      obtain ⟨x19, e20, h⟩ := h_b1_some h
      refine V_iald C dX10_register_52 e20 ?_
      refine V_aload_n C 0 dX10_register_53 rfl rfl ?_
      obtain ⟨x21, e22, h⟩ := h_b1_some h
      refine V_getR C fl_RX10_58 dX10_register_54 e22 ?_
      refine V_iload_n C 3 dX10_register_57 rfl rfl ?_
      obtain ⟨x23, e24, h⟩ := h_b1_some h
      refine V_iald C dX10_register_58 e24 ?_
      obtain ⟨y28, e29, h⟩ := h_b1_some h
      obtain ⟨r25, s26, e27, h⟩ := h_bd_some h
      refine V_cV (As := [.int x19, .int x23]) (rest := []) C mv_RX10_139 (m_X10_owner l D dA bs e27) e29 rfl rfl (Nat.le_trans h_w0 (by decide)) (h_fr B (by decide)) (h_lo B (by decide)) dX10_register_59 ?_
      refine V_istore (lv' := [(4, .int r25), (0, va_rf l0), (1, .int l1), (2, .int l2), (3, .int l3)]) C dX10_register_62 (by decide) rfl ?_
      refine V_iload C 0 dX10_register_64 rfl ?_
      refine V_iconst (v := (-1)) C dX10_register_66 (by decide) ?_
      refine V_icmp_ne (tgt := 73) C dX10_register_67 (by decide) (fun c30 => ?_) (fun c30 => ?_)
      · rw [if_neg c30] at h
        refine V_iinc (v := (l2 + 1)) (lv' := [(2, .int (l2 + 1)), (4, .int r25), (0, va_rf l0), (1, .int l1), (3, .int l3)]) C 3 dX10_register_73 rfl rfl (by decide) rfl ?_
        refine V_aload_n C 2 dX10_register_76 rfl rfl ?_
        obtain ⟨x31, e32, h⟩ := h_b1_some h
        refine V_getR C fl_RX10_61 dX10_register_77 e32 ?_
        refine V_iload_n C 3 dX10_register_80 rfl rfl ?_
        refine V_dup2IR C dX10_register_81 ?_
        obtain ⟨x33, e34, h⟩ := h_b1_some h
        refine V_iald C dX10_register_82 e34 ?_
        refine V_iconst (v := 1) C dX10_register_83 (by decide) ?_
        refine V_iadd C dX10_register_84 ?_
        obtain ⟨s35, e36, h⟩ := h_b1_some h
        refine V_iast C dX10_register_85 e36 ?_
        refine V_aload_n C 2 dX10_register_86 rfl rfl ?_
        obtain ⟨x37, e38, h⟩ := h_b1_some h
        refine V_getI C fl_RX10_153 dX10_register_87 e38 ?_
        refine V_istore (lv' := [(5, .int x37), (2, .int (l2 + 1)), (4, .int r25), (0, va_rf l0), (1, .int l1), (3, .int l3)]) C dX10_register_90 (by decide) rfl ?_
        refine V_aload_n C 3 dX10_register_92 rfl rfl ?_
        refine V_iconst (v := 0) C dX10_register_93 (by decide) ?_
        refine V_iload C 2 dX10_register_94 rfl ?_
        refine V_iload_n C 4 dX10_register_96 rfl rfl ?_
        refine V_aload_n C 3 dX10_register_97 rfl rfl ?_
        obtain ⟨x39, e40, h⟩ := h_b1_some h
        refine V_getR C fl_RX10_55 dX10_register_98 e40 ?_
        refine V_iload_n C 5 dX10_register_101 rfl rfl ?_
        obtain ⟨x41, e42, h⟩ := h_b1_some h
        refine V_iald C dX10_register_102 e42 ?_
        refine V_aload_n C 3 dX10_register_103 rfl rfl ?_
        obtain ⟨x43, e44, h⟩ := h_b1_some h
        refine V_getR C fl_RX10_58 dX10_register_104 e44 ?_
        refine V_iload_n C 5 dX10_register_107 rfl rfl ?_
        obtain ⟨x45, e46, h⟩ := h_b1_some h
        refine V_iald C dX10_register_108 e46 ?_
        refine V_aload_n C 3 dX10_register_109 rfl rfl ?_
        obtain ⟨x47, e48, h⟩ := h_b1_some h
        refine V_getR C fl_RX10_49 dX10_register_110 e48 ?_
        refine V_iload_n C 4 dX10_register_113 rfl rfl ?_
        obtain ⟨x49, e50, h⟩ := h_b1_some h
        refine V_iald C dX10_register_114 e50 ?_
        refine V_aload_n C 3 dX10_register_115 rfl rfl ?_
        obtain ⟨x51, e52, h⟩ := h_b1_some h
        refine V_getR C fl_RX10_61 dX10_register_116 e52 ?_
        refine V_iload_n C 4 dX10_register_119 rfl rfl ?_
        obtain ⟨x53, e54, h⟩ := h_b1_some h
        refine V_iald C dX10_register_120 e54 ?_
        obtain ⟨y58, e59, h⟩ := h_b1_some h
        obtain ⟨r55, s56, e57, h⟩ := h_bd_some h
        refine V_cV (As := [.int 0, .int r25, .int l1, .int x41, .int x45, .int x49, .int x53]) (rest := []) C mv_RX10_164 (m_X10_post l D dA bs e57) e59 rfl rfl (Nat.le_trans h_w0 (by decide)) (h_fr B (by decide)) (h_lo B (by decide)) dX10_register_121 ?_
        refine V_aload_n C 3 dX10_register_124 rfl rfl ?_
        refine V_iload_n C 4 dX10_register_125 rfl rfl ?_
        refine V_aload_n C 3 dX10_register_126 rfl rfl ?_
        obtain ⟨x60, e61, h⟩ := h_b1_some h
        refine V_getR C fl_RX10_55 dX10_register_127 e61 ?_
        refine V_iload_n C 5 dX10_register_130 rfl rfl ?_
        obtain ⟨x62, e63, h⟩ := h_b1_some h
        refine V_iald C dX10_register_131 e63 ?_
        refine V_aload_n C 3 dX10_register_132 rfl rfl ?_
        obtain ⟨x64, e65, h⟩ := h_b1_some h
        refine V_getR C fl_RX10_58 dX10_register_133 e65 ?_
        refine V_iload_n C 5 dX10_register_136 rfl rfl ?_
        obtain ⟨x66, e67, h⟩ := h_b1_some h
        refine V_iald C dX10_register_137 e67 ?_
        refine V_aload_n C 3 dX10_register_138 rfl rfl ?_
        obtain ⟨x68, e69, h⟩ := h_b1_some h
        refine V_getR C fl_RX10_49 dX10_register_139 e69 ?_
        refine V_iload_n C 4 dX10_register_142 rfl rfl ?_
        obtain ⟨x70, e71, h⟩ := h_b1_some h
        refine V_iald C dX10_register_143 e71 ?_
        refine V_aload_n C 3 dX10_register_144 rfl rfl ?_
        obtain ⟨x72, e73, h⟩ := h_b1_some h
        refine V_getR C fl_RX10_61 dX10_register_145 e73 ?_
        refine V_iload_n C 4 dX10_register_148 rfl rfl ?_
        obtain ⟨x74, e75, h⟩ := h_b1_some h
        refine V_iald C dX10_register_149 e75 ?_
        obtain ⟨r76, s77, e78, h⟩ := h_bd_some h
        refine V_cS (As := [.int l1, .int x62, .int x66, .int x70, .int x74]) (rest := [va_rf l0]) C ms_RX10_168 (m_X10_tag l D dA bs e78) rfl rfl (Nat.le_trans (h_wR h_w0) (by decide)) (h_fr B (by decide)) (h_lo B (by decide)) dX10_register_150 ?_
        refine V_iload C 0 dX10_register_153 rfl ?_
        obtain ⟨y82, e83, h⟩ := h_b1_some h
        obtain ⟨r79, s80, e81, h⟩ := h_bd_some h
        refine V_cV (As := [.int r76, .int x37]) (rest := []) C mv_RX10_172 (m_X10_last l D dA bs e81) e83 rfl rfl (Nat.le_trans h_w0 (by decide)) (h_fr B (by decide)) (h_lo B (by decide)) dX10_register_155 ?_
        refine V_iinc (v := (l3 + 1)) (lv' := [(3, .int (l3 + 1)), (5, .int x37), (2, .int (l2 + 1)), (4, .int r25), (0, va_rf l0), (1, .int l1)]) C 5 dX10_register_158 rfl rfl (by decide) rfl ?_
        refine V_goto (tgt := 32) C dX10_register_161 (by decide) ?_
        exact V_sub [4, 5, 2, 0] rfl (ih s80 l0 l1 (l2 + 1) (l3 + 1) h)
      · rw [if_pos c30] at h
        refine V_goto (tgt := 158) C dX10_register_70 (by decide) ?_
        refine V_iinc (v := (l3 + 1)) (lv' := [(3, .int (l3 + 1)), (4, .int r25), (0, va_rf l0), (1, .int l1), (2, .int l2)]) C 4 dX10_register_158 rfl rfl (by decide) rfl ?_
        refine V_goto (tgt := 32) C dX10_register_161 (by decide) ?_
        exact V_sub [2, 3, 4, 0] rfl (ih s26 l0 l1 l2 (l3 + 1) h)
set_option maxHeartbeats 4000000 in
set_option maxRecDepth 100000 in
theorem jw_X10_register_14 {p : Program} {l : Launch} {e : Env} {R : Room} {s : State} {m : MethodId} {args : Array Value} {below : List Frame} {meth : Method} {c : Code} {D : va_G} {dA : Nat → ClassId} {bs : Nat} (C : h_C p m c cX10_register 6 s args RX10 D dA) {σ0 : HS} (B : h_B R s meth σ0 (some .int) 3 69) {σ' : HS} {r : Int32} : ∀ (σ : HS) (l0 : Option Nat) (l1 : Int32) (t0 : Int32) (t1 : Option Nat), j_X10_register_14 σ l0 l1 t0 t1 = some (r, σ') → V p l e R s m args below meth c D dA bs 6 (MQ below (h_Q D dA bs (some (.int r)) σ0 σ') args s R.cells R.slots (fun q => bs ≤ q)) σ 14 [(0, va_rf l0), (1, .int l1)] [.int t0, va_rf t1] := by
  intro σ l0 l1 t0 t1 h
  unfold j_X10_register_14 at h
  obtain ⟨s7, e8, h⟩ := h_b1_some h
  refine V_putI C fw_RX10_117 dX10_register_14 e8 ?_
  refine V_aload_n C 0 dX10_register_17 rfl rfl ?_
  obtain ⟨x9, e10, h⟩ := h_b1_some h
  refine V_getI C fl_RX10_117 dX10_register_18 e10 ?_
  refine V_if_le (tgt := 26) C dX10_register_21 (by decide) (fun c11 => ?_) (fun c11 => ?_)
  · rw [if_pos c11] at h
    refine V_iconst (v := 0) C dX10_register_26 (by decide) ?_
    refine V_istore_n (lv' := [(2, .int 0), (0, va_rf l0), (1, .int l1)]) C dX10_register_27 rfl (by decide) rfl ?_
    refine V_iconst (v := 4) C dX10_register_28 (by decide) ?_
    refine V_iload_n C 2 dX10_register_29 rfl rfl ?_
    refine V_imul C dX10_register_30 ?_
    refine V_istore_n (lv' := [(3, .int (4 * l1)), (2, .int 0), (0, va_rf l0), (1, .int l1)]) C dX10_register_31 rfl (by decide) rfl ?_
    exact V_sub [2, 3, 1, 0] rfl (w_X10_register_32 C B h_hN s7 l0 l1 0 (4 * l1) h)
  · rw [if_neg c11] at h
    refine V_iconst (v := 0) C dX10_register_24 (by decide) ?_
    cases h
    exact V_iret C B dX10_register_25
set_option maxHeartbeats 4000000 in
set_option maxRecDepth 100000 in
theorem m_X10_register (l : Launch) (D : va_G) (dA : Nat → ClassId) (bs : Nat) {σ σ' : HS} {a0 : Option Nat} {a1 : Int32} {r : Int32} (h : f_X10_register σ a0 a1 = some (r, σ')) : MetC l yX10_register cX10_register 6 (some .int) 3 69 D dA bs [va_rf a0, .int a1] (some (.int r)) σ σ' := by
  refine MetC.of (by decide) (h_avR (h_avI h_av0)) (Nat.le_of_ble_eq_true rfl) ?_
  intro p e R s m args below meth c C B hnm
  unfold f_X10_register at h
  refine V_sub (lv' := [(0, va_rf a0), (1, .int a1)]) [0, 1] rfl ?_
  refine V_aload_n C 0 dX10_register_0 rfl rfl ?_
  refine V_aload_n C 0 dX10_register_1 rfl rfl ?_
  refine V_iload_n C 1 dX10_register_2 rfl rfl ?_
  obtain ⟨y4, e5, h⟩ := h_b1_some h
  obtain ⟨r1, s2, e3, h⟩ := h_bd_some h
  refine V_cV (As := [.int a1]) (rest := [va_rf a0]) C mv_RX10_147 (m_X10_isSite l D dA bs e3) e5 rfl rfl (Nat.le_trans (h_wR h_w0) (by decide)) (h_fr B (by decide)) (h_lo B (by decide)) dX10_register_3 ?_
  refine V_if_eq (tgt := 13) C dX10_register_6 (by decide) (fun c6 => ?_) (fun c6 => ?_)
  · rw [if_pos c6] at h
    refine V_iconst (v := 1) C dX10_register_13 (by decide) ?_
    exact V_sub [0, 1] rfl (jw_X10_register_14 C B s2 a0 a1 1 a0 h)
  · rw [if_neg c6] at h
    refine V_iconst (v := 0) C dX10_register_9 (by decide) ?_
    refine V_goto (tgt := 14) C dX10_register_10 (by decide) ?_
    exact V_sub [0, 1] rfl (jw_X10_register_14 C B s2 a0 a1 0 a0 h)
/-! X10_take -/
theorem dX10_take_0 : decode cX10_take 0 = .ok (.iconst 0, 1) := by decide +kernel
theorem dX10_take_1 : decode cX10_take 1 = .ok (.istore_n 2, 1) := by decide +kernel
theorem dX10_take_2 : decode cX10_take 2 = .ok (.iload_n 2, 1) := by decide +kernel
theorem dX10_take_3 : decode cX10_take 3 = .ok (.bipush 8, 2) := by decide +kernel
theorem dX10_take_5 : decode cX10_take 5 = .ok (.if_icmp .ge 26, 3) := by decide +kernel
theorem dX10_take_8 : decode cX10_take 8 = .ok (.aload_n 0, 1) := by decide +kernel
theorem dX10_take_9 : decode cX10_take 9 = .ok (.getfield 112, 3) := by decide +kernel
theorem dX10_take_12 : decode cX10_take 12 = .ok (.iload_n 2, 1) := by decide +kernel
theorem dX10_take_13 : decode cX10_take 13 = .ok (.aload_n 0, 1) := by decide +kernel
theorem dX10_take_14 : decode cX10_take 14 = .ok (.getfield 109, 3) := by decide +kernel
theorem dX10_take_17 : decode cX10_take 17 = .ok (.bipush 8, 2) := by decide +kernel
theorem dX10_take_19 : decode cX10_take 19 = .ok (.iload_n 1, 1) := by decide +kernel
theorem dX10_take_20 : decode cX10_take 20 = .ok (.imul, 1) := by decide +kernel
theorem dX10_take_21 : decode cX10_take 21 = .ok (.iload_n 2, 1) := by decide +kernel
theorem dX10_take_22 : decode cX10_take 22 = .ok (.iadd, 1) := by decide +kernel
theorem dX10_take_23 : decode cX10_take 23 = .ok (.iaload, 1) := by decide +kernel
theorem dX10_take_24 : decode cX10_take 24 = .ok (.iastore, 1) := by decide +kernel
theorem dX10_take_25 : decode cX10_take 25 = .ok (.iinc 2 1, 3) := by decide +kernel
theorem dX10_take_28 : decode cX10_take 28 = .ok (.goto (-26), 3) := by decide +kernel
theorem dX10_take_31 : decode cX10_take 31 = .ok (.bipush 8, 2) := by decide +kernel
theorem dX10_take_33 : decode cX10_take 33 = .ok (.iload_n 1, 1) := by decide +kernel
theorem dX10_take_34 : decode cX10_take 34 = .ok (.imul, 1) := by decide +kernel
theorem dX10_take_35 : decode cX10_take 35 = .ok (.istore_n 2, 1) := by decide +kernel
theorem dX10_take_36 : decode cX10_take 36 = .ok (.iload_n 2, 1) := by decide +kernel
theorem dX10_take_37 : decode cX10_take 37 = .ok (.bipush 8, 2) := by decide +kernel
theorem dX10_take_39 : decode cX10_take 39 = .ok (.aload_n 0, 1) := by decide +kernel
theorem dX10_take_40 : decode cX10_take 40 = .ok (.getfield 153, 3) := by decide +kernel
theorem dX10_take_43 : decode cX10_take 43 = .ok (.imul, 1) := by decide +kernel
theorem dX10_take_44 : decode cX10_take 44 = .ok (.bipush 8, 2) := by decide +kernel
theorem dX10_take_46 : decode cX10_take 46 = .ok (.isub, 1) := by decide +kernel
theorem dX10_take_47 : decode cX10_take 47 = .ok (.if_icmp .ge 24, 3) := by decide +kernel
theorem dX10_take_50 : decode cX10_take 50 = .ok (.aload_n 0, 1) := by decide +kernel
theorem dX10_take_51 : decode cX10_take 51 = .ok (.getfield 109, 3) := by decide +kernel
theorem dX10_take_54 : decode cX10_take 54 = .ok (.iload_n 2, 1) := by decide +kernel
theorem dX10_take_55 : decode cX10_take 55 = .ok (.aload_n 0, 1) := by decide +kernel
theorem dX10_take_56 : decode cX10_take 56 = .ok (.getfield 109, 3) := by decide +kernel
theorem dX10_take_59 : decode cX10_take 59 = .ok (.iload_n 2, 1) := by decide +kernel
theorem dX10_take_60 : decode cX10_take 60 = .ok (.bipush 8, 2) := by decide +kernel
theorem dX10_take_62 : decode cX10_take 62 = .ok (.iadd, 1) := by decide +kernel
theorem dX10_take_63 : decode cX10_take 63 = .ok (.iaload, 1) := by decide +kernel
theorem dX10_take_64 : decode cX10_take 64 = .ok (.iastore, 1) := by decide +kernel
theorem dX10_take_65 : decode cX10_take 65 = .ok (.iinc 2 1, 3) := by decide +kernel
theorem dX10_take_68 : decode cX10_take 68 = .ok (.goto (-32), 3) := by decide +kernel
theorem dX10_take_71 : decode cX10_take 71 = .ok (.aload_n 0, 1) := by decide +kernel
theorem dX10_take_72 : decode cX10_take 72 = .ok (.dup, 1) := by decide +kernel
theorem dX10_take_73 : decode cX10_take 73 = .ok (.getfield 153, 3) := by decide +kernel
theorem dX10_take_76 : decode cX10_take 76 = .ok (.iconst 1, 1) := by decide +kernel
theorem dX10_take_77 : decode cX10_take 77 = .ok (.isub, 1) := by decide +kernel
theorem dX10_take_78 : decode cX10_take 78 = .ok (.putfield 153, 3) := by decide +kernel
theorem dX10_take_81 : decode cX10_take 81 = .ok (.return_, 1) := by decide +kernel
def g_X10_take_36 : Nat → HS → Option Nat → Int32 → Option (Unit × HS)
  | 0, _, _, _ => none
  | n + 1, σ, l0, l2 =>
    h_b1 (h_gI σ l0 11 36) fun x2 =>
    if ((8 * x2) - 8) ≤ l2 then
      h_b1 (h_gI σ l0 11 36) fun x5 =>
      h_b1 (h_pI σ l0 11 36 (x5 - 1)) fun s7 =>
      some ((), s7)
    else
      h_b1 (h_gR σ l0 11 37) fun x9 =>
      h_b1 (h_gR σ l0 11 37) fun x11 =>
      h_b1 (h_aI σ x11 100 (l2 + 8)) fun x13 =>
      h_b1 (h_sI σ x9 100 l2 x13) fun s15 =>
      g_X10_take_36 n s15 l0 (l2 + 1)
def g_X10_take_2 : Nat → HS → Option Nat → Int32 → Int32 → Option (Unit × HS)
  | 0, _, _, _, _ => none
  | n + 1, σ, l0, l1, l2 =>
    if 8 ≤ l2 then
      g_X10_take_36 h_hN σ l0 (8 * l1)
    else
      h_b1 (h_gR σ l0 11 38) fun x17 =>
      h_b1 (h_gR σ l0 11 37) fun x19 =>
      h_b1 (h_aI σ x19 100 ((8 * l1) + l2)) fun x21 =>
      h_b1 (h_sI σ x17 100 l2 x21) fun s23 =>
      g_X10_take_2 n s23 l0 l1 (l2 + 1)
def f_X10_take (σ : HS) (a0 : Option Nat) (a1 : Int32) : Option (Unit × HS) :=
  g_X10_take_2 h_hN σ a0 a1 0
set_option maxHeartbeats 4000000 in
set_option maxRecDepth 100000 in
theorem w_X10_take_36 {p : Program} {l : Launch} {e : Env} {R : Room} {s : State} {m : MethodId} {args : Array Value} {below : List Frame} {meth : Method} {c : Code} {D : va_G} {dA : Nat → ClassId} {bs : Nat} (C : h_C p m c cX10_take 3 s args RX10 D dA) {σ0 : HS} (B : h_B R s meth σ0 none 0 0) {σ' : HS} : ∀ (n : Nat) (σ : HS) (l0 : Option Nat) (l2 : Int32), g_X10_take_36 n σ l0 l2 = some ((), σ') → V p l e R s m args below meth c D dA bs 3 (MQ below (h_Q D dA bs none σ0 σ') args s R.cells R.slots (fun q => bs ≤ q)) σ 36 [(0, va_rf l0), (2, .int l2)] [] := by
  intro n
  induction n with
  | zero =>
    intro σ l0 l2 h
    rw [g_X10_take_36] at h
    cases h
  | succ n ih =>
    intro σ l0 l2 h
    rw [g_X10_take_36] at h
    refine V_iload_n C 1 dX10_take_36 rfl rfl ?_
    refine V_bipush (v := 8) C dX10_take_37 (by decide) ?_
    refine V_aload_n C 0 dX10_take_39 rfl rfl ?_
    obtain ⟨x2, e3, h⟩ := h_b1_some h
    refine V_getI C fl_RX10_153 dX10_take_40 e3 ?_
    refine V_imul C dX10_take_43 ?_
    refine V_bipush (v := 8) C dX10_take_44 (by decide) ?_
    refine V_isub C dX10_take_46 ?_
    refine V_icmp_ge (tgt := 71) C dX10_take_47 (by decide) (fun c4 => ?_) (fun c4 => ?_)
    · rw [if_pos c4] at h
      refine V_aload_n C 0 dX10_take_71 rfl rfl ?_
      refine V_dupR C dX10_take_72 ?_
      obtain ⟨x5, e6, h⟩ := h_b1_some h
      refine V_getI C fl_RX10_153 dX10_take_73 e6 ?_
      refine V_iconst (v := 1) C dX10_take_76 (by decide) ?_
      refine V_isub C dX10_take_77 ?_
      obtain ⟨s7, e8, h⟩ := h_b1_some h
      refine V_putI C fw_RX10_153 dX10_take_78 e8 ?_
      cases h
      exact V_vret C B dX10_take_81
    · rw [if_neg c4] at h
      refine V_aload_n C 0 dX10_take_50 rfl rfl ?_
      obtain ⟨x9, e10, h⟩ := h_b1_some h
      refine V_getR C fl_RX10_109 dX10_take_51 e10 ?_
      refine V_iload_n C 1 dX10_take_54 rfl rfl ?_
      refine V_aload_n C 0 dX10_take_55 rfl rfl ?_
      obtain ⟨x11, e12, h⟩ := h_b1_some h
      refine V_getR C fl_RX10_109 dX10_take_56 e12 ?_
      refine V_iload_n C 1 dX10_take_59 rfl rfl ?_
      refine V_bipush (v := 8) C dX10_take_60 (by decide) ?_
      refine V_iadd C dX10_take_62 ?_
      obtain ⟨x13, e14, h⟩ := h_b1_some h
      refine V_iald C dX10_take_63 e14 ?_
      obtain ⟨s15, e16, h⟩ := h_b1_some h
      refine V_iast C dX10_take_64 e16 ?_
      refine V_iinc (v := (l2 + 1)) (lv' := [(2, .int (l2 + 1)), (0, va_rf l0)]) C 1 dX10_take_65 rfl rfl (by decide) rfl ?_
      refine V_goto (tgt := 36) C dX10_take_68 (by decide) ?_
      exact V_sub [1, 0] rfl (ih s15 l0 (l2 + 1) h)
set_option maxHeartbeats 4000000 in
set_option maxRecDepth 100000 in
theorem w_X10_take_2 {p : Program} {l : Launch} {e : Env} {R : Room} {s : State} {m : MethodId} {args : Array Value} {below : List Frame} {meth : Method} {c : Code} {D : va_G} {dA : Nat → ClassId} {bs : Nat} (C : h_C p m c cX10_take 3 s args RX10 D dA) {σ0 : HS} (B : h_B R s meth σ0 none 0 0) {σ' : HS} : ∀ (n : Nat) (σ : HS) (l0 : Option Nat) (l1 : Int32) (l2 : Int32), g_X10_take_2 n σ l0 l1 l2 = some ((), σ') → V p l e R s m args below meth c D dA bs 3 (MQ below (h_Q D dA bs none σ0 σ') args s R.cells R.slots (fun q => bs ≤ q)) σ 2 [(0, va_rf l0), (1, .int l1), (2, .int l2)] [] := by
  intro n
  induction n with
  | zero =>
    intro σ l0 l1 l2 h
    rw [g_X10_take_2] at h
    cases h
  | succ n ih =>
    intro σ l0 l1 l2 h
    rw [g_X10_take_2] at h
    refine V_iload_n C 2 dX10_take_2 rfl rfl ?_
    refine V_bipush (v := 8) C dX10_take_3 (by decide) ?_
    refine V_icmp_ge (tgt := 31) C dX10_take_5 (by decide) (fun c1 => ?_) (fun c1 => ?_)
    · rw [if_pos c1] at h
      refine V_bipush (v := 8) C dX10_take_31 (by decide) ?_
      refine V_iload_n C 1 dX10_take_33 rfl rfl ?_
      refine V_imul C dX10_take_34 ?_
      refine V_istore_n (lv' := [(2, .int (8 * l1)), (0, va_rf l0), (1, .int l1)]) C dX10_take_35 rfl (by decide) rfl ?_
      exact V_sub [1, 0] rfl (w_X10_take_36 C B h_hN σ l0 (8 * l1) h)
    · rw [if_neg c1] at h
      refine V_aload_n C 0 dX10_take_8 rfl rfl ?_
      obtain ⟨x17, e18, h⟩ := h_b1_some h
      refine V_getR C fl_RX10_112 dX10_take_9 e18 ?_
      refine V_iload_n C 2 dX10_take_12 rfl rfl ?_
      refine V_aload_n C 0 dX10_take_13 rfl rfl ?_
      obtain ⟨x19, e20, h⟩ := h_b1_some h
      refine V_getR C fl_RX10_109 dX10_take_14 e20 ?_
      refine V_bipush (v := 8) C dX10_take_17 (by decide) ?_
      refine V_iload_n C 1 dX10_take_19 rfl rfl ?_
      refine V_imul C dX10_take_20 ?_
      refine V_iload_n C 2 dX10_take_21 rfl rfl ?_
      refine V_iadd C dX10_take_22 ?_
      obtain ⟨x21, e22, h⟩ := h_b1_some h
      refine V_iald C dX10_take_23 e22 ?_
      obtain ⟨s23, e24, h⟩ := h_b1_some h
      refine V_iast C dX10_take_24 e24 ?_
      refine V_iinc (v := (l2 + 1)) (lv' := [(2, .int (l2 + 1)), (0, va_rf l0), (1, .int l1)]) C 2 dX10_take_25 rfl rfl (by decide) rfl ?_
      refine V_goto (tgt := 2) C dX10_take_28 (by decide) ?_
      exact V_sub [1, 2, 0] rfl (ih s23 l0 l1 (l2 + 1) h)
set_option maxHeartbeats 4000000 in
set_option maxRecDepth 100000 in
theorem m_X10_take (l : Launch) (D : va_G) (dA : Nat → ClassId) (bs : Nat) {σ σ' : HS} {a0 : Option Nat} {a1 : Int32} (h : f_X10_take σ a0 a1 = some ((), σ')) : MetC l yX10_take cX10_take 3 none 0 0 D dA bs [va_rf a0, .int a1] none σ σ' := by
  refine MetC.of (by decide) (h_avR (h_avI h_av0)) (Nat.le_of_ble_eq_true rfl) ?_
  intro p e R s m args below meth c C B hnm
  unfold f_X10_take at h
  refine V_sub (lv' := [(0, va_rf a0), (1, .int a1)]) [0, 1] rfl ?_
  refine V_iconst (v := 0) C dX10_take_0 (by decide) ?_
  refine V_istore_n (lv' := [(2, .int 0), (0, va_rf a0), (1, .int a1)]) C dX10_take_1 rfl (by decide) rfl ?_
  exact V_sub [1, 2, 0] rfl (w_X10_take_2 C B h_hN σ a0 a1 0 h)
/-! X10_isMessage -/
theorem dX10_isMessage_0 : decode cX10_isMessage 0 = .ok (.aload_n 0, 1) := by decide +kernel
theorem dX10_isMessage_1 : decode cX10_isMessage 1 = .ok (.iload_n 1, 1) := by decide +kernel
theorem dX10_isMessage_2 : decode cX10_isMessage 2 = .ok (.iconst 0, 1) := by decide +kernel
theorem dX10_isMessage_3 : decode cX10_isMessage 3 = .ok (.aload_n 0, 1) := by decide +kernel
theorem dX10_isMessage_4 : decode cX10_isMessage 4 = .ok (.getfield 153, 3) := by decide +kernel
theorem dX10_isMessage_7 : decode cX10_isMessage 7 = .ok (.iconst 1, 1) := by decide +kernel
theorem dX10_isMessage_8 : decode cX10_isMessage 8 = .ok (.isub, 1) := by decide +kernel
theorem dX10_isMessage_9 : decode cX10_isMessage 9 = .ok (.invokestatic 120, 3) := by decide +kernel
theorem dX10_isMessage_12 : decode cX10_isMessage 12 = .ok (.ifCond .eq 7, 3) := by decide +kernel
theorem dX10_isMessage_15 : decode cX10_isMessage 15 = .ok (.iconst 0, 1) := by decide +kernel
theorem dX10_isMessage_16 : decode cX10_isMessage 16 = .ok (.goto 4, 3) := by decide +kernel
theorem dX10_isMessage_19 : decode cX10_isMessage 19 = .ok (.iconst 1, 1) := by decide +kernel
theorem dX10_isMessage_20 : decode cX10_isMessage 20 = .ok (.putfield 117, 3) := by decide +kernel
theorem dX10_isMessage_23 : decode cX10_isMessage 23 = .ok (.aload_n 0, 1) := by decide +kernel
theorem dX10_isMessage_24 : decode cX10_isMessage 24 = .ok (.getfield 117, 3) := by decide +kernel
theorem dX10_isMessage_27 : decode cX10_isMessage 27 = .ok (.ifCond .ne 7, 3) := by decide +kernel
theorem dX10_isMessage_30 : decode cX10_isMessage 30 = .ok (.iconst 1, 1) := by decide +kernel
theorem dX10_isMessage_31 : decode cX10_isMessage 31 = .ok (.goto 4, 3) := by decide +kernel
theorem dX10_isMessage_34 : decode cX10_isMessage 34 = .ok (.iconst 0, 1) := by decide +kernel
theorem dX10_isMessage_35 : decode cX10_isMessage 35 = .ok (.ireturn, 1) := by decide +kernel
def j_X10_isMessage_20 (σ : HS) (l0 : Option Nat) (t0 : Int32) (t1 : Option Nat) : Option (Int32 × HS) :=
  h_b1 (h_pI σ t1 11 0 t0) fun s7 =>
  h_b1 (h_gI s7 l0 11 0) fun x9 =>
  if x9 = 0 then
    some (1, s7)
  else
    some (0, s7)
def f_X10_isMessage (σ : HS) (a0 : Option Nat) (a1 : Int32) : Option (Int32 × HS) :=
  h_b1 (h_gI σ a0 11 36) fun x1 =>
  h_bd (f_X10_in σ a1 0 (x1 - 1)) fun r3 s4 =>
  if r3 = 0 then
    j_X10_isMessage_20 s4 a0 1 a0
  else
    j_X10_isMessage_20 s4 a0 0 a0
set_option maxHeartbeats 4000000 in
set_option maxRecDepth 100000 in
theorem jw_X10_isMessage_20 {p : Program} {l : Launch} {e : Env} {R : Room} {s : State} {m : MethodId} {args : Array Value} {below : List Frame} {meth : Method} {c : Code} {D : va_G} {dA : Nat → ClassId} {bs : Nat} (C : h_C p m c cX10_isMessage 2 s args RX10 D dA) {σ0 : HS} (B : h_B R s meth σ0 (some .boolean) 1 22) {σ' : HS} {r : Int32} : ∀ (σ : HS) (l0 : Option Nat) (t0 : Int32) (t1 : Option Nat), j_X10_isMessage_20 σ l0 t0 t1 = some (r, σ') → V p l e R s m args below meth c D dA bs 2 (MQ below (h_Q D dA bs (some (.int r)) σ0 σ') args s R.cells R.slots (fun q => bs ≤ q)) σ 20 [(0, va_rf l0)] [.int t0, va_rf t1] := by
  intro σ l0 t0 t1 h
  unfold j_X10_isMessage_20 at h
  obtain ⟨s7, e8, h⟩ := h_b1_some h
  refine V_putI C fw_RX10_117 dX10_isMessage_20 e8 ?_
  refine V_aload_n C 0 dX10_isMessage_23 rfl rfl ?_
  obtain ⟨x9, e10, h⟩ := h_b1_some h
  refine V_getI C fl_RX10_117 dX10_isMessage_24 e10 ?_
  refine V_if_ne (tgt := 34) C dX10_isMessage_27 (by decide) (fun c11 => ?_) (fun c11 => ?_)
  · rw [if_neg c11] at h
    refine V_iconst (v := 0) C dX10_isMessage_34 (by decide) ?_
    cases h
    exact V_zret C B dX10_isMessage_35 (Or.inl rfl)
  · rw [if_pos c11] at h
    refine V_iconst (v := 1) C dX10_isMessage_30 (by decide) ?_
    refine V_goto (tgt := 35) C dX10_isMessage_31 (by decide) ?_
    cases h
    exact V_zret C B dX10_isMessage_35 (Or.inr rfl)
set_option maxHeartbeats 4000000 in
set_option maxRecDepth 100000 in
theorem m_X10_isMessage (l : Launch) (D : va_G) (dA : Nat → ClassId) (bs : Nat) {σ σ' : HS} {a0 : Option Nat} {a1 : Int32} {r : Int32} (h : f_X10_isMessage σ a0 a1 = some (r, σ')) : MetC l yX10_isMessage cX10_isMessage 2 (some .boolean) 1 22 D dA bs [va_rf a0, .int a1] (some (.int r)) σ σ' := by
  refine MetC.of (by decide) (h_avR (h_avI h_av0)) (Nat.le_of_ble_eq_true rfl) ?_
  intro p e R s m args below meth c C B hnm
  unfold f_X10_isMessage at h
  refine V_sub (lv' := [(0, va_rf a0), (1, .int a1)]) [0, 1] rfl ?_
  refine V_aload_n C 0 dX10_isMessage_0 rfl rfl ?_
  refine V_iload_n C 1 dX10_isMessage_1 rfl rfl ?_
  refine V_iconst (v := 0) C dX10_isMessage_2 (by decide) ?_
  refine V_aload_n C 0 dX10_isMessage_3 rfl rfl ?_
  obtain ⟨x1, e2, h⟩ := h_b1_some h
  refine V_getI C fl_RX10_153 dX10_isMessage_4 e2 ?_
  refine V_iconst (v := 1) C dX10_isMessage_7 (by decide) ?_
  refine V_isub C dX10_isMessage_8 ?_
  obtain ⟨r3, s4, e5, h⟩ := h_bd_some h
  refine V_cS (As := [.int a1, .int 0, .int (x1 - 1)]) (rest := [va_rf a0]) C ms_RX10_120 (m_X10_in l D dA bs e5) rfl rfl (Nat.le_trans (h_wR h_w0) (by decide)) (h_fr B (by decide)) (h_lo B (by decide)) dX10_isMessage_9 ?_
  refine V_if_eq (tgt := 19) C dX10_isMessage_12 (by decide) (fun c6 => ?_) (fun c6 => ?_)
  · rw [if_pos c6] at h
    refine V_iconst (v := 1) C dX10_isMessage_19 (by decide) ?_
    exact V_sub [0] rfl (jw_X10_isMessage_20 C B s4 a0 1 a0 h)
  · rw [if_neg c6] at h
    refine V_iconst (v := 0) C dX10_isMessage_15 (by decide) ?_
    refine V_goto (tgt := 20) C dX10_isMessage_16 (by decide) ?_
    exact V_sub [0] rfl (jw_X10_isMessage_20 C B s4 a0 0 a0 h)
/-! X10_deliver -/
theorem dX10_deliver_0 : decode cX10_deliver 0 = .ok (.aload_n 0, 1) := by decide +kernel
theorem dX10_deliver_1 : decode cX10_deliver 1 = .ok (.getfield 106, 3) := by decide +kernel
theorem dX10_deliver_4 : decode cX10_deliver 4 = .ok (.iload_n 1, 1) := by decide +kernel
theorem dX10_deliver_5 : decode cX10_deliver 5 = .ok (.iaload, 1) := by decide +kernel
theorem dX10_deliver_6 : decode cX10_deliver 6 = .ok (.ifCond .ne 10, 3) := by decide +kernel
theorem dX10_deliver_9 : decode cX10_deliver 9 = .ok (.aload_n 0, 1) := by decide +kernel
theorem dX10_deliver_10 : decode cX10_deliver 10 = .ok (.getfield 100, 3) := by decide +kernel
theorem dX10_deliver_13 : decode cX10_deliver 13 = .ok (.iload_n 1, 1) := by decide +kernel
theorem dX10_deliver_14 : decode cX10_deliver 14 = .ok (.iload_n 2, 1) := by decide +kernel
theorem dX10_deliver_15 : decode cX10_deliver 15 = .ok (.iastore, 1) := by decide +kernel
theorem dX10_deliver_16 : decode cX10_deliver 16 = .ok (.aload_n 0, 1) := by decide +kernel
theorem dX10_deliver_17 : decode cX10_deliver 17 = .ok (.getfield 106, 3) := by decide +kernel
theorem dX10_deliver_20 : decode cX10_deliver 20 = .ok (.iload_n 1, 1) := by decide +kernel
theorem dX10_deliver_21 : decode cX10_deliver 21 = .ok (.dup2, 1) := by decide +kernel
theorem dX10_deliver_22 : decode cX10_deliver 22 = .ok (.iaload, 1) := by decide +kernel
theorem dX10_deliver_23 : decode cX10_deliver 23 = .ok (.iconst 1, 1) := by decide +kernel
theorem dX10_deliver_24 : decode cX10_deliver 24 = .ok (.iadd, 1) := by decide +kernel
theorem dX10_deliver_25 : decode cX10_deliver 25 = .ok (.iastore, 1) := by decide +kernel
theorem dX10_deliver_26 : decode cX10_deliver 26 = .ok (.aload_n 0, 1) := by decide +kernel
theorem dX10_deliver_27 : decode cX10_deliver 27 = .ok (.getfield 94, 3) := by decide +kernel
theorem dX10_deliver_30 : decode cX10_deliver 30 = .ok (.iload_n 1, 1) := by decide +kernel
theorem dX10_deliver_31 : decode cX10_deliver 31 = .ok (.iconst 2, 1) := by decide +kernel
theorem dX10_deliver_32 : decode cX10_deliver 32 = .ok (.iastore, 1) := by decide +kernel
theorem dX10_deliver_33 : decode cX10_deliver 33 = .ok (.return_, 1) := by decide +kernel
def j_X10_deliver_16 (σ : HS) (l0 : Option Nat) (l1 : Int32) : Option (Unit × HS) :=
  h_b1 (h_gR σ l0 11 35) fun x6 =>
  h_b1 (h_aI σ x6 100 l1) fun x8 =>
  h_b1 (h_sI σ x6 100 l1 (x8 + 1)) fun s10 =>
  h_b1 (h_gR s10 l0 11 31) fun x12 =>
  h_b1 (h_sI s10 x12 100 l1 2) fun s14 =>
  some ((), s14)
def f_X10_deliver (σ : HS) (a0 : Option Nat) (a1 : Int32) (a2 : Int32) : Option (Unit × HS) :=
  h_b1 (h_gR σ a0 11 35) fun x1 =>
  h_b1 (h_aI σ x1 100 a1) fun x3 =>
  if x3 = 0 then
    h_b1 (h_gR σ a0 11 33) fun x16 =>
    h_b1 (h_sI σ x16 100 a1 a2) fun s18 =>
    j_X10_deliver_16 s18 a0 a1 
  else
    j_X10_deliver_16 σ a0 a1 
set_option maxHeartbeats 4000000 in
set_option maxRecDepth 100000 in
theorem jw_X10_deliver_16 {p : Program} {l : Launch} {e : Env} {R : Room} {s : State} {m : MethodId} {args : Array Value} {below : List Frame} {meth : Method} {c : Code} {D : va_G} {dA : Nat → ClassId} {bs : Nat} (C : h_C p m c cX10_deliver 3 s args RX10 D dA) {σ0 : HS} (B : h_B R s meth σ0 none 0 0) {σ' : HS} : ∀ (σ : HS) (l0 : Option Nat) (l1 : Int32), j_X10_deliver_16 σ l0 l1 = some ((), σ') → V p l e R s m args below meth c D dA bs 3 (MQ below (h_Q D dA bs none σ0 σ') args s R.cells R.slots (fun q => bs ≤ q)) σ 16 [(0, va_rf l0), (1, .int l1)] [] := by
  intro σ l0 l1 h
  unfold j_X10_deliver_16 at h
  refine V_aload_n C 0 dX10_deliver_16 rfl rfl ?_
  obtain ⟨x6, e7, h⟩ := h_b1_some h
  refine V_getR C fl_RX10_106 dX10_deliver_17 e7 ?_
  refine V_iload_n C 1 dX10_deliver_20 rfl rfl ?_
  refine V_dup2IR C dX10_deliver_21 ?_
  obtain ⟨x8, e9, h⟩ := h_b1_some h
  refine V_iald C dX10_deliver_22 e9 ?_
  refine V_iconst (v := 1) C dX10_deliver_23 (by decide) ?_
  refine V_iadd C dX10_deliver_24 ?_
  obtain ⟨s10, e11, h⟩ := h_b1_some h
  refine V_iast C dX10_deliver_25 e11 ?_
  refine V_aload_n C 0 dX10_deliver_26 rfl rfl ?_
  obtain ⟨x12, e13, h⟩ := h_b1_some h
  refine V_getR C fl_RX10_94 dX10_deliver_27 e13 ?_
  refine V_iload_n C 1 dX10_deliver_30 rfl rfl ?_
  refine V_iconst (v := 2) C dX10_deliver_31 (by decide) ?_
  obtain ⟨s14, e15, h⟩ := h_b1_some h
  refine V_iast C dX10_deliver_32 e15 ?_
  cases h
  exact V_vret C B dX10_deliver_33
set_option maxHeartbeats 4000000 in
set_option maxRecDepth 100000 in
theorem m_X10_deliver (l : Launch) (D : va_G) (dA : Nat → ClassId) (bs : Nat) {σ σ' : HS} {a0 : Option Nat} {a1 : Int32} {a2 : Int32} (h : f_X10_deliver σ a0 a1 a2 = some ((), σ')) : MetC l yX10_deliver cX10_deliver 3 none 0 0 D dA bs [va_rf a0, .int a1, .int a2] none σ σ' := by
  refine MetC.of (by decide) (h_avR (h_avI (h_avI h_av0))) (Nat.le_of_ble_eq_true rfl) ?_
  intro p e R s m args below meth c C B hnm
  unfold f_X10_deliver at h
  refine V_sub (lv' := [(0, va_rf a0), (1, .int a1), (2, .int a2)]) [0, 1, 2] rfl ?_
  refine V_aload_n C 0 dX10_deliver_0 rfl rfl ?_
  obtain ⟨x1, e2, h⟩ := h_b1_some h
  refine V_getR C fl_RX10_106 dX10_deliver_1 e2 ?_
  refine V_iload_n C 1 dX10_deliver_4 rfl rfl ?_
  obtain ⟨x3, e4, h⟩ := h_b1_some h
  refine V_iald C dX10_deliver_5 e4 ?_
  refine V_if_ne (tgt := 16) C dX10_deliver_6 (by decide) (fun c5 => ?_) (fun c5 => ?_)
  · rw [if_neg c5] at h
    exact V_sub [0, 1] rfl (jw_X10_deliver_16 C B σ a0 a1  h)
  · rw [if_pos c5] at h
    refine V_aload_n C 0 dX10_deliver_9 rfl rfl ?_
    obtain ⟨x16, e17, h⟩ := h_b1_some h
    refine V_getR C fl_RX10_100 dX10_deliver_10 e17 ?_
    refine V_iload_n C 1 dX10_deliver_13 rfl rfl ?_
    refine V_iload_n C 2 dX10_deliver_14 rfl rfl ?_
    obtain ⟨s18, e19, h⟩ := h_b1_some h
    refine V_iast C dX10_deliver_15 e19 ?_
    exact V_sub [0, 1] rfl (jw_X10_deliver_16 C B s18 a0 a1  h)
/-! X10_hasEndpoint -/
theorem dX10_hasEndpoint_0 : decode cX10_hasEndpoint 0 = .ok (.iconst 4, 1) := by decide +kernel
theorem dX10_hasEndpoint_1 : decode cX10_hasEndpoint 1 = .ok (.iload_n 1, 1) := by decide +kernel
theorem dX10_hasEndpoint_2 : decode cX10_hasEndpoint 2 = .ok (.imul, 1) := by decide +kernel
theorem dX10_hasEndpoint_3 : decode cX10_hasEndpoint 3 = .ok (.istore_n 3, 1) := by decide +kernel
theorem dX10_hasEndpoint_4 : decode cX10_hasEndpoint 4 = .ok (.iload_n 3, 1) := by decide +kernel
theorem dX10_hasEndpoint_5 : decode cX10_hasEndpoint 5 = .ok (.iconst 4, 1) := by decide +kernel
theorem dX10_hasEndpoint_6 : decode cX10_hasEndpoint 6 = .ok (.iload_n 1, 1) := by decide +kernel
theorem dX10_hasEndpoint_7 : decode cX10_hasEndpoint 7 = .ok (.imul, 1) := by decide +kernel
theorem dX10_hasEndpoint_8 : decode cX10_hasEndpoint 8 = .ok (.aload_n 0, 1) := by decide +kernel
theorem dX10_hasEndpoint_9 : decode cX10_hasEndpoint 9 = .ok (.getfield 52, 3) := by decide +kernel
theorem dX10_hasEndpoint_12 : decode cX10_hasEndpoint 12 = .ok (.iload_n 1, 1) := by decide +kernel
theorem dX10_hasEndpoint_13 : decode cX10_hasEndpoint 13 = .ok (.iaload, 1) := by decide +kernel
theorem dX10_hasEndpoint_14 : decode cX10_hasEndpoint 14 = .ok (.iadd, 1) := by decide +kernel
theorem dX10_hasEndpoint_15 : decode cX10_hasEndpoint 15 = .ok (.if_icmp .ge 30, 3) := by decide +kernel
theorem dX10_hasEndpoint_18 : decode cX10_hasEndpoint 18 = .ok (.aload_n 0, 1) := by decide +kernel
theorem dX10_hasEndpoint_19 : decode cX10_hasEndpoint 19 = .ok (.getfield 55, 3) := by decide +kernel
theorem dX10_hasEndpoint_22 : decode cX10_hasEndpoint 22 = .ok (.iload_n 3, 1) := by decide +kernel
theorem dX10_hasEndpoint_23 : decode cX10_hasEndpoint 23 = .ok (.iaload, 1) := by decide +kernel
theorem dX10_hasEndpoint_24 : decode cX10_hasEndpoint 24 = .ok (.iload_n 2, 1) := by decide +kernel
theorem dX10_hasEndpoint_25 : decode cX10_hasEndpoint 25 = .ok (.aload_n 0, 1) := by decide +kernel
theorem dX10_hasEndpoint_26 : decode cX10_hasEndpoint 26 = .ok (.getfield 58, 3) := by decide +kernel
theorem dX10_hasEndpoint_29 : decode cX10_hasEndpoint 29 = .ok (.iload_n 3, 1) := by decide +kernel
theorem dX10_hasEndpoint_30 : decode cX10_hasEndpoint 30 = .ok (.iaload, 1) := by decide +kernel
theorem dX10_hasEndpoint_31 : decode cX10_hasEndpoint 31 = .ok (.invokestatic 124, 3) := by decide +kernel
theorem dX10_hasEndpoint_34 : decode cX10_hasEndpoint 34 = .ok (.ifCond .eq 5, 3) := by decide +kernel
theorem dX10_hasEndpoint_37 : decode cX10_hasEndpoint 37 = .ok (.iconst 1, 1) := by decide +kernel
theorem dX10_hasEndpoint_38 : decode cX10_hasEndpoint 38 = .ok (.ireturn, 1) := by decide +kernel
theorem dX10_hasEndpoint_39 : decode cX10_hasEndpoint 39 = .ok (.iinc 3 1, 3) := by decide +kernel
theorem dX10_hasEndpoint_42 : decode cX10_hasEndpoint 42 = .ok (.goto (-38), 3) := by decide +kernel
theorem dX10_hasEndpoint_45 : decode cX10_hasEndpoint 45 = .ok (.iconst 0, 1) := by decide +kernel
theorem dX10_hasEndpoint_46 : decode cX10_hasEndpoint 46 = .ok (.ireturn, 1) := by decide +kernel
def g_X10_hasEndpoint_4 : Nat → HS → Option Nat → Int32 → Int32 → Int32 → Option (Int32 × HS)
  | 0, _, _, _, _, _ => none
  | n + 1, σ, l0, l1, l2, l3 =>
    h_b1 (h_gR σ l0 11 15) fun x1 =>
    h_b1 (h_aI σ x1 100 l1) fun x3 =>
    if ((4 * l1) + x3) ≤ l3 then
      some (0, σ)
    else
      h_b1 (h_gR σ l0 11 16) fun x6 =>
      h_b1 (h_aI σ x6 100 l3) fun x8 =>
      h_b1 (h_gR σ l0 11 17) fun x10 =>
      h_b1 (h_aI σ x10 100 l3) fun x12 =>
      h_bd (f_X10_begin σ x8 l2 x12) fun r14 s15 =>
      if r14 = 0 then
        g_X10_hasEndpoint_4 n s15 l0 l1 l2 (l3 + 1)
      else
        some (1, s15)
def f_X10_hasEndpoint (σ : HS) (a0 : Option Nat) (a1 : Int32) (a2 : Int32) : Option (Int32 × HS) :=
  g_X10_hasEndpoint_4 h_hN σ a0 a1 a2 (4 * a1)
set_option maxHeartbeats 4000000 in
set_option maxRecDepth 100000 in
theorem w_X10_hasEndpoint_4 {p : Program} {l : Launch} {e : Env} {R : Room} {s : State} {m : MethodId} {args : Array Value} {below : List Frame} {meth : Method} {c : Code} {D : va_G} {dA : Nat → ClassId} {bs : Nat} (C : h_C p m c cX10_hasEndpoint 4 s args RX10 D dA) {σ0 : HS} (B : h_B R s meth σ0 (some .boolean) 1 22) {σ' : HS} {r : Int32} : ∀ (n : Nat) (σ : HS) (l0 : Option Nat) (l1 : Int32) (l2 : Int32) (l3 : Int32), g_X10_hasEndpoint_4 n σ l0 l1 l2 l3 = some (r, σ') → V p l e R s m args below meth c D dA bs 4 (MQ below (h_Q D dA bs (some (.int r)) σ0 σ') args s R.cells R.slots (fun q => bs ≤ q)) σ 4 [(0, va_rf l0), (1, .int l1), (2, .int l2), (3, .int l3)] [] := by
  intro n
  induction n with
  | zero =>
    intro σ l0 l1 l2 l3 h
    rw [g_X10_hasEndpoint_4] at h
    cases h
  | succ n ih =>
    intro σ l0 l1 l2 l3 h
    rw [g_X10_hasEndpoint_4] at h
    refine V_iload_n C 3 dX10_hasEndpoint_4 rfl rfl ?_
    refine V_iconst (v := 4) C dX10_hasEndpoint_5 (by decide) ?_
    refine V_iload_n C 1 dX10_hasEndpoint_6 rfl rfl ?_
    refine V_imul C dX10_hasEndpoint_7 ?_
    refine V_aload_n C 0 dX10_hasEndpoint_8 rfl rfl ?_
    obtain ⟨x1, e2, h⟩ := h_b1_some h
    refine V_getR C fl_RX10_52 dX10_hasEndpoint_9 e2 ?_
    refine V_iload_n C 1 dX10_hasEndpoint_12 rfl rfl ?_
    obtain ⟨x3, e4, h⟩ := h_b1_some h
    refine V_iald C dX10_hasEndpoint_13 e4 ?_
    refine V_iadd C dX10_hasEndpoint_14 ?_
    refine V_icmp_ge (tgt := 45) C dX10_hasEndpoint_15 (by decide) (fun c5 => ?_) (fun c5 => ?_)
    · rw [if_pos c5] at h
      refine V_iconst (v := 0) C dX10_hasEndpoint_45 (by decide) ?_
      cases h
      exact V_zret C B dX10_hasEndpoint_46 (Or.inl rfl)
    · rw [if_neg c5] at h
      refine V_aload_n C 0 dX10_hasEndpoint_18 rfl rfl ?_
      obtain ⟨x6, e7, h⟩ := h_b1_some h
      refine V_getR C fl_RX10_55 dX10_hasEndpoint_19 e7 ?_
      refine V_iload_n C 3 dX10_hasEndpoint_22 rfl rfl ?_
      obtain ⟨x8, e9, h⟩ := h_b1_some h
      refine V_iald C dX10_hasEndpoint_23 e9 ?_
      refine V_iload_n C 2 dX10_hasEndpoint_24 rfl rfl ?_
      refine V_aload_n C 0 dX10_hasEndpoint_25 rfl rfl ?_
      obtain ⟨x10, e11, h⟩ := h_b1_some h
      refine V_getR C fl_RX10_58 dX10_hasEndpoint_26 e11 ?_
      refine V_iload_n C 3 dX10_hasEndpoint_29 rfl rfl ?_
      obtain ⟨x12, e13, h⟩ := h_b1_some h
      refine V_iald C dX10_hasEndpoint_30 e13 ?_
      obtain ⟨r14, s15, e16, h⟩ := h_bd_some h
      refine V_cS (As := [.int x8, .int l2, .int x12]) (rest := []) C ms_RX10_124 (m_X10_begin l D dA bs e16) rfl rfl (Nat.le_trans h_w0 (by decide)) (h_fr B (by decide)) (h_lo B (by decide)) dX10_hasEndpoint_31 ?_
      refine V_if_eq (tgt := 39) C dX10_hasEndpoint_34 (by decide) (fun c17 => ?_) (fun c17 => ?_)
      · rw [if_pos c17] at h
        refine V_iinc (v := (l3 + 1)) (lv' := [(3, .int (l3 + 1)), (0, va_rf l0), (1, .int l1), (2, .int l2)]) C 3 dX10_hasEndpoint_39 rfl rfl (by decide) rfl ?_
        refine V_goto (tgt := 4) C dX10_hasEndpoint_42 (by decide) ?_
        exact V_sub [1, 2, 3, 0] rfl (ih s15 l0 l1 l2 (l3 + 1) h)
      · rw [if_neg c17] at h
        refine V_iconst (v := 1) C dX10_hasEndpoint_37 (by decide) ?_
        cases h
        exact V_zret C B dX10_hasEndpoint_38 (Or.inr rfl)
set_option maxHeartbeats 4000000 in
set_option maxRecDepth 100000 in
theorem m_X10_hasEndpoint (l : Launch) (D : va_G) (dA : Nat → ClassId) (bs : Nat) {σ σ' : HS} {a0 : Option Nat} {a1 : Int32} {a2 : Int32} {r : Int32} (h : f_X10_hasEndpoint σ a0 a1 a2 = some (r, σ')) : MetC l yX10_hasEndpoint cX10_hasEndpoint 4 (some .boolean) 1 22 D dA bs [va_rf a0, .int a1, .int a2] (some (.int r)) σ σ' := by
  refine MetC.of (by decide) (h_avR (h_avI (h_avI h_av0))) (Nat.le_of_ble_eq_true rfl) ?_
  intro p e R s m args below meth c C B hnm
  unfold f_X10_hasEndpoint at h
  refine V_sub (lv' := [(0, va_rf a0), (1, .int a1), (2, .int a2)]) [0, 1, 2] rfl ?_
  refine V_iconst (v := 4) C dX10_hasEndpoint_0 (by decide) ?_
  refine V_iload_n C 1 dX10_hasEndpoint_1 rfl rfl ?_
  refine V_imul C dX10_hasEndpoint_2 ?_
  refine V_istore_n (lv' := [(3, .int (4 * a1)), (0, va_rf a0), (1, .int a1), (2, .int a2)]) C dX10_hasEndpoint_3 rfl (by decide) rfl ?_
  exact V_sub [1, 2, 3, 0] rfl (w_X10_hasEndpoint_4 C B h_hN σ a0 a1 a2 (4 * a1) h)
/-! X10_lose -/
theorem dX10_lose_0 : decode cX10_lose 0 = .ok (.aload_n 0, 1) := by decide +kernel
theorem dX10_lose_1 : decode cX10_lose 1 = .ok (.getfield 94, 3) := by decide +kernel
theorem dX10_lose_4 : decode cX10_lose 4 = .ok (.iload_n 1, 1) := by decide +kernel
theorem dX10_lose_5 : decode cX10_lose 5 = .ok (.iaload, 1) := by decide +kernel
theorem dX10_lose_6 : decode cX10_lose 6 = .ok (.iconst 1, 1) := by decide +kernel
theorem dX10_lose_7 : decode cX10_lose 7 = .ok (.if_icmp .ne 10, 3) := by decide +kernel
theorem dX10_lose_10 : decode cX10_lose 10 = .ok (.aload_n 0, 1) := by decide +kernel
theorem dX10_lose_11 : decode cX10_lose 11 = .ok (.getfield 94, 3) := by decide +kernel
theorem dX10_lose_14 : decode cX10_lose 14 = .ok (.iload_n 1, 1) := by decide +kernel
theorem dX10_lose_15 : decode cX10_lose 15 = .ok (.iconst 4, 1) := by decide +kernel
theorem dX10_lose_16 : decode cX10_lose 16 = .ok (.iastore, 1) := by decide +kernel
theorem dX10_lose_17 : decode cX10_lose 17 = .ok (.return_, 1) := by decide +kernel
def f_X10_lose (σ : HS) (a0 : Option Nat) (a1 : Int32) : Option (Unit × HS) :=
  h_b1 (h_gR σ a0 11 31) fun x1 =>
  h_b1 (h_aI σ x1 100 a1) fun x3 =>
  if x3 = 1 then
    h_b1 (h_gR σ a0 11 31) fun x6 =>
    h_b1 (h_sI σ x6 100 a1 4) fun s8 =>
    some ((), s8)
  else
    some ((), σ)
set_option maxHeartbeats 4000000 in
set_option maxRecDepth 100000 in
theorem m_X10_lose (l : Launch) (D : va_G) (dA : Nat → ClassId) (bs : Nat) {σ σ' : HS} {a0 : Option Nat} {a1 : Int32} (h : f_X10_lose σ a0 a1 = some ((), σ')) : MetC l yX10_lose cX10_lose 2 none 0 0 D dA bs [va_rf a0, .int a1] none σ σ' := by
  refine MetC.of (by decide) (h_avR (h_avI h_av0)) (Nat.le_of_ble_eq_true rfl) ?_
  intro p e R s m args below meth c C B hnm
  unfold f_X10_lose at h
  refine V_sub (lv' := [(0, va_rf a0), (1, .int a1)]) [0, 1] rfl ?_
  refine V_aload_n C 0 dX10_lose_0 rfl rfl ?_
  obtain ⟨x1, e2, h⟩ := h_b1_some h
  refine V_getR C fl_RX10_94 dX10_lose_1 e2 ?_
  refine V_iload_n C 1 dX10_lose_4 rfl rfl ?_
  obtain ⟨x3, e4, h⟩ := h_b1_some h
  refine V_iald C dX10_lose_5 e4 ?_
  refine V_iconst (v := 1) C dX10_lose_6 (by decide) ?_
  refine V_icmp_ne (tgt := 17) C dX10_lose_7 (by decide) (fun c5 => ?_) (fun c5 => ?_)
  · rw [if_neg c5] at h
    cases h
    exact V_vret C B dX10_lose_17
  · rw [if_pos c5] at h
    refine V_aload_n C 0 dX10_lose_10 rfl rfl ?_
    obtain ⟨x6, e7, h⟩ := h_b1_some h
    refine V_getR C fl_RX10_94 dX10_lose_11 e7 ?_
    refine V_iload_n C 1 dX10_lose_14 rfl rfl ?_
    refine V_iconst (v := 4) C dX10_lose_15 (by decide) ?_
    obtain ⟨s8, e9, h⟩ := h_b1_some h
    refine V_iast C dX10_lose_16 e9 ?_
    cases h
    exact V_vret C B dX10_lose_17
/-! X10_came -/
theorem dX10_came_0 : decode cX10_came 0 = .ok (.aload_n 0, 1) := by decide +kernel
theorem dX10_came_1 : decode cX10_came 1 = .ok (.getfield 112, 3) := by decide +kernel
theorem dX10_came_4 : decode cX10_came 4 = .ok (.bipush 7, 2) := by decide +kernel
theorem dX10_came_6 : decode cX10_came 6 = .ok (.iaload, 1) := by decide +kernel
theorem dX10_came_7 : decode cX10_came 7 = .ok (.istore_n 1, 1) := by decide +kernel
theorem dX10_came_8 : decode cX10_came 8 = .ok (.aload_n 0, 1) := by decide +kernel
theorem dX10_came_9 : decode cX10_came 9 = .ok (.getfield 112, 3) := by decide +kernel
theorem dX10_came_12 : decode cX10_came 12 = .ok (.iconst 1, 1) := by decide +kernel
theorem dX10_came_13 : decode cX10_came 13 = .ok (.iaload, 1) := by decide +kernel
theorem dX10_came_14 : decode cX10_came 14 = .ok (.istore_n 2, 1) := by decide +kernel
theorem dX10_came_15 : decode cX10_came 15 = .ok (.aload_n 0, 1) := by decide +kernel
theorem dX10_came_16 : decode cX10_came 16 = .ok (.getfield 112, 3) := by decide +kernel
theorem dX10_came_19 : decode cX10_came 19 = .ok (.iconst 2, 1) := by decide +kernel
theorem dX10_came_20 : decode cX10_came 20 = .ok (.iaload, 1) := by decide +kernel
theorem dX10_came_21 : decode cX10_came 21 = .ok (.istore_n 3, 1) := by decide +kernel
theorem dX10_came_22 : decode cX10_came 22 = .ok (.aload_n 0, 1) := by decide +kernel
theorem dX10_came_23 : decode cX10_came 23 = .ok (.aload_n 0, 1) := by decide +kernel
theorem dX10_came_24 : decode cX10_came 24 = .ok (.getfield 112, 3) := by decide +kernel
theorem dX10_came_27 : decode cX10_came 27 = .ok (.iconst 0, 1) := by decide +kernel
theorem dX10_came_28 : decode cX10_came 28 = .ok (.iaload, 1) := by decide +kernel
theorem dX10_came_29 : decode cX10_came 29 = .ok (.invokevirtual 147, 3) := by decide +kernel
theorem dX10_came_32 : decode cX10_came 32 = .ok (.ifCond .eq 15, 3) := by decide +kernel
theorem dX10_came_35 : decode cX10_came 35 = .ok (.iload_n 2, 1) := by decide +kernel
theorem dX10_came_36 : decode cX10_came 36 = .ok (.iconst 1, 1) := by decide +kernel
theorem dX10_came_37 : decode cX10_came 37 = .ok (.aload_n 0, 1) := by decide +kernel
theorem dX10_came_38 : decode cX10_came 38 = .ok (.getfield 231, 3) := by decide +kernel
theorem dX10_came_41 : decode cX10_came 41 = .ok (.invokestatic 120, 3) := by decide +kernel
theorem dX10_came_44 : decode cX10_came 44 = .ok (.ifCond .ne 4, 3) := by decide +kernel
theorem dX10_came_47 : decode cX10_came 47 = .ok (.return_, 1) := by decide +kernel
theorem dX10_came_48 : decode cX10_came 48 = .ok (.aload_n 0, 1) := by decide +kernel
theorem dX10_came_49 : decode cX10_came 49 = .ok (.iload_n 1, 1) := by decide +kernel
theorem dX10_came_50 : decode cX10_came 50 = .ok (.invokevirtual 143, 3) := by decide +kernel
theorem dX10_came_53 : decode cX10_came 53 = .ok (.istore 4, 2) := by decide +kernel
theorem dX10_came_55 : decode cX10_came 55 = .ok (.iload 4, 2) := by decide +kernel
theorem dX10_came_57 : decode cX10_came 57 = .ok (.iconst (-1), 1) := by decide +kernel
theorem dX10_came_58 : decode cX10_came 58 = .ok (.if_icmp .ne 30, 3) := by decide +kernel
theorem dX10_came_61 : decode cX10_came 61 = .ok (.aload_n 0, 1) := by decide +kernel
theorem dX10_came_62 : decode cX10_came 62 = .ok (.getfield 82, 3) := by decide +kernel
theorem dX10_came_65 : decode cX10_came 65 = .ok (.iload_n 1, 1) := by decide +kernel
theorem dX10_came_66 : decode cX10_came 66 = .ok (.iaload, 1) := by decide +kernel
theorem dX10_came_67 : decode cX10_came 67 = .ok (.iconst (-1), 1) := by decide +kernel
theorem dX10_came_68 : decode cX10_came 68 = .ok (.if_icmp .eq 20, 3) := by decide +kernel
theorem dX10_came_71 : decode cX10_came 71 = .ok (.aload_n 0, 1) := by decide +kernel
theorem dX10_came_72 : decode cX10_came 72 = .ok (.getfield 150, 3) := by decide +kernel
theorem dX10_came_75 : decode cX10_came 75 = .ok (.aload_n 0, 1) := by decide +kernel
theorem dX10_came_76 : decode cX10_came 76 = .ok (.getfield 85, 3) := by decide +kernel
theorem dX10_came_79 : decode cX10_came 79 = .ok (.iload_n 1, 1) := by decide +kernel
theorem dX10_came_80 : decode cX10_came 80 = .ok (.iaload, 1) := by decide +kernel
theorem dX10_came_81 : decode cX10_came 81 = .ok (.if_icmp .ge 7, 3) := by decide +kernel
theorem dX10_came_84 : decode cX10_came 84 = .ok (.iconst 1, 1) := by decide +kernel
theorem dX10_came_85 : decode cX10_came 85 = .ok (.goto 4, 3) := by decide +kernel
theorem dX10_came_88 : decode cX10_came 88 = .ok (.iconst 0, 1) := by decide +kernel
theorem dX10_came_89 : decode cX10_came 89 = .ok (.istore 5, 2) := by decide +kernel
theorem dX10_came_91 : decode cX10_came 91 = .ok (.iload 4, 2) := by decide +kernel
theorem dX10_came_93 : decode cX10_came 93 = .ok (.iconst (-1), 1) := by decide +kernel
theorem dX10_came_94 : decode cX10_came 94 = .ok (.if_icmp .eq 21, 3) := by decide +kernel
theorem dX10_came_97 : decode cX10_came 97 = .ok (.aload_n 0, 1) := by decide +kernel
theorem dX10_came_98 : decode cX10_came 98 = .ok (.iload 4, 2) := by decide +kernel
theorem dX10_came_100 : decode cX10_came 100 = .ok (.iload_n 3, 1) := by decide +kernel
theorem dX10_came_101 : decode cX10_came 101 = .ok (.invokevirtual 234, 3) := by decide +kernel
theorem dX10_came_104 : decode cX10_came 104 = .ok (.ifCond .eq 11, 3) := by decide +kernel
theorem dX10_came_107 : decode cX10_came 107 = .ok (.aload_n 0, 1) := by decide +kernel
theorem dX10_came_108 : decode cX10_came 108 = .ok (.iload_n 2, 1) := by decide +kernel
theorem dX10_came_109 : decode cX10_came 109 = .ok (.iload 4, 2) := by decide +kernel
theorem dX10_came_111 : decode cX10_came 111 = .ok (.invokevirtual 237, 3) := by decide +kernel
theorem dX10_came_114 : decode cX10_came 114 = .ok (.return_, 1) := by decide +kernel
theorem dX10_came_115 : decode cX10_came 115 = .ok (.iload 5, 2) := by decide +kernel
theorem dX10_came_117 : decode cX10_came 117 = .ok (.ifCond .ne 8, 3) := by decide +kernel
theorem dX10_came_120 : decode cX10_came 120 = .ok (.aload_n 0, 1) := by decide +kernel
theorem dX10_came_121 : decode cX10_came 121 = .ok (.iload_n 2, 1) := by decide +kernel
theorem dX10_came_122 : decode cX10_came 122 = .ok (.invokevirtual 253, 3) := by decide +kernel
theorem dX10_came_125 : decode cX10_came 125 = .ok (.iload 4, 2) := by decide +kernel
theorem dX10_came_127 : decode cX10_came 127 = .ok (.iconst (-1), 1) := by decide +kernel
theorem dX10_came_128 : decode cX10_came 128 = .ok (.if_icmp .ne 9, 3) := by decide +kernel
theorem dX10_came_131 : decode cX10_came 131 = .ok (.iload 5, 2) := by decide +kernel
theorem dX10_came_133 : decode cX10_came 133 = .ok (.ifCond .ne 4, 3) := by decide +kernel
theorem dX10_came_136 : decode cX10_came 136 = .ok (.return_, 1) := by decide +kernel
theorem dX10_came_137 : decode cX10_came 137 = .ok (.iload 5, 2) := by decide +kernel
theorem dX10_came_139 : decode cX10_came 139 = .ok (.ifCond .eq 57, 3) := by decide +kernel
theorem dX10_came_142 : decode cX10_came 142 = .ok (.aload_n 0, 1) := by decide +kernel
theorem dX10_came_143 : decode cX10_came 143 = .ok (.getfield 153, 3) := by decide +kernel
theorem dX10_came_146 : decode cX10_came 146 = .ok (.istore 6, 2) := by decide +kernel
theorem dX10_came_148 : decode cX10_came 148 = .ok (.aload_n 0, 1) := by decide +kernel
theorem dX10_came_149 : decode cX10_came 149 = .ok (.iconst 3, 1) := by decide +kernel
theorem dX10_came_150 : decode cX10_came 150 = .ok (.aload_n 0, 1) := by decide +kernel
theorem dX10_came_151 : decode cX10_came 151 = .ok (.getfield 49, 3) := by decide +kernel
theorem dX10_came_154 : decode cX10_came 154 = .ok (.aload_n 0, 1) := by decide +kernel
theorem dX10_came_155 : decode cX10_came 155 = .ok (.getfield 82, 3) := by decide +kernel
theorem dX10_came_158 : decode cX10_came 158 = .ok (.iload_n 1, 1) := by decide +kernel
theorem dX10_came_159 : decode cX10_came 159 = .ok (.iaload, 1) := by decide +kernel
theorem dX10_came_160 : decode cX10_came 160 = .ok (.iaload, 1) := by decide +kernel
theorem dX10_came_161 : decode cX10_came 161 = .ok (.aload_n 0, 1) := by decide +kernel
theorem dX10_came_162 : decode cX10_came 162 = .ok (.getfield 112, 3) := by decide +kernel
theorem dX10_came_165 : decode cX10_came 165 = .ok (.iconst 0, 1) := by decide +kernel
theorem dX10_came_166 : decode cX10_came 166 = .ok (.iaload, 1) := by decide +kernel
theorem dX10_came_167 : decode cX10_came 167 = .ok (.iload_n 2, 1) := by decide +kernel
theorem dX10_came_168 : decode cX10_came 168 = .ok (.iload_n 3, 1) := by decide +kernel
theorem dX10_came_169 : decode cX10_came 169 = .ok (.aload_n 0, 1) := by decide +kernel
theorem dX10_came_170 : decode cX10_came 170 = .ok (.getfield 112, 3) := by decide +kernel
theorem dX10_came_173 : decode cX10_came 173 = .ok (.iconst 3, 1) := by decide +kernel
theorem dX10_came_174 : decode cX10_came 174 = .ok (.iaload, 1) := by decide +kernel
theorem dX10_came_175 : decode cX10_came 175 = .ok (.aload_n 0, 1) := by decide +kernel
theorem dX10_came_176 : decode cX10_came 176 = .ok (.getfield 112, 3) := by decide +kernel
theorem dX10_came_179 : decode cX10_came 179 = .ok (.iconst 4, 1) := by decide +kernel
theorem dX10_came_180 : decode cX10_came 180 = .ok (.iaload, 1) := by decide +kernel
theorem dX10_came_181 : decode cX10_came 181 = .ok (.invokevirtual 164, 3) := by decide +kernel
theorem dX10_came_184 : decode cX10_came 184 = .ok (.aload_n 0, 1) := by decide +kernel
theorem dX10_came_185 : decode cX10_came 185 = .ok (.aload_n 0, 1) := by decide +kernel
theorem dX10_came_186 : decode cX10_came 186 = .ok (.getfield 112, 3) := by decide +kernel
theorem dX10_came_189 : decode cX10_came 189 = .ok (.iconst 5, 1) := by decide +kernel
theorem dX10_came_190 : decode cX10_came 190 = .ok (.iaload, 1) := by decide +kernel
theorem dX10_came_191 : decode cX10_came 191 = .ok (.iload 6, 2) := by decide +kernel
theorem dX10_came_193 : decode cX10_came 193 = .ok (.invokevirtual 172, 3) := by decide +kernel
theorem dX10_came_196 : decode cX10_came 196 = .ok (.aload_n 0, 1) := by decide +kernel
theorem dX10_came_197 : decode cX10_came 197 = .ok (.dup, 1) := by decide +kernel
theorem dX10_came_198 : decode cX10_came 198 = .ok (.getfield 256, 3) := by decide +kernel
theorem dX10_came_201 : decode cX10_came 201 = .ok (.iconst 1, 1) := by decide +kernel
theorem dX10_came_202 : decode cX10_came 202 = .ok (.iadd, 1) := by decide +kernel
theorem dX10_came_203 : decode cX10_came 203 = .ok (.putfield 256, 3) := by decide +kernel
theorem dX10_came_206 : decode cX10_came 206 = .ok (.aload_n 0, 1) := by decide +kernel
theorem dX10_came_207 : decode cX10_came 207 = .ok (.iconst 4, 1) := by decide +kernel
theorem dX10_came_208 : decode cX10_came 208 = .ok (.aload_n 0, 1) := by decide +kernel
theorem dX10_came_209 : decode cX10_came 209 = .ok (.getfield 112, 3) := by decide +kernel
theorem dX10_came_212 : decode cX10_came 212 = .ok (.iconst 0, 1) := by decide +kernel
theorem dX10_came_213 : decode cX10_came 213 = .ok (.iaload, 1) := by decide +kernel
theorem dX10_came_214 : decode cX10_came 214 = .ok (.iload_n 3, 1) := by decide +kernel
theorem dX10_came_215 : decode cX10_came 215 = .ok (.iload_n 1, 1) := by decide +kernel
theorem dX10_came_216 : decode cX10_came 216 = .ok (.iconst 0, 1) := by decide +kernel
theorem dX10_came_217 : decode cX10_came 217 = .ok (.iconst 0, 1) := by decide +kernel
theorem dX10_came_218 : decode cX10_came 218 = .ok (.iconst 0, 1) := by decide +kernel
theorem dX10_came_219 : decode cX10_came 219 = .ok (.invokevirtual 164, 3) := by decide +kernel
theorem dX10_came_222 : decode cX10_came 222 = .ok (.return_, 1) := by decide +kernel
def j_X10_came_196 (σ : HS) (l0 : Option Nat) (l1 : Int32) (l3 : Int32) : Option (Unit × HS) :=
  h_b1 (h_gI σ l0 11 41) fun x39 =>
  h_b1 (h_pI σ l0 11 41 (x39 + 1)) fun s41 =>
  h_b1 (h_gR s41 l0 11 38) fun x43 =>
  h_b1 (h_aI s41 x43 100 0) fun x45 =>
  h_b1 (h_rcv s41 l0 11) fun y50 =>
  h_bd (f_X10_post s41 l0 4 x45 l3 l1 0 0 0) fun _ s48 =>
  some ((), s48)
def j_X10_came_137 (σ : HS) (l0 : Option Nat) (l1 : Int32) (l2 : Int32) (l3 : Int32) (l5 : Int32) : Option (Unit × HS) :=
  if l5 = 0 then
    j_X10_came_196 σ l0 l1 l3 
  else
    h_b1 (h_gI σ l0 11 36) fun x52 =>
    h_b1 (h_gR σ l0 11 14) fun x54 =>
    h_b1 (h_gR σ l0 11 26) fun x56 =>
    h_b1 (h_aI σ x56 100 l1) fun x58 =>
    h_b1 (h_aI σ x54 100 x58) fun x60 =>
    h_b1 (h_gR σ l0 11 38) fun x62 =>
    h_b1 (h_aI σ x62 100 0) fun x64 =>
    h_b1 (h_gR σ l0 11 38) fun x66 =>
    h_b1 (h_aI σ x66 100 3) fun x68 =>
    h_b1 (h_gR σ l0 11 38) fun x70 =>
    h_b1 (h_aI σ x70 100 4) fun x72 =>
    h_b1 (h_rcv σ l0 11) fun y77 =>
    h_bd (f_X10_post σ l0 3 x60 x64 l2 l3 x68 x72) fun _ s75 =>
    h_b1 (h_gR s75 l0 11 38) fun x79 =>
    h_b1 (h_aI s75 x79 100 5) fun x81 =>
    h_b1 (h_rcv s75 l0 11) fun y86 =>
    h_bd (f_X10_last s75 l0 x81 x52) fun _ s84 =>
    j_X10_came_196 s84 l0 l1 l3 
def j_X10_came_125 (σ : HS) (l0 : Option Nat) (l1 : Int32) (l2 : Int32) (l3 : Int32) (l4 : Int32) (l5 : Int32) : Option (Unit × HS) :=
  if l4 = (-1) then
    if l5 = 0 then
      some ((), σ)
    else
      j_X10_came_137 σ l0 l1 l2 l3 l5 
  else
    j_X10_came_137 σ l0 l1 l2 l3 l5 
def j_X10_came_115 (σ : HS) (l0 : Option Nat) (l1 : Int32) (l2 : Int32) (l3 : Int32) (l4 : Int32) (l5 : Int32) : Option (Unit × HS) :=
  if l5 = 0 then
    h_b1 (h_rcv σ l0 11) fun y92 =>
    h_bd (f_X10_lose σ l0 l2) fun _ s90 =>
    j_X10_came_125 s90 l0 l1 l2 l3 l4 l5 
  else
    j_X10_came_125 σ l0 l1 l2 l3 l4 l5 
def j_X10_came_89 (σ : HS) (l0 : Option Nat) (l1 : Int32) (l2 : Int32) (l3 : Int32) (l4 : Int32) (t0 : Int32) : Option (Unit × HS) :=
  if l4 = (-1) then
    j_X10_came_115 σ l0 l1 l2 l3 l4 t0 
  else
    h_b1 (h_rcv σ l0 11) fun y97 =>
    h_bd (f_X10_hasEndpoint σ l0 l4 l3) fun r94 s95 =>
    if r94 = 0 then
      j_X10_came_115 s95 l0 l1 l2 l3 l4 t0 
    else
      h_b1 (h_rcv s95 l0 11) fun y103 =>
      h_bd (f_X10_deliver s95 l0 l2 l4) fun _ s101 =>
      some ((), s101)
def j_X10_came_88 (σ : HS) (l0 : Option Nat) (l1 : Int32) (l2 : Int32) (l3 : Int32) (l4 : Int32) : Option (Unit × HS) :=
  j_X10_came_89 σ l0 l1 l2 l3 l4 0
def f_X10_came (σ : HS) (a0 : Option Nat) : Option (Unit × HS) :=
  h_b1 (h_gR σ a0 11 38) fun x1 =>
  h_b1 (h_aI σ x1 100 7) fun x3 =>
  h_b1 (h_gR σ a0 11 38) fun x5 =>
  h_b1 (h_aI σ x5 100 1) fun x7 =>
  h_b1 (h_gR σ a0 11 38) fun x9 =>
  h_b1 (h_aI σ x9 100 2) fun x11 =>
  h_b1 (h_gR σ a0 11 38) fun x13 =>
  h_b1 (h_aI σ x13 100 0) fun x15 =>
  h_b1 (h_rcv σ a0 11) fun y20 =>
  h_bd (f_X10_isSite σ a0 x15) fun r17 s18 =>
  if r17 = 0 then
    some ((), s18)
  else
    h_b1 (h_gI s18 a0 11 28) fun x23 =>
    h_bd (f_X10_in s18 x7 1 x23) fun r25 s26 =>
    if r25 = 0 then
      some ((), s26)
    else
      h_b1 (h_rcv s26 a0 11) fun y32 =>
      h_bd (f_X10_siteAt s26 a0 x3) fun r29 s30 =>
      if r29 = (-1) then
        h_b1 (h_gR s30 a0 11 26) fun x105 =>
        h_b1 (h_aI s30 x105 100 x3) fun x107 =>
        if x107 = (-1) then
          j_X10_came_88 s30 a0 x3 x7 x11 r29 
        else
          h_b1 (h_gI s30 a0 11 1) fun x110 =>
          h_b1 (h_gR s30 a0 11 27) fun x112 =>
          h_b1 (h_aI s30 x112 100 x3) fun x114 =>
          if x114 ≤ x110 then
            j_X10_came_88 s30 a0 x3 x7 x11 r29 
          else
            j_X10_came_89 s30 a0 x3 x7 x11 r29 1
      else
        j_X10_came_88 s30 a0 x3 x7 x11 r29 
set_option maxHeartbeats 4000000 in
set_option maxRecDepth 100000 in
theorem jw_X10_came_196 {p : Program} {l : Launch} {e : Env} {R : Room} {s : State} {m : MethodId} {args : Array Value} {below : List Frame} {meth : Method} {c : Code} {D : va_G} {dA : Nat → ClassId} {bs : Nat} (C : h_C p m c cX10_came 7 s args RX10 D dA) {σ0 : HS} (B : h_B R s meth σ0 none 2 45) {σ' : HS} : ∀ (σ : HS) (l0 : Option Nat) (l1 : Int32) (l3 : Int32), j_X10_came_196 σ l0 l1 l3 = some ((), σ') → V p l e R s m args below meth c D dA bs 7 (MQ below (h_Q D dA bs none σ0 σ') args s R.cells R.slots (fun q => bs ≤ q)) σ 196 [(0, va_rf l0), (1, .int l1), (3, .int l3)] [] := by
  intro σ l0 l1 l3 h
  unfold j_X10_came_196 at h
  refine V_aload_n C 0 dX10_came_196 rfl rfl ?_
  refine V_dupR C dX10_came_197 ?_
  obtain ⟨x39, e40, h⟩ := h_b1_some h
  refine V_getI C fl_RX10_256 dX10_came_198 e40 ?_
  refine V_iconst (v := 1) C dX10_came_201 (by decide) ?_
  refine V_iadd C dX10_came_202 ?_
  obtain ⟨s41, e42, h⟩ := h_b1_some h
  refine V_putI C fw_RX10_256 dX10_came_203 e42 ?_
  refine V_aload_n C 0 dX10_came_206 rfl rfl ?_
  refine V_iconst (v := 4) C dX10_came_207 (by decide) ?_
  refine V_aload_n C 0 dX10_came_208 rfl rfl ?_
  obtain ⟨x43, e44, h⟩ := h_b1_some h
  refine V_getR C fl_RX10_112 dX10_came_209 e44 ?_
  refine V_iconst (v := 0) C dX10_came_212 (by decide) ?_
  obtain ⟨x45, e46, h⟩ := h_b1_some h
  refine V_iald C dX10_came_213 e46 ?_
  refine V_iload_n C 2 dX10_came_214 rfl rfl ?_
  refine V_iload_n C 1 dX10_came_215 rfl rfl ?_
  refine V_iconst (v := 0) C dX10_came_216 (by decide) ?_
  refine V_iconst (v := 0) C dX10_came_217 (by decide) ?_
  refine V_iconst (v := 0) C dX10_came_218 (by decide) ?_
  obtain ⟨y50, e51, h⟩ := h_b1_some h
  obtain ⟨r47, s48, e49, h⟩ := h_bd_some h
  refine V_cV (As := [.int 4, .int x45, .int l3, .int l1, .int 0, .int 0, .int 0]) (rest := []) C mv_RX10_164 (m_X10_post l D dA bs e49) e51 rfl rfl (Nat.le_trans h_w0 (by decide)) (h_fr B (by decide)) (h_lo B (by decide)) dX10_came_219 ?_
  cases h
  exact V_vret C B dX10_came_222
set_option maxHeartbeats 4000000 in
set_option maxRecDepth 100000 in
theorem jw_X10_came_137 {p : Program} {l : Launch} {e : Env} {R : Room} {s : State} {m : MethodId} {args : Array Value} {below : List Frame} {meth : Method} {c : Code} {D : va_G} {dA : Nat → ClassId} {bs : Nat} (C : h_C p m c cX10_came 7 s args RX10 D dA) {σ0 : HS} (B : h_B R s meth σ0 none 2 45) {σ' : HS} : ∀ (σ : HS) (l0 : Option Nat) (l1 : Int32) (l2 : Int32) (l3 : Int32) (l5 : Int32), j_X10_came_137 σ l0 l1 l2 l3 l5 = some ((), σ') → V p l e R s m args below meth c D dA bs 7 (MQ below (h_Q D dA bs none σ0 σ') args s R.cells R.slots (fun q => bs ≤ q)) σ 137 [(0, va_rf l0), (1, .int l1), (2, .int l2), (3, .int l3), (5, .int l5)] [] := by
  intro σ l0 l1 l2 l3 l5 h
  unfold j_X10_came_137 at h
  refine V_iload C 4 dX10_came_137 rfl ?_
  refine V_if_eq (tgt := 196) C dX10_came_139 (by decide) (fun c38 => ?_) (fun c38 => ?_)
  · rw [if_pos c38] at h
    exact V_sub [0, 1, 3] rfl (jw_X10_came_196 C B σ l0 l1 l3  h)
  · rw [if_neg c38] at h
    refine V_aload_n C 0 dX10_came_142 rfl rfl ?_
    obtain ⟨x52, e53, h⟩ := h_b1_some h
    refine V_getI C fl_RX10_153 dX10_came_143 e53 ?_
    refine V_istore (lv' := [(6, .int x52), (0, va_rf l0), (1, .int l1), (2, .int l2), (3, .int l3), (5, .int l5)]) C dX10_came_146 (by decide) rfl ?_
    refine V_aload_n C 1 dX10_came_148 rfl rfl ?_
    refine V_iconst (v := 3) C dX10_came_149 (by decide) ?_
    refine V_aload_n C 1 dX10_came_150 rfl rfl ?_
    obtain ⟨x54, e55, h⟩ := h_b1_some h
    refine V_getR C fl_RX10_49 dX10_came_151 e55 ?_
    refine V_aload_n C 1 dX10_came_154 rfl rfl ?_
    obtain ⟨x56, e57, h⟩ := h_b1_some h
    refine V_getR C fl_RX10_82 dX10_came_155 e57 ?_
    refine V_iload_n C 2 dX10_came_158 rfl rfl ?_
    obtain ⟨x58, e59, h⟩ := h_b1_some h
    refine V_iald C dX10_came_159 e59 ?_
    obtain ⟨x60, e61, h⟩ := h_b1_some h
    refine V_iald C dX10_came_160 e61 ?_
    refine V_aload_n C 1 dX10_came_161 rfl rfl ?_
    obtain ⟨x62, e63, h⟩ := h_b1_some h
    refine V_getR C fl_RX10_112 dX10_came_162 e63 ?_
    refine V_iconst (v := 0) C dX10_came_165 (by decide) ?_
    obtain ⟨x64, e65, h⟩ := h_b1_some h
    refine V_iald C dX10_came_166 e65 ?_
    refine V_iload_n C 3 dX10_came_167 rfl rfl ?_
    refine V_iload_n C 4 dX10_came_168 rfl rfl ?_
    refine V_aload_n C 1 dX10_came_169 rfl rfl ?_
    obtain ⟨x66, e67, h⟩ := h_b1_some h
    refine V_getR C fl_RX10_112 dX10_came_170 e67 ?_
    refine V_iconst (v := 3) C dX10_came_173 (by decide) ?_
    obtain ⟨x68, e69, h⟩ := h_b1_some h
    refine V_iald C dX10_came_174 e69 ?_
    refine V_aload_n C 1 dX10_came_175 rfl rfl ?_
    obtain ⟨x70, e71, h⟩ := h_b1_some h
    refine V_getR C fl_RX10_112 dX10_came_176 e71 ?_
    refine V_iconst (v := 4) C dX10_came_179 (by decide) ?_
    obtain ⟨x72, e73, h⟩ := h_b1_some h
    refine V_iald C dX10_came_180 e73 ?_
    obtain ⟨y77, e78, h⟩ := h_b1_some h
    obtain ⟨r74, s75, e76, h⟩ := h_bd_some h
    refine V_cV (As := [.int 3, .int x60, .int x64, .int l2, .int l3, .int x68, .int x72]) (rest := []) C mv_RX10_164 (m_X10_post l D dA bs e76) e78 rfl rfl (Nat.le_trans h_w0 (by decide)) (h_fr B (by decide)) (h_lo B (by decide)) dX10_came_181 ?_
    refine V_aload_n C 1 dX10_came_184 rfl rfl ?_
    refine V_aload_n C 1 dX10_came_185 rfl rfl ?_
    obtain ⟨x79, e80, h⟩ := h_b1_some h
    refine V_getR C fl_RX10_112 dX10_came_186 e80 ?_
    refine V_iconst (v := 5) C dX10_came_189 (by decide) ?_
    obtain ⟨x81, e82, h⟩ := h_b1_some h
    refine V_iald C dX10_came_190 e82 ?_
    refine V_iload C 0 dX10_came_191 rfl ?_
    obtain ⟨y86, e87, h⟩ := h_b1_some h
    obtain ⟨r83, s84, e85, h⟩ := h_bd_some h
    refine V_cV (As := [.int x81, .int x52]) (rest := []) C mv_RX10_172 (m_X10_last l D dA bs e85) e87 rfl rfl (Nat.le_trans h_w0 (by decide)) (h_fr B (by decide)) (h_lo B (by decide)) dX10_came_193 ?_
    exact V_sub [1, 2, 4] rfl (jw_X10_came_196 C B s84 l0 l1 l3  h)
set_option maxHeartbeats 4000000 in
set_option maxRecDepth 100000 in
theorem jw_X10_came_125 {p : Program} {l : Launch} {e : Env} {R : Room} {s : State} {m : MethodId} {args : Array Value} {below : List Frame} {meth : Method} {c : Code} {D : va_G} {dA : Nat → ClassId} {bs : Nat} (C : h_C p m c cX10_came 7 s args RX10 D dA) {σ0 : HS} (B : h_B R s meth σ0 none 2 45) {σ' : HS} : ∀ (σ : HS) (l0 : Option Nat) (l1 : Int32) (l2 : Int32) (l3 : Int32) (l4 : Int32) (l5 : Int32), j_X10_came_125 σ l0 l1 l2 l3 l4 l5 = some ((), σ') → V p l e R s m args below meth c D dA bs 7 (MQ below (h_Q D dA bs none σ0 σ') args s R.cells R.slots (fun q => bs ≤ q)) σ 125 [(0, va_rf l0), (1, .int l1), (2, .int l2), (3, .int l3), (4, .int l4), (5, .int l5)] [] := by
  intro σ l0 l1 l2 l3 l4 l5 h
  unfold j_X10_came_125 at h
  refine V_iload C 4 dX10_came_125 rfl ?_
  refine V_iconst (v := (-1)) C dX10_came_127 (by decide) ?_
  refine V_icmp_ne (tgt := 137) C dX10_came_128 (by decide) (fun c37 => ?_) (fun c37 => ?_)
  · rw [if_neg c37] at h
    exact V_sub [0, 1, 2, 3, 5] rfl (jw_X10_came_137 C B σ l0 l1 l2 l3 l5  h)
  · rw [if_pos c37] at h
    refine V_iload C 5 dX10_came_131 rfl ?_
    refine V_if_ne (tgt := 137) C dX10_came_133 (by decide) (fun c88 => ?_) (fun c88 => ?_)
    · rw [if_neg c88] at h
      exact V_sub [0, 1, 2, 3, 5] rfl (jw_X10_came_137 C B σ l0 l1 l2 l3 l5  h)
    · rw [if_pos c88] at h
      cases h
      exact V_vret C B dX10_came_136
set_option maxHeartbeats 4000000 in
set_option maxRecDepth 100000 in
theorem jw_X10_came_115 {p : Program} {l : Launch} {e : Env} {R : Room} {s : State} {m : MethodId} {args : Array Value} {below : List Frame} {meth : Method} {c : Code} {D : va_G} {dA : Nat → ClassId} {bs : Nat} (C : h_C p m c cX10_came 7 s args RX10 D dA) {σ0 : HS} (B : h_B R s meth σ0 none 2 45) {σ' : HS} : ∀ (σ : HS) (l0 : Option Nat) (l1 : Int32) (l2 : Int32) (l3 : Int32) (l4 : Int32) (l5 : Int32), j_X10_came_115 σ l0 l1 l2 l3 l4 l5 = some ((), σ') → V p l e R s m args below meth c D dA bs 7 (MQ below (h_Q D dA bs none σ0 σ') args s R.cells R.slots (fun q => bs ≤ q)) σ 115 [(0, va_rf l0), (1, .int l1), (2, .int l2), (3, .int l3), (4, .int l4), (5, .int l5)] [] := by
  intro σ l0 l1 l2 l3 l4 l5 h
  unfold j_X10_came_115 at h
  refine V_iload C 5 dX10_came_115 rfl ?_
  refine V_if_ne (tgt := 125) C dX10_came_117 (by decide) (fun c36 => ?_) (fun c36 => ?_)
  · rw [if_neg c36] at h
    exact V_sub [0, 1, 2, 3, 4, 5] rfl (jw_X10_came_125 C B σ l0 l1 l2 l3 l4 l5  h)
  · rw [if_pos c36] at h
    refine V_aload_n C 0 dX10_came_120 rfl rfl ?_
    refine V_iload_n C 2 dX10_came_121 rfl rfl ?_
    obtain ⟨y92, e93, h⟩ := h_b1_some h
    obtain ⟨r89, s90, e91, h⟩ := h_bd_some h
    refine V_cV (As := [.int l2]) (rest := []) C mv_RX10_253 (m_X10_lose l D dA bs e91) e93 rfl rfl (Nat.le_trans h_w0 (by decide)) (h_fr B (by decide)) (h_lo B (by decide)) dX10_came_122 ?_
    exact V_sub [0, 1, 2, 3, 4, 5] rfl (jw_X10_came_125 C B s90 l0 l1 l2 l3 l4 l5  h)
set_option maxHeartbeats 4000000 in
set_option maxRecDepth 100000 in
theorem jw_X10_came_89 {p : Program} {l : Launch} {e : Env} {R : Room} {s : State} {m : MethodId} {args : Array Value} {below : List Frame} {meth : Method} {c : Code} {D : va_G} {dA : Nat → ClassId} {bs : Nat} (C : h_C p m c cX10_came 7 s args RX10 D dA) {σ0 : HS} (B : h_B R s meth σ0 none 2 45) {σ' : HS} : ∀ (σ : HS) (l0 : Option Nat) (l1 : Int32) (l2 : Int32) (l3 : Int32) (l4 : Int32) (t0 : Int32), j_X10_came_89 σ l0 l1 l2 l3 l4 t0 = some ((), σ') → V p l e R s m args below meth c D dA bs 7 (MQ below (h_Q D dA bs none σ0 σ') args s R.cells R.slots (fun q => bs ≤ q)) σ 89 [(0, va_rf l0), (1, .int l1), (2, .int l2), (3, .int l3), (4, .int l4)] [.int t0] := by
  intro σ l0 l1 l2 l3 l4 t0 h
  unfold j_X10_came_89 at h
  refine V_istore (lv' := [(5, .int t0), (0, va_rf l0), (1, .int l1), (2, .int l2), (3, .int l3), (4, .int l4)]) C dX10_came_89 (by decide) rfl ?_
  refine V_iload C 5 dX10_came_91 rfl ?_
  refine V_iconst (v := (-1)) C dX10_came_93 (by decide) ?_
  refine V_icmp_eq (tgt := 115) C dX10_came_94 (by decide) (fun c35 => ?_) (fun c35 => ?_)
  · rw [if_pos c35] at h
    exact V_sub [1, 2, 3, 4, 5, 0] rfl (jw_X10_came_115 C B σ l0 l1 l2 l3 l4 t0  h)
  · rw [if_neg c35] at h
    refine V_aload_n C 1 dX10_came_97 rfl rfl ?_
    refine V_iload C 5 dX10_came_98 rfl ?_
    refine V_iload_n C 4 dX10_came_100 rfl rfl ?_
    obtain ⟨y97, e98, h⟩ := h_b1_some h
    obtain ⟨r94, s95, e96, h⟩ := h_bd_some h
    refine V_cV (As := [.int l4, .int l3]) (rest := []) C mv_RX10_234 (m_X10_hasEndpoint l D dA bs e96) e98 rfl rfl (Nat.le_trans h_w0 (by decide)) (h_fr B (by decide)) (h_lo B (by decide)) dX10_came_101 ?_
    refine V_if_eq (tgt := 115) C dX10_came_104 (by decide) (fun c99 => ?_) (fun c99 => ?_)
    · rw [if_pos c99] at h
      exact V_sub [1, 2, 3, 4, 5, 0] rfl (jw_X10_came_115 C B s95 l0 l1 l2 l3 l4 t0  h)
    · rw [if_neg c99] at h
      refine V_aload_n C 1 dX10_came_107 rfl rfl ?_
      refine V_iload_n C 3 dX10_came_108 rfl rfl ?_
      refine V_iload C 5 dX10_came_109 rfl ?_
      obtain ⟨y103, e104, h⟩ := h_b1_some h
      obtain ⟨r100, s101, e102, h⟩ := h_bd_some h
      refine V_cV (As := [.int l2, .int l4]) (rest := []) C mv_RX10_237 (m_X10_deliver l D dA bs e102) e104 rfl rfl (Nat.le_trans h_w0 (by decide)) (h_fr B (by decide)) (h_lo B (by decide)) dX10_came_111 ?_
      cases h
      exact V_vret C B dX10_came_114
set_option maxHeartbeats 4000000 in
set_option maxRecDepth 100000 in
theorem jw_X10_came_88 {p : Program} {l : Launch} {e : Env} {R : Room} {s : State} {m : MethodId} {args : Array Value} {below : List Frame} {meth : Method} {c : Code} {D : va_G} {dA : Nat → ClassId} {bs : Nat} (C : h_C p m c cX10_came 7 s args RX10 D dA) {σ0 : HS} (B : h_B R s meth σ0 none 2 45) {σ' : HS} : ∀ (σ : HS) (l0 : Option Nat) (l1 : Int32) (l2 : Int32) (l3 : Int32) (l4 : Int32), j_X10_came_88 σ l0 l1 l2 l3 l4 = some ((), σ') → V p l e R s m args below meth c D dA bs 7 (MQ below (h_Q D dA bs none σ0 σ') args s R.cells R.slots (fun q => bs ≤ q)) σ 88 [(0, va_rf l0), (1, .int l1), (2, .int l2), (3, .int l3), (4, .int l4)] [] := by
  intro σ l0 l1 l2 l3 l4 h
  unfold j_X10_came_88 at h
  refine V_iconst (v := 0) C dX10_came_88 (by decide) ?_
  exact V_sub [0, 1, 2, 3, 4] rfl (jw_X10_came_89 C B σ l0 l1 l2 l3 l4 0 h)
set_option maxHeartbeats 4000000 in
set_option maxRecDepth 100000 in
theorem m_X10_came (l : Launch) (D : va_G) (dA : Nat → ClassId) (bs : Nat) {σ σ' : HS} {a0 : Option Nat} (h : f_X10_came σ a0 = some ((), σ')) : MetC l yX10_came cX10_came 7 none 2 45 D dA bs [va_rf a0] none σ σ' := by
  refine MetC.of (by decide) (h_avR h_av0) (Nat.le_of_ble_eq_true rfl) ?_
  intro p e R s m args below meth c C B hnm
  unfold f_X10_came at h
  refine V_sub (lv' := [(0, va_rf a0)]) [0] rfl ?_
  refine V_aload_n C 0 dX10_came_0 rfl rfl ?_
  obtain ⟨x1, e2, h⟩ := h_b1_some h
  refine V_getR C fl_RX10_112 dX10_came_1 e2 ?_
  refine V_bipush (v := 7) C dX10_came_4 (by decide) ?_
  obtain ⟨x3, e4, h⟩ := h_b1_some h
  refine V_iald C dX10_came_6 e4 ?_
  refine V_istore_n (lv' := [(1, .int x3), (0, va_rf a0)]) C dX10_came_7 rfl (by decide) rfl ?_
  refine V_aload_n C 1 dX10_came_8 rfl rfl ?_
  obtain ⟨x5, e6, h⟩ := h_b1_some h
  refine V_getR C fl_RX10_112 dX10_came_9 e6 ?_
  refine V_iconst (v := 1) C dX10_came_12 (by decide) ?_
  obtain ⟨x7, e8, h⟩ := h_b1_some h
  refine V_iald C dX10_came_13 e8 ?_
  refine V_istore_n (lv' := [(2, .int x7), (1, .int x3), (0, va_rf a0)]) C dX10_came_14 rfl (by decide) rfl ?_
  refine V_aload_n C 2 dX10_came_15 rfl rfl ?_
  obtain ⟨x9, e10, h⟩ := h_b1_some h
  refine V_getR C fl_RX10_112 dX10_came_16 e10 ?_
  refine V_iconst (v := 2) C dX10_came_19 (by decide) ?_
  obtain ⟨x11, e12, h⟩ := h_b1_some h
  refine V_iald C dX10_came_20 e12 ?_
  refine V_istore_n (lv' := [(3, .int x11), (2, .int x7), (1, .int x3), (0, va_rf a0)]) C dX10_came_21 rfl (by decide) rfl ?_
  refine V_aload_n C 3 dX10_came_22 rfl rfl ?_
  refine V_aload_n C 3 dX10_came_23 rfl rfl ?_
  obtain ⟨x13, e14, h⟩ := h_b1_some h
  refine V_getR C fl_RX10_112 dX10_came_24 e14 ?_
  refine V_iconst (v := 0) C dX10_came_27 (by decide) ?_
  obtain ⟨x15, e16, h⟩ := h_b1_some h
  refine V_iald C dX10_came_28 e16 ?_
  obtain ⟨y20, e21, h⟩ := h_b1_some h
  obtain ⟨r17, s18, e19, h⟩ := h_bd_some h
  refine V_cV (As := [.int x15]) (rest := []) C mv_RX10_147 (m_X10_isSite l D dA bs e19) e21 rfl rfl (Nat.le_trans h_w0 (by decide)) (h_fr B (by decide)) (h_lo B (by decide)) dX10_came_29 ?_
  refine V_if_eq (tgt := 47) C dX10_came_32 (by decide) (fun c22 => ?_) (fun c22 => ?_)
  · rw [if_pos c22] at h
    cases h
    exact V_vret C B dX10_came_47
  · rw [if_neg c22] at h
    refine V_iload_n C 1 dX10_came_35 rfl rfl ?_
    refine V_iconst (v := 1) C dX10_came_36 (by decide) ?_
    refine V_aload_n C 3 dX10_came_37 rfl rfl ?_
    obtain ⟨x23, e24, h⟩ := h_b1_some h
    refine V_getI C fl_RX10_231 dX10_came_38 e24 ?_
    obtain ⟨r25, s26, e27, h⟩ := h_bd_some h
    refine V_cS (As := [.int x7, .int 1, .int x23]) (rest := []) C ms_RX10_120 (m_X10_in l D dA bs e27) rfl rfl (Nat.le_trans h_w0 (by decide)) (h_fr B (by decide)) (h_lo B (by decide)) dX10_came_41 ?_
    refine V_if_ne (tgt := 48) C dX10_came_44 (by decide) (fun c28 => ?_) (fun c28 => ?_)
    · rw [if_neg c28] at h
      refine V_aload_n C 3 dX10_came_48 rfl rfl ?_
      refine V_iload_n C 2 dX10_came_49 rfl rfl ?_
      obtain ⟨y32, e33, h⟩ := h_b1_some h
      obtain ⟨r29, s30, e31, h⟩ := h_bd_some h
      refine V_cV (As := [.int x3]) (rest := []) C mv_RX10_143 (m_X10_siteAt l D dA bs e31) e33 rfl rfl (Nat.le_trans h_w0 (by decide)) (h_fr B (by decide)) (h_lo B (by decide)) dX10_came_50 ?_
      refine V_istore (lv' := [(4, .int r29), (3, .int x11), (2, .int x7), (1, .int x3), (0, va_rf a0)]) C dX10_came_53 (by decide) rfl ?_
      refine V_iload C 0 dX10_came_55 rfl ?_
      refine V_iconst (v := (-1)) C dX10_came_57 (by decide) ?_
      refine V_icmp_ne (tgt := 88) C dX10_came_58 (by decide) (fun c34 => ?_) (fun c34 => ?_)
      · rw [if_neg c34] at h
        exact V_sub [4, 3, 2, 1, 0] rfl (jw_X10_came_88 C B s30 a0 x3 x7 x11 r29  h)
      · rw [if_pos c34] at h
        refine V_aload_n C 4 dX10_came_61 rfl rfl ?_
        obtain ⟨x105, e106, h⟩ := h_b1_some h
        refine V_getR C fl_RX10_82 dX10_came_62 e106 ?_
        refine V_iload_n C 3 dX10_came_65 rfl rfl ?_
        obtain ⟨x107, e108, h⟩ := h_b1_some h
        refine V_iald C dX10_came_66 e108 ?_
        refine V_iconst (v := (-1)) C dX10_came_67 (by decide) ?_
        refine V_icmp_eq (tgt := 88) C dX10_came_68 (by decide) (fun c109 => ?_) (fun c109 => ?_)
        · rw [if_pos c109] at h
          exact V_sub [4, 3, 2, 1, 0] rfl (jw_X10_came_88 C B s30 a0 x3 x7 x11 r29  h)
        · rw [if_neg c109] at h
          refine V_aload_n C 4 dX10_came_71 rfl rfl ?_
          obtain ⟨x110, e111, h⟩ := h_b1_some h
          refine V_getI C fl_RX10_150 dX10_came_72 e111 ?_
          refine V_aload_n C 4 dX10_came_75 rfl rfl ?_
          obtain ⟨x112, e113, h⟩ := h_b1_some h
          refine V_getR C fl_RX10_85 dX10_came_76 e113 ?_
          refine V_iload_n C 3 dX10_came_79 rfl rfl ?_
          obtain ⟨x114, e115, h⟩ := h_b1_some h
          refine V_iald C dX10_came_80 e115 ?_
          refine V_icmp_ge (tgt := 88) C dX10_came_81 (by decide) (fun c116 => ?_) (fun c116 => ?_)
          · rw [if_pos c116] at h
            exact V_sub [4, 3, 2, 1, 0] rfl (jw_X10_came_88 C B s30 a0 x3 x7 x11 r29  h)
          · rw [if_neg c116] at h
            refine V_iconst (v := 1) C dX10_came_84 (by decide) ?_
            refine V_goto (tgt := 89) C dX10_came_85 (by decide) ?_
            exact V_sub [4, 3, 2, 1, 0] rfl (jw_X10_came_89 C B s30 a0 x3 x7 x11 r29 1 h)
    · rw [if_pos c28] at h
      cases h
      exact V_vret C B dX10_came_47
