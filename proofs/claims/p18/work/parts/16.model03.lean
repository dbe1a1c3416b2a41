/-! X10_noteFor -/
theorem dX10_noteFor_0 : decode cX10_noteFor 0 = .ok (.bipush 6, 2) := by decide +kernel
theorem dX10_noteFor_2 : decode cX10_noteFor 2 = .ok (.iload_n 1, 1) := by decide +kernel
theorem dX10_noteFor_3 : decode cX10_noteFor 3 = .ok (.imul, 1) := by decide +kernel
theorem dX10_noteFor_4 : decode cX10_noteFor 4 = .ok (.istore_n 3, 1) := by decide +kernel
theorem dX10_noteFor_5 : decode cX10_noteFor 5 = .ok (.iload_n 3, 1) := by decide +kernel
theorem dX10_noteFor_6 : decode cX10_noteFor 6 = .ok (.bipush 6, 2) := by decide +kernel
theorem dX10_noteFor_8 : decode cX10_noteFor 8 = .ok (.iload_n 1, 1) := by decide +kernel
theorem dX10_noteFor_9 : decode cX10_noteFor 9 = .ok (.imul, 1) := by decide +kernel
theorem dX10_noteFor_10 : decode cX10_noteFor 10 = .ok (.bipush 6, 2) := by decide +kernel
theorem dX10_noteFor_12 : decode cX10_noteFor 12 = .ok (.iadd, 1) := by decide +kernel
theorem dX10_noteFor_13 : decode cX10_noteFor 13 = .ok (.if_icmp .ge 43, 3) := by decide +kernel
theorem dX10_noteFor_16 : decode cX10_noteFor 16 = .ok (.aload_n 0, 1) := by decide +kernel
theorem dX10_noteFor_17 : decode cX10_noteFor 17 = .ok (.getfield 76, 3) := by decide +kernel
theorem dX10_noteFor_20 : decode cX10_noteFor 20 = .ok (.iload_n 3, 1) := by decide +kernel
theorem dX10_noteFor_21 : decode cX10_noteFor 21 = .ok (.iaload, 1) := by decide +kernel
theorem dX10_noteFor_22 : decode cX10_noteFor 22 = .ok (.aload_n 0, 1) := by decide +kernel
theorem dX10_noteFor_23 : decode cX10_noteFor 23 = .ok (.getfield 150, 3) := by decide +kernel
theorem dX10_noteFor_26 : decode cX10_noteFor 26 = .ok (.if_icmp .le 24, 3) := by decide +kernel
theorem dX10_noteFor_29 : decode cX10_noteFor 29 = .ok (.aload_n 0, 1) := by decide +kernel
theorem dX10_noteFor_30 : decode cX10_noteFor 30 = .ok (.getfield 64, 3) := by decide +kernel
theorem dX10_noteFor_33 : decode cX10_noteFor 33 = .ok (.iload_n 3, 1) := by decide +kernel
theorem dX10_noteFor_34 : decode cX10_noteFor 34 = .ok (.iaload, 1) := by decide +kernel
theorem dX10_noteFor_35 : decode cX10_noteFor 35 = .ok (.iload_n 2, 1) := by decide +kernel
theorem dX10_noteFor_36 : decode cX10_noteFor 36 = .ok (.aload_n 0, 1) := by decide +kernel
theorem dX10_noteFor_37 : decode cX10_noteFor 37 = .ok (.getfield 67, 3) := by decide +kernel
theorem dX10_noteFor_40 : decode cX10_noteFor 40 = .ok (.iload_n 3, 1) := by decide +kernel
theorem dX10_noteFor_41 : decode cX10_noteFor 41 = .ok (.iaload, 1) := by decide +kernel
theorem dX10_noteFor_42 : decode cX10_noteFor 42 = .ok (.invokestatic 124, 3) := by decide +kernel
theorem dX10_noteFor_45 : decode cX10_noteFor 45 = .ok (.ifCond .eq 5, 3) := by decide +kernel
theorem dX10_noteFor_48 : decode cX10_noteFor 48 = .ok (.iload_n 3, 1) := by decide +kernel
theorem dX10_noteFor_49 : decode cX10_noteFor 49 = .ok (.ireturn, 1) := by decide +kernel
theorem dX10_noteFor_50 : decode cX10_noteFor 50 = .ok (.iinc 3 1, 3) := by decide +kernel
theorem dX10_noteFor_53 : decode cX10_noteFor 53 = .ok (.goto (-48), 3) := by decide +kernel
theorem dX10_noteFor_56 : decode cX10_noteFor 56 = .ok (.iconst (-1), 1) := by decide +kernel
theorem dX10_noteFor_57 : decode cX10_noteFor 57 = .ok (.ireturn, 1) := by decide +kernel
def g_X10_noteFor_5 : Nat → HS → Option Nat → Int32 → Int32 → Int32 → Option (Int32 × HS)
  | 0, _, _, _, _, _ => none
  | n + 1, σ, l0, l1, l2, l3 =>
    if ((6 * l1) + 6) ≤ l3 then
      some ((-1), σ)
    else
      h_b1 (h_gR σ l0 11 23) fun x2 =>
      h_b1 (h_aI σ x2 100 l3) fun x4 =>
      h_b1 (h_gI σ l0 11 1) fun x6 =>
      if x4 ≤ x6 then
        g_X10_noteFor_5 n σ l0 l1 l2 (l3 + 1)
      else
        h_b1 (h_gR σ l0 11 19) fun x9 =>
        h_b1 (h_aI σ x9 100 l3) fun x11 =>
        h_b1 (h_gR σ l0 11 20) fun x13 =>
        h_b1 (h_aI σ x13 100 l3) fun x15 =>
        h_bd (f_X10_begin σ x11 l2 x15) fun r17 s18 =>
        if r17 = 0 then
          g_X10_noteFor_5 n s18 l0 l1 l2 (l3 + 1)
        else
          some (l3, s18)
def f_X10_noteFor (σ : HS) (a0 : Option Nat) (a1 : Int32) (a2 : Int32) : Option (Int32 × HS) :=
  g_X10_noteFor_5 h_hN σ a0 a1 a2 (6 * a1)
set_option maxHeartbeats 4000000 in
set_option maxRecDepth 100000 in
theorem w_X10_noteFor_5 {p : Program} {l : Launch} {e : Env} {R : Room} {s : State} {m : MethodId} {args : Array Value} {below : List Frame} {meth : Method} {c : Code} {D : va_G} {dA : Nat → ClassId} {bs : Nat} (C : h_C p m c cX10_noteFor 4 s args RX10 D dA) {σ0 : HS} (B : h_B R s meth σ0 (some .int) 1 22) {σ' : HS} {r : Int32} : ∀ (n : Nat) (σ : HS) (l0 : Option Nat) (l1 : Int32) (l2 : Int32) (l3 : Int32), g_X10_noteFor_5 n σ l0 l1 l2 l3 = some (r, σ') → V p l e R s m args below meth c D dA bs 4 (MQ below (h_Q D dA bs (some (.int r)) σ0 σ') args s R.cells R.slots (fun q => bs ≤ q)) σ 5 [(0, va_rf l0), (1, .int l1), (2, .int l2), (3, .int l3)] [] := by
  intro n
  induction n with
  | zero =>
    intro σ l0 l1 l2 l3 h
    rw [g_X10_noteFor_5] at h
    cases h
  | succ n ih =>
    intro σ l0 l1 l2 l3 h
    rw [g_X10_noteFor_5] at h
    refine V_iload_n C 3 dX10_noteFor_5 rfl rfl ?_
    refine V_bipush (v := 6) C dX10_noteFor_6 (by decide) ?_
    refine V_iload_n C 1 dX10_noteFor_8 rfl rfl ?_
    refine V_imul C dX10_noteFor_9 ?_
    refine V_bipush (v := 6) C dX10_noteFor_10 (by decide) ?_
    refine V_iadd C dX10_noteFor_12 ?_
    refine V_icmp_ge (tgt := 56) C dX10_noteFor_13 (by decide) (fun c1 => ?_) (fun c1 => ?_)
    · rw [if_pos c1] at h
      refine V_iconst (v := (-1)) C dX10_noteFor_56 (by decide) ?_
      cases h
      exact V_iret C B dX10_noteFor_57
    · rw [if_neg c1] at h
      refine V_aload_n C 0 dX10_noteFor_16 rfl rfl ?_
      obtain ⟨x2, e3, h⟩ := h_b1_some h
      refine V_getR C fl_RX10_76 dX10_noteFor_17 e3 ?_
      refine V_iload_n C 3 dX10_noteFor_20 rfl rfl ?_
      obtain ⟨x4, e5, h⟩ := h_b1_some h
      refine V_iald C dX10_noteFor_21 e5 ?_
      refine V_aload_n C 0 dX10_noteFor_22 rfl rfl ?_
      obtain ⟨x6, e7, h⟩ := h_b1_some h
      refine V_getI C fl_RX10_150 dX10_noteFor_23 e7 ?_
      refine V_icmp_le (tgt := 50) C dX10_noteFor_26 (by decide) (fun c8 => ?_) (fun c8 => ?_)
      · rw [if_pos c8] at h
        refine V_iinc (v := (l3 + 1)) (lv' := [(3, .int (l3 + 1)), (0, va_rf l0), (1, .int l1), (2, .int l2)]) C 3 dX10_noteFor_50 rfl rfl (by decide) rfl ?_
        refine V_goto (tgt := 5) C dX10_noteFor_53 (by decide) ?_
        exact V_sub [1, 2, 3, 0] rfl (ih σ l0 l1 l2 (l3 + 1) h)
      · rw [if_neg c8] at h
        refine V_aload_n C 0 dX10_noteFor_29 rfl rfl ?_
        obtain ⟨x9, e10, h⟩ := h_b1_some h
        refine V_getR C fl_RX10_64 dX10_noteFor_30 e10 ?_
        refine V_iload_n C 3 dX10_noteFor_33 rfl rfl ?_
        obtain ⟨x11, e12, h⟩ := h_b1_some h
        refine V_iald C dX10_noteFor_34 e12 ?_
        refine V_iload_n C 2 dX10_noteFor_35 rfl rfl ?_
        refine V_aload_n C 0 dX10_noteFor_36 rfl rfl ?_
        obtain ⟨x13, e14, h⟩ := h_b1_some h
        refine V_getR C fl_RX10_67 dX10_noteFor_37 e14 ?_
        refine V_iload_n C 3 dX10_noteFor_40 rfl rfl ?_
        obtain ⟨x15, e16, h⟩ := h_b1_some h
        refine V_iald C dX10_noteFor_41 e16 ?_
        obtain ⟨r17, s18, e19, h⟩ := h_bd_some h
        refine V_cS (As := [.int x11, .int l2, .int x15]) (rest := []) C ms_RX10_124 (m_X10_begin l D dA bs e19) rfl rfl (Nat.le_trans h_w0 (by decide)) (h_fr B (by decide)) (h_lo B (by decide)) dX10_noteFor_42 ?_
        refine V_if_eq (tgt := 50) C dX10_noteFor_45 (by decide) (fun c20 => ?_) (fun c20 => ?_)
        · rw [if_pos c20] at h
          refine V_iinc (v := (l3 + 1)) (lv' := [(3, .int (l3 + 1)), (0, va_rf l0), (1, .int l1), (2, .int l2)]) C 3 dX10_noteFor_50 rfl rfl (by decide) rfl ?_
          refine V_goto (tgt := 5) C dX10_noteFor_53 (by decide) ?_
          exact V_sub [1, 2, 3, 0] rfl (ih s18 l0 l1 l2 (l3 + 1) h)
        · rw [if_neg c20] at h
          refine V_iload_n C 3 dX10_noteFor_48 rfl rfl ?_
          cases h
          exact V_iret C B dX10_noteFor_49
set_option maxHeartbeats 4000000 in
set_option maxRecDepth 100000 in
theorem m_X10_noteFor (l : Launch) (D : va_G) (dA : Nat → ClassId) (bs : Nat) {σ σ' : HS} {a0 : Option Nat} {a1 : Int32} {a2 : Int32} {r : Int32} (h : f_X10_noteFor σ a0 a1 a2 = some (r, σ')) : MetC l yX10_noteFor cX10_noteFor 4 (some .int) 1 22 D dA bs [va_rf a0, .int a1, .int a2] (some (.int r)) σ σ' := by
  refine MetC.of (by decide) (h_avR (h_avI (h_avI h_av0))) (Nat.le_of_ble_eq_true rfl) ?_
  intro p e R s m args below meth c C B hnm
  unfold f_X10_noteFor at h
  refine V_sub (lv' := [(0, va_rf a0), (1, .int a1), (2, .int a2)]) [0, 1, 2] rfl ?_
  refine V_bipush (v := 6) C dX10_noteFor_0 (by decide) ?_
  refine V_iload_n C 1 dX10_noteFor_2 rfl rfl ?_
  refine V_imul C dX10_noteFor_3 ?_
  refine V_istore_n (lv' := [(3, .int (6 * a1)), (0, va_rf a0), (1, .int a1), (2, .int a2)]) C dX10_noteFor_4 rfl (by decide) rfl ?_
  exact V_sub [1, 2, 3, 0] rfl (w_X10_noteFor_5 C B h_hN σ a0 a1 a2 (6 * a1) h)
/-! X10_forget -/
theorem dX10_forget_0 : decode cX10_forget 0 = .ok (.aload_n 0, 1) := by decide +kernel
theorem dX10_forget_1 : decode cX10_forget 1 = .ok (.iload_n 1, 1) := by decide +kernel
theorem dX10_forget_2 : decode cX10_forget 2 = .ok (.iload_n 2, 1) := by decide +kernel
theorem dX10_forget_3 : decode cX10_forget 3 = .ok (.invokevirtual 222, 3) := by decide +kernel
theorem dX10_forget_6 : decode cX10_forget 6 = .ok (.istore 4, 2) := by decide +kernel
theorem dX10_forget_8 : decode cX10_forget 8 = .ok (.iload 4, 2) := by decide +kernel
theorem dX10_forget_10 : decode cX10_forget 10 = .ok (.iconst (-1), 1) := by decide +kernel
theorem dX10_forget_11 : decode cX10_forget 11 = .ok (.if_icmp .eq 22, 3) := by decide +kernel
theorem dX10_forget_14 : decode cX10_forget 14 = .ok (.aload_n 0, 1) := by decide +kernel
theorem dX10_forget_15 : decode cX10_forget 15 = .ok (.getfield 70, 3) := by decide +kernel
theorem dX10_forget_18 : decode cX10_forget 18 = .ok (.iload 4, 2) := by decide +kernel
theorem dX10_forget_20 : decode cX10_forget 20 = .ok (.iaload, 1) := by decide +kernel
theorem dX10_forget_21 : decode cX10_forget 21 = .ok (.iload_n 3, 1) := by decide +kernel
theorem dX10_forget_22 : decode cX10_forget 22 = .ok (.if_icmp .ne 11, 3) := by decide +kernel
theorem dX10_forget_25 : decode cX10_forget 25 = .ok (.aload_n 0, 1) := by decide +kernel
theorem dX10_forget_26 : decode cX10_forget 26 = .ok (.getfield 76, 3) := by decide +kernel
theorem dX10_forget_29 : decode cX10_forget 29 = .ok (.iload 4, 2) := by decide +kernel
theorem dX10_forget_31 : decode cX10_forget 31 = .ok (.iconst 0, 1) := by decide +kernel
theorem dX10_forget_32 : decode cX10_forget 32 = .ok (.iastore, 1) := by decide +kernel
theorem dX10_forget_33 : decode cX10_forget 33 = .ok (.return_, 1) := by decide +kernel
def f_X10_forget (σ : HS) (a0 : Option Nat) (a1 : Int32) (a2 : Int32) (a3 : Int32) : Option (Unit × HS) :=
  h_b1 (h_rcv σ a0 11) fun y4 =>
  h_bd (f_X10_noteFor σ a0 a1 a2) fun r1 s2 =>
  if r1 = (-1) then
    some ((), s2)
  else
    h_b1 (h_gR s2 a0 11 21) fun x7 =>
    h_b1 (h_aI s2 x7 100 r1) fun x9 =>
    if x9 = a3 then
      h_b1 (h_gR s2 a0 11 23) fun x12 =>
      h_b1 (h_sI s2 x12 100 r1 0) fun s14 =>
      some ((), s14)
    else
      some ((), s2)
set_option maxHeartbeats 4000000 in
set_option maxRecDepth 100000 in
theorem m_X10_forget (l : Launch) (D : va_G) (dA : Nat → ClassId) (bs : Nat) {σ σ' : HS} {a0 : Option Nat} {a1 : Int32} {a2 : Int32} {a3 : Int32} (h : f_X10_forget σ a0 a1 a2 a3 = some ((), σ')) : MetC l yX10_forget cX10_forget 5 none 2 45 D dA bs [va_rf a0, .int a1, .int a2, .int a3] none σ σ' := by
  refine MetC.of (by decide) (h_avR (h_avI (h_avI (h_avI h_av0)))) (Nat.le_of_ble_eq_true rfl) ?_
  intro p e R s m args below meth c C B hnm
  unfold f_X10_forget at h
  refine V_sub (lv' := [(0, va_rf a0), (1, .int a1), (2, .int a2), (3, .int a3)]) [0, 1, 2, 3] rfl ?_
  refine V_aload_n C 0 dX10_forget_0 rfl rfl ?_
  refine V_iload_n C 1 dX10_forget_1 rfl rfl ?_
  refine V_iload_n C 2 dX10_forget_2 rfl rfl ?_
  obtain ⟨y4, e5, h⟩ := h_b1_some h
  obtain ⟨r1, s2, e3, h⟩ := h_bd_some h
  refine V_cV (As := [.int a1, .int a2]) (rest := []) C mv_RX10_222 (m_X10_noteFor l D dA bs e3) e5 rfl rfl (Nat.le_trans h_w0 (by decide)) (h_fr B (by decide)) (h_lo B (by decide)) dX10_forget_3 ?_
  refine V_istore (lv' := [(4, .int r1), (0, va_rf a0), (1, .int a1), (2, .int a2), (3, .int a3)]) C dX10_forget_6 (by decide) rfl ?_
  refine V_iload C 0 dX10_forget_8 rfl ?_
  refine V_iconst (v := (-1)) C dX10_forget_10 (by decide) ?_
  refine V_icmp_eq (tgt := 33) C dX10_forget_11 (by decide) (fun c6 => ?_) (fun c6 => ?_)
  · rw [if_pos c6] at h
    cases h
    exact V_vret C B dX10_forget_33
  · rw [if_neg c6] at h
    refine V_aload_n C 1 dX10_forget_14 rfl rfl ?_
    obtain ⟨x7, e8, h⟩ := h_b1_some h
    refine V_getR C fl_RX10_70 dX10_forget_15 e8 ?_
    refine V_iload C 0 dX10_forget_18 rfl ?_
    obtain ⟨x9, e10, h⟩ := h_b1_some h
    refine V_iald C dX10_forget_20 e10 ?_
    refine V_iload_n C 4 dX10_forget_21 rfl rfl ?_
    refine V_icmp_ne (tgt := 33) C dX10_forget_22 (by decide) (fun c11 => ?_) (fun c11 => ?_)
    · rw [if_neg c11] at h
      cases h
      exact V_vret C B dX10_forget_33
    · rw [if_pos c11] at h
      refine V_aload_n C 1 dX10_forget_25 rfl rfl ?_
      obtain ⟨x12, e13, h⟩ := h_b1_some h
      refine V_getR C fl_RX10_76 dX10_forget_26 e13 ?_
      refine V_iload C 0 dX10_forget_29 rfl ?_
      refine V_iconst (v := 0) C dX10_forget_31 (by decide) ?_
      obtain ⟨s14, e15, h⟩ := h_b1_some h
      refine V_iast C dX10_forget_32 e15 ?_
      cases h
      exact V_vret C B dX10_forget_33
/-! X10_emptyEntry -/
theorem dX10_emptyEntry_0 : decode cX10_emptyEntry 0 = .ok (.bipush 16, 2) := by decide +kernel
theorem dX10_emptyEntry_2 : decode cX10_emptyEntry 2 = .ok (.iload_n 1, 1) := by decide +kernel
theorem dX10_emptyEntry_3 : decode cX10_emptyEntry 3 = .ok (.imul, 1) := by decide +kernel
theorem dX10_emptyEntry_4 : decode cX10_emptyEntry 4 = .ok (.istore_n 2, 1) := by decide +kernel
theorem dX10_emptyEntry_5 : decode cX10_emptyEntry 5 = .ok (.iload_n 2, 1) := by decide +kernel
theorem dX10_emptyEntry_6 : decode cX10_emptyEntry 6 = .ok (.bipush 16, 2) := by decide +kernel
theorem dX10_emptyEntry_8 : decode cX10_emptyEntry 8 = .ok (.iload_n 1, 1) := by decide +kernel
theorem dX10_emptyEntry_9 : decode cX10_emptyEntry 9 = .ok (.imul, 1) := by decide +kernel
theorem dX10_emptyEntry_10 : decode cX10_emptyEntry 10 = .ok (.bipush 16, 2) := by decide +kernel
theorem dX10_emptyEntry_12 : decode cX10_emptyEntry 12 = .ok (.iadd, 1) := by decide +kernel
theorem dX10_emptyEntry_13 : decode cX10_emptyEntry 13 = .ok (.if_icmp .ge 24, 3) := by decide +kernel
theorem dX10_emptyEntry_16 : decode cX10_emptyEntry 16 = .ok (.aload_n 0, 1) := by decide +kernel
theorem dX10_emptyEntry_17 : decode cX10_emptyEntry 17 = .ok (.getfield 42, 3) := by decide +kernel
theorem dX10_emptyEntry_20 : decode cX10_emptyEntry 20 = .ok (.iload_n 2, 1) := by decide +kernel
theorem dX10_emptyEntry_21 : decode cX10_emptyEntry 21 = .ok (.iaload, 1) := by decide +kernel
theorem dX10_emptyEntry_22 : decode cX10_emptyEntry 22 = .ok (.aload_n 0, 1) := by decide +kernel
theorem dX10_emptyEntry_23 : decode cX10_emptyEntry 23 = .ok (.getfield 150, 3) := by decide +kernel
theorem dX10_emptyEntry_26 : decode cX10_emptyEntry 26 = .ok (.if_icmp .gt 5, 3) := by decide +kernel
theorem dX10_emptyEntry_29 : decode cX10_emptyEntry 29 = .ok (.iload_n 2, 1) := by decide +kernel
theorem dX10_emptyEntry_30 : decode cX10_emptyEntry 30 = .ok (.ireturn, 1) := by decide +kernel
theorem dX10_emptyEntry_31 : decode cX10_emptyEntry 31 = .ok (.iinc 2 1, 3) := by decide +kernel
theorem dX10_emptyEntry_34 : decode cX10_emptyEntry 34 = .ok (.goto (-29), 3) := by decide +kernel
theorem dX10_emptyEntry_37 : decode cX10_emptyEntry 37 = .ok (.iconst (-1), 1) := by decide +kernel
theorem dX10_emptyEntry_38 : decode cX10_emptyEntry 38 = .ok (.ireturn, 1) := by decide +kernel
def g_X10_emptyEntry_5 : Nat → HS → Option Nat → Int32 → Int32 → Option (Int32 × HS)
  | 0, _, _, _, _ => none
  | n + 1, σ, l0, l1, l2 =>
    if ((16 * l1) + 16) ≤ l2 then
      some ((-1), σ)
    else
      h_b1 (h_gR σ l0 11 12) fun x2 =>
      h_b1 (h_aI σ x2 100 l2) fun x4 =>
      h_b1 (h_gI σ l0 11 1) fun x6 =>
      if x6 < x4 then
        g_X10_emptyEntry_5 n σ l0 l1 (l2 + 1)
      else
        some (l2, σ)
def f_X10_emptyEntry (σ : HS) (a0 : Option Nat) (a1 : Int32) : Option (Int32 × HS) :=
  g_X10_emptyEntry_5 h_hN σ a0 a1 (16 * a1)
set_option maxHeartbeats 4000000 in
set_option maxRecDepth 100000 in
theorem w_X10_emptyEntry_5 {p : Program} {l : Launch} {e : Env} {R : Room} {s : State} {m : MethodId} {args : Array Value} {below : List Frame} {meth : Method} {c : Code} {D : va_G} {dA : Nat → ClassId} {bs : Nat} (C : h_C p m c cX10_emptyEntry 3 s args RX10 D dA) {σ0 : HS} (B : h_B R s meth σ0 (some .int) 0 0) {σ' : HS} {r : Int32} : ∀ (n : Nat) (σ : HS) (l0 : Option Nat) (l1 : Int32) (l2 : Int32), g_X10_emptyEntry_5 n σ l0 l1 l2 = some (r, σ') → V p l e R s m args below meth c D dA bs 3 (MQ below (h_Q D dA bs (some (.int r)) σ0 σ') args s R.cells R.slots (fun q => bs ≤ q)) σ 5 [(0, va_rf l0), (1, .int l1), (2, .int l2)] [] := by
  intro n
  induction n with
  | zero =>
    intro σ l0 l1 l2 h
    rw [g_X10_emptyEntry_5] at h
    cases h
  | succ n ih =>
    intro σ l0 l1 l2 h
    rw [g_X10_emptyEntry_5] at h
    refine V_iload_n C 2 dX10_emptyEntry_5 rfl rfl ?_
    refine V_bipush (v := 16) C dX10_emptyEntry_6 (by decide) ?_
    refine V_iload_n C 1 dX10_emptyEntry_8 rfl rfl ?_
    refine V_imul C dX10_emptyEntry_9 ?_
    refine V_bipush (v := 16) C dX10_emptyEntry_10 (by decide) ?_
    refine V_iadd C dX10_emptyEntry_12 ?_
    refine V_icmp_ge (tgt := 37) C dX10_emptyEntry_13 (by decide) (fun c1 => ?_) (fun c1 => ?_)
    · rw [if_pos c1] at h
      refine V_iconst (v := (-1)) C dX10_emptyEntry_37 (by decide) ?_
      cases h
      exact V_iret C B dX10_emptyEntry_38
    · rw [if_neg c1] at h
      refine V_aload_n C 0 dX10_emptyEntry_16 rfl rfl ?_
      obtain ⟨x2, e3, h⟩ := h_b1_some h
      refine V_getR C fl_RX10_42 dX10_emptyEntry_17 e3 ?_
      refine V_iload_n C 2 dX10_emptyEntry_20 rfl rfl ?_
      obtain ⟨x4, e5, h⟩ := h_b1_some h
      refine V_iald C dX10_emptyEntry_21 e5 ?_
      refine V_aload_n C 0 dX10_emptyEntry_22 rfl rfl ?_
      obtain ⟨x6, e7, h⟩ := h_b1_some h
      refine V_getI C fl_RX10_150 dX10_emptyEntry_23 e7 ?_
      refine V_icmp_gt (tgt := 31) C dX10_emptyEntry_26 (by decide) (fun c8 => ?_) (fun c8 => ?_)
      · rw [if_pos c8] at h
        refine V_iinc (v := (l2 + 1)) (lv' := [(2, .int (l2 + 1)), (0, va_rf l0), (1, .int l1)]) C 2 dX10_emptyEntry_31 rfl rfl (by decide) rfl ?_
        refine V_goto (tgt := 5) C dX10_emptyEntry_34 (by decide) ?_
        exact V_sub [1, 2, 0] rfl (ih σ l0 l1 (l2 + 1) h)
      · rw [if_neg c8] at h
        refine V_iload_n C 2 dX10_emptyEntry_29 rfl rfl ?_
        cases h
        exact V_iret C B dX10_emptyEntry_30
set_option maxHeartbeats 4000000 in
set_option maxRecDepth 100000 in
theorem m_X10_emptyEntry (l : Launch) (D : va_G) (dA : Nat → ClassId) (bs : Nat) {σ σ' : HS} {a0 : Option Nat} {a1 : Int32} {r : Int32} (h : f_X10_emptyEntry σ a0 a1 = some (r, σ')) : MetC l yX10_emptyEntry cX10_emptyEntry 3 (some .int) 0 0 D dA bs [va_rf a0, .int a1] (some (.int r)) σ σ' := by
  refine MetC.of (by decide) (h_avR (h_avI h_av0)) (Nat.le_of_ble_eq_true rfl) ?_
  intro p e R s m args below meth c C B hnm
  unfold f_X10_emptyEntry at h
  refine V_sub (lv' := [(0, va_rf a0), (1, .int a1)]) [0, 1] rfl ?_
  refine V_bipush (v := 16) C dX10_emptyEntry_0 (by decide) ?_
  refine V_iload_n C 1 dX10_emptyEntry_2 rfl rfl ?_
  refine V_imul C dX10_emptyEntry_3 ?_
  refine V_istore_n (lv' := [(2, .int (16 * a1)), (0, va_rf a0), (1, .int a1)]) C dX10_emptyEntry_4 rfl (by decide) rfl ?_
  exact V_sub [1, 2, 0] rfl (w_X10_emptyEntry_5 C B h_hN σ a0 a1 (16 * a1) h)
/-! X10_entryFor -/
theorem dX10_entryFor_0 : decode cX10_entryFor 0 = .ok (.bipush 16, 2) := by decide +kernel
theorem dX10_entryFor_2 : decode cX10_entryFor 2 = .ok (.iload_n 1, 1) := by decide +kernel
theorem dX10_entryFor_3 : decode cX10_entryFor 3 = .ok (.imul, 1) := by decide +kernel
theorem dX10_entryFor_4 : decode cX10_entryFor 4 = .ok (.istore 4, 2) := by decide +kernel
theorem dX10_entryFor_6 : decode cX10_entryFor 6 = .ok (.iload 4, 2) := by decide +kernel
theorem dX10_entryFor_8 : decode cX10_entryFor 8 = .ok (.bipush 16, 2) := by decide +kernel
theorem dX10_entryFor_10 : decode cX10_entryFor 10 = .ok (.iload_n 1, 1) := by decide +kernel
theorem dX10_entryFor_11 : decode cX10_entryFor 11 = .ok (.imul, 1) := by decide +kernel
theorem dX10_entryFor_12 : decode cX10_entryFor 12 = .ok (.bipush 16, 2) := by decide +kernel
theorem dX10_entryFor_14 : decode cX10_entryFor 14 = .ok (.iadd, 1) := by decide +kernel
theorem dX10_entryFor_15 : decode cX10_entryFor 15 = .ok (.if_icmp .ge 48, 3) := by decide +kernel
theorem dX10_entryFor_18 : decode cX10_entryFor 18 = .ok (.aload_n 0, 1) := by decide +kernel
theorem dX10_entryFor_19 : decode cX10_entryFor 19 = .ok (.getfield 42, 3) := by decide +kernel
theorem dX10_entryFor_22 : decode cX10_entryFor 22 = .ok (.iload 4, 2) := by decide +kernel
theorem dX10_entryFor_24 : decode cX10_entryFor 24 = .ok (.iaload, 1) := by decide +kernel
theorem dX10_entryFor_25 : decode cX10_entryFor 25 = .ok (.aload_n 0, 1) := by decide +kernel
theorem dX10_entryFor_26 : decode cX10_entryFor 26 = .ok (.getfield 150, 3) := by decide +kernel
theorem dX10_entryFor_29 : decode cX10_entryFor 29 = .ok (.if_icmp .le 28, 3) := by decide +kernel
theorem dX10_entryFor_32 : decode cX10_entryFor 32 = .ok (.aload_n 0, 1) := by decide +kernel
theorem dX10_entryFor_33 : decode cX10_entryFor 33 = .ok (.getfield 27, 3) := by decide +kernel
theorem dX10_entryFor_36 : decode cX10_entryFor 36 = .ok (.iload 4, 2) := by decide +kernel
theorem dX10_entryFor_38 : decode cX10_entryFor 38 = .ok (.iaload, 1) := by decide +kernel
theorem dX10_entryFor_39 : decode cX10_entryFor 39 = .ok (.iload_n 2, 1) := by decide +kernel
theorem dX10_entryFor_40 : decode cX10_entryFor 40 = .ok (.if_icmp .ne 17, 3) := by decide +kernel
theorem dX10_entryFor_43 : decode cX10_entryFor 43 = .ok (.aload_n 0, 1) := by decide +kernel
theorem dX10_entryFor_44 : decode cX10_entryFor 44 = .ok (.getfield 30, 3) := by decide +kernel
theorem dX10_entryFor_47 : decode cX10_entryFor 47 = .ok (.iload 4, 2) := by decide +kernel
theorem dX10_entryFor_49 : decode cX10_entryFor 49 = .ok (.iaload, 1) := by decide +kernel
theorem dX10_entryFor_50 : decode cX10_entryFor 50 = .ok (.iload_n 3, 1) := by decide +kernel
theorem dX10_entryFor_51 : decode cX10_entryFor 51 = .ok (.if_icmp .ne 6, 3) := by decide +kernel
theorem dX10_entryFor_54 : decode cX10_entryFor 54 = .ok (.iload 4, 2) := by decide +kernel
theorem dX10_entryFor_56 : decode cX10_entryFor 56 = .ok (.ireturn, 1) := by decide +kernel
theorem dX10_entryFor_57 : decode cX10_entryFor 57 = .ok (.iinc 4 1, 3) := by decide +kernel
theorem dX10_entryFor_60 : decode cX10_entryFor 60 = .ok (.goto (-54), 3) := by decide +kernel
theorem dX10_entryFor_63 : decode cX10_entryFor 63 = .ok (.iconst (-1), 1) := by decide +kernel
theorem dX10_entryFor_64 : decode cX10_entryFor 64 = .ok (.ireturn, 1) := by decide +kernel
def g_X10_entryFor_6 : Nat → HS → Option Nat → Int32 → Int32 → Int32 → Int32 → Option (Int32 × HS)
  | 0, _, _, _, _, _, _ => none
  | n + 1, σ, l0, l1, l2, l3, l4 =>
    if ((16 * l1) + 16) ≤ l4 then
      some ((-1), σ)
    else
      h_b1 (h_gR σ l0 11 12) fun x2 =>
      h_b1 (h_aI σ x2 100 l4) fun x4 =>
      h_b1 (h_gI σ l0 11 1) fun x6 =>
      if x4 ≤ x6 then
        g_X10_entryFor_6 n σ l0 l1 l2 l3 (l4 + 1)
      else
        h_b1 (h_gR σ l0 11 7) fun x9 =>
        h_b1 (h_aI σ x9 100 l4) fun x11 =>
        if x11 = l2 then
          h_b1 (h_gR σ l0 11 8) fun x14 =>
          h_b1 (h_aI σ x14 100 l4) fun x16 =>
          if x16 = l3 then
            some (l4, σ)
          else
            g_X10_entryFor_6 n σ l0 l1 l2 l3 (l4 + 1)
        else
          g_X10_entryFor_6 n σ l0 l1 l2 l3 (l4 + 1)
def f_X10_entryFor (σ : HS) (a0 : Option Nat) (a1 : Int32) (a2 : Int32) (a3 : Int32) : Option (Int32 × HS) :=
  g_X10_entryFor_6 h_hN σ a0 a1 a2 a3 (16 * a1)
set_option maxHeartbeats 4000000 in
set_option maxRecDepth 100000 in
theorem w_X10_entryFor_6 {p : Program} {l : Launch} {e : Env} {R : Room} {s : State} {m : MethodId} {args : Array Value} {below : List Frame} {meth : Method} {c : Code} {D : va_G} {dA : Nat → ClassId} {bs : Nat} (C : h_C p m c cX10_entryFor 5 s args RX10 D dA) {σ0 : HS} (B : h_B R s meth σ0 (some .int) 0 0) {σ' : HS} {r : Int32} : ∀ (n : Nat) (σ : HS) (l0 : Option Nat) (l1 : Int32) (l2 : Int32) (l3 : Int32) (l4 : Int32), g_X10_entryFor_6 n σ l0 l1 l2 l3 l4 = some (r, σ') → V p l e R s m args below meth c D dA bs 5 (MQ below (h_Q D dA bs (some (.int r)) σ0 σ') args s R.cells R.slots (fun q => bs ≤ q)) σ 6 [(0, va_rf l0), (1, .int l1), (2, .int l2), (3, .int l3), (4, .int l4)] [] := by
  intro n
  induction n with
  | zero =>
    intro σ l0 l1 l2 l3 l4 h
    rw [g_X10_entryFor_6] at h
    cases h
  | succ n ih =>
    intro σ l0 l1 l2 l3 l4 h
    rw [g_X10_entryFor_6] at h
    refine V_iload C 4 dX10_entryFor_6 rfl ?_
    refine V_bipush (v := 16) C dX10_entryFor_8 (by decide) ?_
    refine V_iload_n C 1 dX10_entryFor_10 rfl rfl ?_
    refine V_imul C dX10_entryFor_11 ?_
    refine V_bipush (v := 16) C dX10_entryFor_12 (by decide) ?_
    refine V_iadd C dX10_entryFor_14 ?_
    refine V_icmp_ge (tgt := 63) C dX10_entryFor_15 (by decide) (fun c1 => ?_) (fun c1 => ?_)
    · rw [if_pos c1] at h
      refine V_iconst (v := (-1)) C dX10_entryFor_63 (by decide) ?_
      cases h
      exact V_iret C B dX10_entryFor_64
    · rw [if_neg c1] at h
      refine V_aload_n C 0 dX10_entryFor_18 rfl rfl ?_
      obtain ⟨x2, e3, h⟩ := h_b1_some h
      refine V_getR C fl_RX10_42 dX10_entryFor_19 e3 ?_
      refine V_iload C 4 dX10_entryFor_22 rfl ?_
      obtain ⟨x4, e5, h⟩ := h_b1_some h
      refine V_iald C dX10_entryFor_24 e5 ?_
      refine V_aload_n C 0 dX10_entryFor_25 rfl rfl ?_
      obtain ⟨x6, e7, h⟩ := h_b1_some h
      refine V_getI C fl_RX10_150 dX10_entryFor_26 e7 ?_
      refine V_icmp_le (tgt := 57) C dX10_entryFor_29 (by decide) (fun c8 => ?_) (fun c8 => ?_)
      · rw [if_pos c8] at h
        refine V_iinc (v := (l4 + 1)) (lv' := [(4, .int (l4 + 1)), (0, va_rf l0), (1, .int l1), (2, .int l2), (3, .int l3)]) C 4 dX10_entryFor_57 rfl rfl (by decide) rfl ?_
        refine V_goto (tgt := 6) C dX10_entryFor_60 (by decide) ?_
        exact V_sub [1, 2, 3, 4, 0] rfl (ih σ l0 l1 l2 l3 (l4 + 1) h)
      · rw [if_neg c8] at h
        refine V_aload_n C 0 dX10_entryFor_32 rfl rfl ?_
        obtain ⟨x9, e10, h⟩ := h_b1_some h
        refine V_getR C fl_RX10_27 dX10_entryFor_33 e10 ?_
        refine V_iload C 4 dX10_entryFor_36 rfl ?_
        obtain ⟨x11, e12, h⟩ := h_b1_some h
        refine V_iald C dX10_entryFor_38 e12 ?_
        refine V_iload_n C 2 dX10_entryFor_39 rfl rfl ?_
        refine V_icmp_ne (tgt := 57) C dX10_entryFor_40 (by decide) (fun c13 => ?_) (fun c13 => ?_)
        · rw [if_neg c13] at h
          refine V_iinc (v := (l4 + 1)) (lv' := [(4, .int (l4 + 1)), (0, va_rf l0), (1, .int l1), (2, .int l2), (3, .int l3)]) C 4 dX10_entryFor_57 rfl rfl (by decide) rfl ?_
          refine V_goto (tgt := 6) C dX10_entryFor_60 (by decide) ?_
          exact V_sub [1, 2, 3, 4, 0] rfl (ih σ l0 l1 l2 l3 (l4 + 1) h)
        · rw [if_pos c13] at h
          refine V_aload_n C 0 dX10_entryFor_43 rfl rfl ?_
          obtain ⟨x14, e15, h⟩ := h_b1_some h
          refine V_getR C fl_RX10_30 dX10_entryFor_44 e15 ?_
          refine V_iload C 4 dX10_entryFor_47 rfl ?_
          obtain ⟨x16, e17, h⟩ := h_b1_some h
          refine V_iald C dX10_entryFor_49 e17 ?_
          refine V_iload_n C 3 dX10_entryFor_50 rfl rfl ?_
          refine V_icmp_ne (tgt := 57) C dX10_entryFor_51 (by decide) (fun c18 => ?_) (fun c18 => ?_)
          · rw [if_neg c18] at h
            refine V_iinc (v := (l4 + 1)) (lv' := [(4, .int (l4 + 1)), (0, va_rf l0), (1, .int l1), (2, .int l2), (3, .int l3)]) C 4 dX10_entryFor_57 rfl rfl (by decide) rfl ?_
            refine V_goto (tgt := 6) C dX10_entryFor_60 (by decide) ?_
            exact V_sub [1, 2, 3, 4, 0] rfl (ih σ l0 l1 l2 l3 (l4 + 1) h)
          · rw [if_pos c18] at h
            refine V_iload C 4 dX10_entryFor_54 rfl ?_
            cases h
            exact V_iret C B dX10_entryFor_56
set_option maxHeartbeats 4000000 in
set_option maxRecDepth 100000 in
theorem m_X10_entryFor (l : Launch) (D : va_G) (dA : Nat → ClassId) (bs : Nat) {σ σ' : HS} {a0 : Option Nat} {a1 : Int32} {a2 : Int32} {a3 : Int32} {r : Int32} (h : f_X10_entryFor σ a0 a1 a2 a3 = some (r, σ')) : MetC l yX10_entryFor cX10_entryFor 5 (some .int) 0 0 D dA bs [va_rf a0, .int a1, .int a2, .int a3] (some (.int r)) σ σ' := by
  refine MetC.of (by decide) (h_avR (h_avI (h_avI (h_avI h_av0)))) (Nat.le_of_ble_eq_true rfl) ?_
  intro p e R s m args below meth c C B hnm
  unfold f_X10_entryFor at h
  refine V_sub (lv' := [(0, va_rf a0), (1, .int a1), (2, .int a2), (3, .int a3)]) [0, 1, 2, 3] rfl ?_
  refine V_bipush (v := 16) C dX10_entryFor_0 (by decide) ?_
  refine V_iload_n C 1 dX10_entryFor_2 rfl rfl ?_
  refine V_imul C dX10_entryFor_3 ?_
  refine V_istore (lv' := [(4, .int (16 * a1)), (0, va_rf a0), (1, .int a1), (2, .int a2), (3, .int a3)]) C dX10_entryFor_4 (by decide) rfl ?_
  exact V_sub [1, 2, 3, 4, 0] rfl (w_X10_entryFor_6 C B h_hN σ a0 a1 a2 a3 (16 * a1) h)
/-! X10_registered -/
theorem dX10_registered_0 : decode cX10_registered 0 = .ok (.aload_n 0, 1) := by decide +kernel
theorem dX10_registered_1 : decode cX10_registered 1 = .ok (.getfield 112, 3) := by decide +kernel
theorem dX10_registered_4 : decode cX10_registered 4 = .ok (.bipush 7, 2) := by decide +kernel
theorem dX10_registered_6 : decode cX10_registered 6 = .ok (.iaload, 1) := by decide +kernel
theorem dX10_registered_7 : decode cX10_registered 7 = .ok (.istore_n 1, 1) := by decide +kernel
theorem dX10_registered_8 : decode cX10_registered 8 = .ok (.aload_n 0, 1) := by decide +kernel
theorem dX10_registered_9 : decode cX10_registered 9 = .ok (.iload_n 1, 1) := by decide +kernel
theorem dX10_registered_10 : decode cX10_registered 10 = .ok (.invokevirtual 131, 3) := by decide +kernel
theorem dX10_registered_13 : decode cX10_registered 13 = .ok (.ifCond .ne 4, 3) := by decide +kernel
theorem dX10_registered_16 : decode cX10_registered 16 = .ok (.return_, 1) := by decide +kernel
theorem dX10_registered_17 : decode cX10_registered 17 = .ok (.aload_n 0, 1) := by decide +kernel
theorem dX10_registered_18 : decode cX10_registered 18 = .ok (.getfield 112, 3) := by decide +kernel
theorem dX10_registered_21 : decode cX10_registered 21 = .ok (.iconst 0, 1) := by decide +kernel
theorem dX10_registered_22 : decode cX10_registered 22 = .ok (.iaload, 1) := by decide +kernel
theorem dX10_registered_23 : decode cX10_registered 23 = .ok (.istore_n 2, 1) := by decide +kernel
theorem dX10_registered_24 : decode cX10_registered 24 = .ok (.aload_n 0, 1) := by decide +kernel
theorem dX10_registered_25 : decode cX10_registered 25 = .ok (.iload_n 2, 1) := by decide +kernel
theorem dX10_registered_26 : decode cX10_registered 26 = .ok (.invokevirtual 147, 3) := by decide +kernel
theorem dX10_registered_29 : decode cX10_registered 29 = .ok (.ifCond .eq 77, 3) := by decide +kernel
theorem dX10_registered_32 : decode cX10_registered 32 = .ok (.aload_n 0, 1) := by decide +kernel
theorem dX10_registered_33 : decode cX10_registered 33 = .ok (.getfield 112, 3) := by decide +kernel
theorem dX10_registered_36 : decode cX10_registered 36 = .ok (.iconst 3, 1) := by decide +kernel
theorem dX10_registered_37 : decode cX10_registered 37 = .ok (.iaload, 1) := by decide +kernel
theorem dX10_registered_38 : decode cX10_registered 38 = .ok (.iconst 0, 1) := by decide +kernel
theorem dX10_registered_39 : decode cX10_registered 39 = .ok (.bipush 15, 2) := by decide +kernel
theorem dX10_registered_41 : decode cX10_registered 41 = .ok (.invokestatic 120, 3) := by decide +kernel
theorem dX10_registered_44 : decode cX10_registered 44 = .ok (.ifCond .eq 62, 3) := by decide +kernel
theorem dX10_registered_47 : decode cX10_registered 47 = .ok (.aload_n 0, 1) := by decide +kernel
theorem dX10_registered_48 : decode cX10_registered 48 = .ok (.getfield 112, 3) := by decide +kernel
theorem dX10_registered_51 : decode cX10_registered 51 = .ok (.iconst 1, 1) := by decide +kernel
theorem dX10_registered_52 : decode cX10_registered 52 = .ok (.iaload, 1) := by decide +kernel
theorem dX10_registered_53 : decode cX10_registered 53 = .ok (.aload_n 0, 1) := by decide +kernel
theorem dX10_registered_54 : decode cX10_registered 54 = .ok (.getfield 112, 3) := by decide +kernel
theorem dX10_registered_57 : decode cX10_registered 57 = .ok (.iconst 2, 1) := by decide +kernel
theorem dX10_registered_58 : decode cX10_registered 58 = .ok (.iaload, 1) := by decide +kernel
theorem dX10_registered_59 : decode cX10_registered 59 = .ok (.invokestatic 135, 3) := by decide +kernel
theorem dX10_registered_62 : decode cX10_registered 62 = .ok (.ifCond .eq 44, 3) := by decide +kernel
theorem dX10_registered_65 : decode cX10_registered 65 = .ok (.iload_n 2, 1) := by decide +kernel
theorem dX10_registered_66 : decode cX10_registered 66 = .ok (.aload_n 0, 1) := by decide +kernel
theorem dX10_registered_67 : decode cX10_registered 67 = .ok (.getfield 112, 3) := by decide +kernel
theorem dX10_registered_70 : decode cX10_registered 70 = .ok (.iconst 1, 1) := by decide +kernel
theorem dX10_registered_71 : decode cX10_registered 71 = .ok (.iaload, 1) := by decide +kernel
theorem dX10_registered_72 : decode cX10_registered 72 = .ok (.aload_n 0, 1) := by decide +kernel
theorem dX10_registered_73 : decode cX10_registered 73 = .ok (.getfield 112, 3) := by decide +kernel
theorem dX10_registered_76 : decode cX10_registered 76 = .ok (.iconst 2, 1) := by decide +kernel
theorem dX10_registered_77 : decode cX10_registered 77 = .ok (.iaload, 1) := by decide +kernel
theorem dX10_registered_78 : decode cX10_registered 78 = .ok (.aload_n 0, 1) := by decide +kernel
theorem dX10_registered_79 : decode cX10_registered 79 = .ok (.getfield 112, 3) := by decide +kernel
theorem dX10_registered_82 : decode cX10_registered 82 = .ok (.iconst 3, 1) := by decide +kernel
theorem dX10_registered_83 : decode cX10_registered 83 = .ok (.iaload, 1) := by decide +kernel
theorem dX10_registered_84 : decode cX10_registered 84 = .ok (.aload_n 0, 1) := by decide +kernel
theorem dX10_registered_85 : decode cX10_registered 85 = .ok (.getfield 112, 3) := by decide +kernel
theorem dX10_registered_88 : decode cX10_registered 88 = .ok (.iconst 4, 1) := by decide +kernel
theorem dX10_registered_89 : decode cX10_registered 89 = .ok (.iaload, 1) := by decide +kernel
theorem dX10_registered_90 : decode cX10_registered 90 = .ok (.invokestatic 168, 3) := by decide +kernel
theorem dX10_registered_93 : decode cX10_registered 93 = .ok (.aload_n 0, 1) := by decide +kernel
theorem dX10_registered_94 : decode cX10_registered 94 = .ok (.getfield 112, 3) := by decide +kernel
theorem dX10_registered_97 : decode cX10_registered 97 = .ok (.iconst 5, 1) := by decide +kernel
theorem dX10_registered_98 : decode cX10_registered 98 = .ok (.iaload, 1) := by decide +kernel
theorem dX10_registered_99 : decode cX10_registered 99 = .ok (.if_icmp .ne 7, 3) := by decide +kernel
theorem dX10_registered_102 : decode cX10_registered 102 = .ok (.iconst 1, 1) := by decide +kernel
theorem dX10_registered_103 : decode cX10_registered 103 = .ok (.goto 4, 3) := by decide +kernel
theorem dX10_registered_106 : decode cX10_registered 106 = .ok (.iconst 0, 1) := by decide +kernel
theorem dX10_registered_107 : decode cX10_registered 107 = .ok (.istore_n 3, 1) := by decide +kernel
theorem dX10_registered_108 : decode cX10_registered 108 = .ok (.iload_n 3, 1) := by decide +kernel
theorem dX10_registered_109 : decode cX10_registered 109 = .ok (.ifCond .eq 49, 3) := by decide +kernel
theorem dX10_registered_112 : decode cX10_registered 112 = .ok (.aload_n 0, 1) := by decide +kernel
theorem dX10_registered_113 : decode cX10_registered 113 = .ok (.aload_n 0, 1) := by decide +kernel
theorem dX10_registered_114 : decode cX10_registered 114 = .ok (.getfield 112, 3) := by decide +kernel
theorem dX10_registered_117 : decode cX10_registered 117 = .ok (.iconst 1, 1) := by decide +kernel
theorem dX10_registered_118 : decode cX10_registered 118 = .ok (.iaload, 1) := by decide +kernel
theorem dX10_registered_119 : decode cX10_registered 119 = .ok (.aload_n 0, 1) := by decide +kernel
theorem dX10_registered_120 : decode cX10_registered 120 = .ok (.getfield 112, 3) := by decide +kernel
theorem dX10_registered_123 : decode cX10_registered 123 = .ok (.iconst 2, 1) := by decide +kernel
theorem dX10_registered_124 : decode cX10_registered 124 = .ok (.iaload, 1) := by decide +kernel
theorem dX10_registered_125 : decode cX10_registered 125 = .ok (.invokevirtual 139, 3) := by decide +kernel
theorem dX10_registered_128 : decode cX10_registered 128 = .ok (.iload_n 1, 1) := by decide +kernel
theorem dX10_registered_129 : decode cX10_registered 129 = .ok (.if_icmp .ne 29, 3) := by decide +kernel
theorem dX10_registered_132 : decode cX10_registered 132 = .ok (.aload_n 0, 1) := by decide +kernel
theorem dX10_registered_133 : decode cX10_registered 133 = .ok (.getfield 112, 3) := by decide +kernel
theorem dX10_registered_136 : decode cX10_registered 136 = .ok (.iconst 4, 1) := by decide +kernel
theorem dX10_registered_137 : decode cX10_registered 137 = .ok (.iaload, 1) := by decide +kernel
theorem dX10_registered_138 : decode cX10_registered 138 = .ok (.i2l, 1) := by decide +kernel
theorem dX10_registered_139 : decode cX10_registered 139 = .ok (.aload_n 0, 1) := by decide +kernel
theorem dX10_registered_140 : decode cX10_registered 140 = .ok (.getfield 45, 3) := by decide +kernel
theorem dX10_registered_143 : decode cX10_registered 143 = .ok (.bipush 8, 2) := by decide +kernel
theorem dX10_registered_145 : decode cX10_registered 145 = .ok (.iload_n 1, 1) := by decide +kernel
theorem dX10_registered_146 : decode cX10_registered 146 = .ok (.imul, 1) := by decide +kernel
theorem dX10_registered_147 : decode cX10_registered 147 = .ok (.iload_n 2, 1) := by decide +kernel
theorem dX10_registered_148 : decode cX10_registered 148 = .ok (.iadd, 1) := by decide +kernel
theorem dX10_registered_149 : decode cX10_registered 149 = .ok (.laload, 1) := by decide +kernel
theorem dX10_registered_150 : decode cX10_registered 150 = .ok (.lcmp, 1) := by decide +kernel
theorem dX10_registered_151 : decode cX10_registered 151 = .ok (.ifCond .le 7, 3) := by decide +kernel
theorem dX10_registered_154 : decode cX10_registered 154 = .ok (.iconst 1, 1) := by decide +kernel
theorem dX10_registered_155 : decode cX10_registered 155 = .ok (.goto 4, 3) := by decide +kernel
theorem dX10_registered_158 : decode cX10_registered 158 = .ok (.iconst 0, 1) := by decide +kernel
theorem dX10_registered_159 : decode cX10_registered 159 = .ok (.istore_n 3, 1) := by decide +kernel
theorem dX10_registered_160 : decode cX10_registered 160 = .ok (.iload_n 3, 1) := by decide +kernel
theorem dX10_registered_161 : decode cX10_registered 161 = .ok (.ifCond .eq 23, 3) := by decide +kernel
theorem dX10_registered_164 : decode cX10_registered 164 = .ok (.aload_n 0, 1) := by decide +kernel
theorem dX10_registered_165 : decode cX10_registered 165 = .ok (.iload_n 1, 1) := by decide +kernel
theorem dX10_registered_166 : decode cX10_registered 166 = .ok (.aload_n 0, 1) := by decide +kernel
theorem dX10_registered_167 : decode cX10_registered 167 = .ok (.getfield 112, 3) := by decide +kernel
theorem dX10_registered_170 : decode cX10_registered 170 = .ok (.iconst 1, 1) := by decide +kernel
theorem dX10_registered_171 : decode cX10_registered 171 = .ok (.iaload, 1) := by decide +kernel
theorem dX10_registered_172 : decode cX10_registered 172 = .ok (.aload_n 0, 1) := by decide +kernel
theorem dX10_registered_173 : decode cX10_registered 173 = .ok (.getfield 112, 3) := by decide +kernel
theorem dX10_registered_176 : decode cX10_registered 176 = .ok (.iconst 2, 1) := by decide +kernel
theorem dX10_registered_177 : decode cX10_registered 177 = .ok (.iaload, 1) := by decide +kernel
theorem dX10_registered_178 : decode cX10_registered 178 = .ok (.invokevirtual 203, 3) := by decide +kernel
theorem dX10_registered_181 : decode cX10_registered 181 = .ok (.goto 4, 3) := by decide +kernel
theorem dX10_registered_184 : decode cX10_registered 184 = .ok (.iconst (-1), 1) := by decide +kernel
theorem dX10_registered_185 : decode cX10_registered 185 = .ok (.istore 4, 2) := by decide +kernel
theorem dX10_registered_187 : decode cX10_registered 187 = .ok (.iload_n 3, 1) := by decide +kernel
theorem dX10_registered_188 : decode cX10_registered 188 = .ok (.ifCond .eq 24, 3) := by decide +kernel
theorem dX10_registered_191 : decode cX10_registered 191 = .ok (.iload 4, 2) := by decide +kernel
theorem dX10_registered_193 : decode cX10_registered 193 = .ok (.iconst (-1), 1) := by decide +kernel
theorem dX10_registered_194 : decode cX10_registered 194 = .ok (.if_icmp .eq 14, 3) := by decide +kernel
theorem dX10_registered_197 : decode cX10_registered 197 = .ok (.aload_n 0, 1) := by decide +kernel
theorem dX10_registered_198 : decode cX10_registered 198 = .ok (.getfield 33, 3) := by decide +kernel
theorem dX10_registered_201 : decode cX10_registered 201 = .ok (.iload 4, 2) := by decide +kernel
theorem dX10_registered_203 : decode cX10_registered 203 = .ok (.iaload, 1) := by decide +kernel
theorem dX10_registered_204 : decode cX10_registered 204 = .ok (.iload_n 2, 1) := by decide +kernel
theorem dX10_registered_205 : decode cX10_registered 205 = .ok (.if_icmp .ne 7, 3) := by decide +kernel
theorem dX10_registered_208 : decode cX10_registered 208 = .ok (.iconst 1, 1) := by decide +kernel
theorem dX10_registered_209 : decode cX10_registered 209 = .ok (.goto 4, 3) := by decide +kernel
theorem dX10_registered_212 : decode cX10_registered 212 = .ok (.iconst 0, 1) := by decide +kernel
theorem dX10_registered_213 : decode cX10_registered 213 = .ok (.istore_n 3, 1) := by decide +kernel
theorem dX10_registered_214 : decode cX10_registered 214 = .ok (.iload_n 3, 1) := by decide +kernel
theorem dX10_registered_215 : decode cX10_registered 215 = .ok (.ifCond .eq 28, 3) := by decide +kernel
theorem dX10_registered_218 : decode cX10_registered 218 = .ok (.iload 4, 2) := by decide +kernel
theorem dX10_registered_220 : decode cX10_registered 220 = .ok (.iconst (-1), 1) := by decide +kernel
theorem dX10_registered_221 : decode cX10_registered 221 = .ok (.if_icmp .ne 22, 3) := by decide +kernel
theorem dX10_registered_224 : decode cX10_registered 224 = .ok (.aload_n 0, 1) := by decide +kernel
theorem dX10_registered_225 : decode cX10_registered 225 = .ok (.iload_n 1, 1) := by decide +kernel
theorem dX10_registered_226 : decode cX10_registered 226 = .ok (.invokevirtual 207, 3) := by decide +kernel
theorem dX10_registered_229 : decode cX10_registered 229 = .ok (.istore 4, 2) := by decide +kernel
theorem dX10_registered_231 : decode cX10_registered 231 = .ok (.iload 4, 2) := by decide +kernel
theorem dX10_registered_233 : decode cX10_registered 233 = .ok (.iconst (-1), 1) := by decide +kernel
theorem dX10_registered_234 : decode cX10_registered 234 = .ok (.if_icmp .eq 7, 3) := by decide +kernel
theorem dX10_registered_237 : decode cX10_registered 237 = .ok (.iconst 1, 1) := by decide +kernel
theorem dX10_registered_238 : decode cX10_registered 238 = .ok (.goto 4, 3) := by decide +kernel
theorem dX10_registered_241 : decode cX10_registered 241 = .ok (.iconst 0, 1) := by decide +kernel
theorem dX10_registered_242 : decode cX10_registered 242 = .ok (.istore_n 3, 1) := by decide +kernel
theorem dX10_registered_243 : decode cX10_registered 243 = .ok (.iload_n 3, 1) := by decide +kernel
theorem dX10_registered_244 : decode cX10_registered 244 = .ok (.ifCond .ne 14, 3) := by decide +kernel
theorem dX10_registered_247 : decode cX10_registered 247 = .ok (.aload_n 0, 1) := by decide +kernel
theorem dX10_registered_248 : decode cX10_registered 248 = .ok (.dup, 1) := by decide +kernel
theorem dX10_registered_249 : decode cX10_registered 249 = .ok (.getfield 210, 3) := by decide +kernel
theorem dX10_registered_252 : decode cX10_registered 252 = .ok (.iconst 1, 1) := by decide +kernel
theorem dX10_registered_253 : decode cX10_registered 253 = .ok (.iadd, 1) := by decide +kernel
theorem dX10_registered_254 : decode cX10_registered 254 = .ok (.putfield 210, 3) := by decide +kernel
theorem dX10_registered_257 : decode cX10_registered 257 = .ok (.return_, 1) := by decide +kernel
theorem dX10_registered_258 : decode cX10_registered 258 = .ok (.aload_n 0, 1) := by decide +kernel
theorem dX10_registered_259 : decode cX10_registered 259 = .ok (.getfield 45, 3) := by decide +kernel
theorem dX10_registered_262 : decode cX10_registered 262 = .ok (.bipush 8, 2) := by decide +kernel
theorem dX10_registered_264 : decode cX10_registered 264 = .ok (.iload_n 1, 1) := by decide +kernel
theorem dX10_registered_265 : decode cX10_registered 265 = .ok (.imul, 1) := by decide +kernel
theorem dX10_registered_266 : decode cX10_registered 266 = .ok (.iload_n 2, 1) := by decide +kernel
theorem dX10_registered_267 : decode cX10_registered 267 = .ok (.iadd, 1) := by decide +kernel
theorem dX10_registered_268 : decode cX10_registered 268 = .ok (.aload_n 0, 1) := by decide +kernel
theorem dX10_registered_269 : decode cX10_registered 269 = .ok (.getfield 112, 3) := by decide +kernel
theorem dX10_registered_272 : decode cX10_registered 272 = .ok (.iconst 4, 1) := by decide +kernel
theorem dX10_registered_273 : decode cX10_registered 273 = .ok (.iaload, 1) := by decide +kernel
theorem dX10_registered_274 : decode cX10_registered 274 = .ok (.i2l, 1) := by decide +kernel
theorem dX10_registered_275 : decode cX10_registered 275 = .ok (.lastore, 1) := by decide +kernel
theorem dX10_registered_276 : decode cX10_registered 276 = .ok (.aload_n 0, 1) := by decide +kernel
theorem dX10_registered_277 : decode cX10_registered 277 = .ok (.getfield 27, 3) := by decide +kernel
theorem dX10_registered_280 : decode cX10_registered 280 = .ok (.iload 4, 2) := by decide +kernel
theorem dX10_registered_282 : decode cX10_registered 282 = .ok (.aload_n 0, 1) := by decide +kernel
theorem dX10_registered_283 : decode cX10_registered 283 = .ok (.getfield 112, 3) := by decide +kernel
theorem dX10_registered_286 : decode cX10_registered 286 = .ok (.iconst 1, 1) := by decide +kernel
theorem dX10_registered_287 : decode cX10_registered 287 = .ok (.iaload, 1) := by decide +kernel
theorem dX10_registered_288 : decode cX10_registered 288 = .ok (.iastore, 1) := by decide +kernel
theorem dX10_registered_289 : decode cX10_registered 289 = .ok (.aload_n 0, 1) := by decide +kernel
theorem dX10_registered_290 : decode cX10_registered 290 = .ok (.getfield 30, 3) := by decide +kernel
theorem dX10_registered_293 : decode cX10_registered 293 = .ok (.iload 4, 2) := by decide +kernel
theorem dX10_registered_295 : decode cX10_registered 295 = .ok (.aload_n 0, 1) := by decide +kernel
theorem dX10_registered_296 : decode cX10_registered 296 = .ok (.getfield 112, 3) := by decide +kernel
theorem dX10_registered_299 : decode cX10_registered 299 = .ok (.iconst 2, 1) := by decide +kernel
theorem dX10_registered_300 : decode cX10_registered 300 = .ok (.iaload, 1) := by decide +kernel
theorem dX10_registered_301 : decode cX10_registered 301 = .ok (.iastore, 1) := by decide +kernel
theorem dX10_registered_302 : decode cX10_registered 302 = .ok (.aload_n 0, 1) := by decide +kernel
theorem dX10_registered_303 : decode cX10_registered 303 = .ok (.getfield 33, 3) := by decide +kernel
theorem dX10_registered_306 : decode cX10_registered 306 = .ok (.iload 4, 2) := by decide +kernel
theorem dX10_registered_308 : decode cX10_registered 308 = .ok (.iload_n 2, 1) := by decide +kernel
theorem dX10_registered_309 : decode cX10_registered 309 = .ok (.iastore, 1) := by decide +kernel
theorem dX10_registered_310 : decode cX10_registered 310 = .ok (.aload_n 0, 1) := by decide +kernel
theorem dX10_registered_311 : decode cX10_registered 311 = .ok (.getfield 36, 3) := by decide +kernel
theorem dX10_registered_314 : decode cX10_registered 314 = .ok (.iload 4, 2) := by decide +kernel
theorem dX10_registered_316 : decode cX10_registered 316 = .ok (.aload_n 0, 1) := by decide +kernel
theorem dX10_registered_317 : decode cX10_registered 317 = .ok (.getfield 112, 3) := by decide +kernel
theorem dX10_registered_320 : decode cX10_registered 320 = .ok (.iconst 3, 1) := by decide +kernel
theorem dX10_registered_321 : decode cX10_registered 321 = .ok (.iaload, 1) := by decide +kernel
theorem dX10_registered_322 : decode cX10_registered 322 = .ok (.iastore, 1) := by decide +kernel
theorem dX10_registered_323 : decode cX10_registered 323 = .ok (.aload_n 0, 1) := by decide +kernel
theorem dX10_registered_324 : decode cX10_registered 324 = .ok (.getfield 39, 3) := by decide +kernel
theorem dX10_registered_327 : decode cX10_registered 327 = .ok (.iload 4, 2) := by decide +kernel
theorem dX10_registered_329 : decode cX10_registered 329 = .ok (.aload_n 0, 1) := by decide +kernel
theorem dX10_registered_330 : decode cX10_registered 330 = .ok (.getfield 112, 3) := by decide +kernel
theorem dX10_registered_333 : decode cX10_registered 333 = .ok (.iconst 4, 1) := by decide +kernel
theorem dX10_registered_334 : decode cX10_registered 334 = .ok (.iaload, 1) := by decide +kernel
theorem dX10_registered_335 : decode cX10_registered 335 = .ok (.iastore, 1) := by decide +kernel
theorem dX10_registered_336 : decode cX10_registered 336 = .ok (.aload_n 0, 1) := by decide +kernel
theorem dX10_registered_337 : decode cX10_registered 337 = .ok (.getfield 42, 3) := by decide +kernel
theorem dX10_registered_340 : decode cX10_registered 340 = .ok (.iload 4, 2) := by decide +kernel
theorem dX10_registered_342 : decode cX10_registered 342 = .ok (.aload_n 0, 1) := by decide +kernel
theorem dX10_registered_343 : decode cX10_registered 343 = .ok (.getfield 150, 3) := by decide +kernel
theorem dX10_registered_346 : decode cX10_registered 346 = .ok (.sipush 180, 3) := by decide +kernel
theorem dX10_registered_349 : decode cX10_registered 349 = .ok (.iadd, 1) := by decide +kernel
theorem dX10_registered_350 : decode cX10_registered 350 = .ok (.iastore, 1) := by decide +kernel
theorem dX10_registered_351 : decode cX10_registered 351 = .ok (.return_, 1) := by decide +kernel
def j_X10_registered_243 (σ : HS) (l0 : Option Nat) (l1 : Int32) (l2 : Int32) (l3 : Int32) (l4 : Int32) : Option (Unit × HS) :=
  if l3 = 0 then
    h_b1 (h_gI σ l0 11 39) fun x76 =>
    h_b1 (h_pI σ l0 11 39 (x76 + 1)) fun s78 =>
    some ((), s78)
  else
    h_b1 (h_gR σ l0 11 13) fun x26 =>
    h_b1 (h_gR σ l0 11 38) fun x28 =>
    h_b1 (h_aI σ x28 100 4) fun x30 =>
    h_b1 (h_sL σ x26 101 ((8 * l1) + l2) (Int32.toInt64 x30)) fun s32 =>
    h_b1 (h_gR s32 l0 11 7) fun x34 =>
    h_b1 (h_gR s32 l0 11 38) fun x36 =>
    h_b1 (h_aI s32 x36 100 1) fun x38 =>
    h_b1 (h_sI s32 x34 100 l4 x38) fun s40 =>
    h_b1 (h_gR s40 l0 11 8) fun x42 =>
    h_b1 (h_gR s40 l0 11 38) fun x44 =>
    h_b1 (h_aI s40 x44 100 2) fun x46 =>
    h_b1 (h_sI s40 x42 100 l4 x46) fun s48 =>
    h_b1 (h_gR s48 l0 11 9) fun x50 =>
    h_b1 (h_sI s48 x50 100 l4 l2) fun s52 =>
    h_b1 (h_gR s52 l0 11 10) fun x54 =>
    h_b1 (h_gR s52 l0 11 38) fun x56 =>
    h_b1 (h_aI s52 x56 100 3) fun x58 =>
    h_b1 (h_sI s52 x54 100 l4 x58) fun s60 =>
    h_b1 (h_gR s60 l0 11 11) fun x62 =>
    h_b1 (h_gR s60 l0 11 38) fun x64 =>
    h_b1 (h_aI s60 x64 100 4) fun x66 =>
    h_b1 (h_sI s60 x62 100 l4 x66) fun s68 =>
    h_b1 (h_gR s68 l0 11 12) fun x70 =>
    h_b1 (h_gI s68 l0 11 1) fun x72 =>
    h_b1 (h_sI s68 x70 100 l4 (x72 + 180)) fun s74 =>
    some ((), s74)
def j_X10_registered_242 (σ : HS) (l0 : Option Nat) (l1 : Int32) (l2 : Int32) (l4 : Int32) (t0 : Int32) : Option (Unit × HS) :=
  j_X10_registered_243 σ l0 l1 l2 t0 l4 
def j_X10_registered_213 (σ : HS) (l0 : Option Nat) (l1 : Int32) (l2 : Int32) (l4 : Int32) (t0 : Int32) : Option (Unit × HS) :=
  if t0 = 0 then
    j_X10_registered_243 σ l0 l1 l2 t0 l4 
  else
    if l4 = (-1) then
      h_b1 (h_rcv σ l0 11) fun y84 =>
      h_bd (f_X10_emptyEntry σ l0 l1) fun r81 s82 =>
      if r81 = (-1) then
        j_X10_registered_242 s82 l0 l1 l2 r81 0
      else
        j_X10_registered_242 s82 l0 l1 l2 r81 1
    else
      j_X10_registered_243 σ l0 l1 l2 t0 l4 
def j_X10_registered_212 (σ : HS) (l0 : Option Nat) (l1 : Int32) (l2 : Int32) (l4 : Int32) : Option (Unit × HS) :=
  j_X10_registered_213 σ l0 l1 l2 l4 0
def j_X10_registered_208 (σ : HS) (l0 : Option Nat) (l1 : Int32) (l2 : Int32) (l4 : Int32) : Option (Unit × HS) :=
  j_X10_registered_213 σ l0 l1 l2 l4 1
def j_X10_registered_185 (σ : HS) (l0 : Option Nat) (l1 : Int32) (l2 : Int32) (l3 : Int32) (t0 : Int32) : Option (Unit × HS) :=
  if l3 = 0 then
    j_X10_registered_212 σ l0 l1 l2 t0 
  else
    if t0 = (-1) then
      j_X10_registered_208 σ l0 l1 l2 t0 
    else
      h_b1 (h_gR σ l0 11 9) fun x88 =>
      h_b1 (h_aI σ x88 100 t0) fun x90 =>
      if x90 = l2 then
        j_X10_registered_208 σ l0 l1 l2 t0 
      else
        j_X10_registered_212 σ l0 l1 l2 t0 
def j_X10_registered_159 (σ : HS) (l0 : Option Nat) (l1 : Int32) (l2 : Int32) (t0 : Int32) : Option (Unit × HS) :=
  if t0 = 0 then
    j_X10_registered_185 σ l0 l1 l2 t0 (-1)
  else
    h_b1 (h_gR σ l0 11 38) fun x93 =>
    h_b1 (h_aI σ x93 100 1) fun x95 =>
    h_b1 (h_gR σ l0 11 38) fun x97 =>
    h_b1 (h_aI σ x97 100 2) fun x99 =>
    h_b1 (h_rcv σ l0 11) fun y104 =>
    h_bd (f_X10_entryFor σ l0 l1 x95 x99) fun r101 s102 =>
    j_X10_registered_185 s102 l0 l1 l2 t0 r101
def j_X10_registered_158 (σ : HS) (l0 : Option Nat) (l1 : Int32) (l2 : Int32) : Option (Unit × HS) :=
  j_X10_registered_159 σ l0 l1 l2 0
def j_X10_registered_107 (σ : HS) (l0 : Option Nat) (l1 : Int32) (l2 : Int32) (t0 : Int32) : Option (Unit × HS) :=
  if t0 = 0 then
    j_X10_registered_158 σ l0 l1 l2 
  else
    h_b1 (h_gR σ l0 11 38) fun x106 =>
    h_b1 (h_aI σ x106 100 1) fun x108 =>
    h_b1 (h_gR σ l0 11 38) fun x110 =>
    h_b1 (h_aI σ x110 100 2) fun x112 =>
    h_b1 (h_rcv σ l0 11) fun y117 =>
    h_bd (f_X10_owner σ l0 x108 x112) fun r114 s115 =>
    if r114 = l1 then
      h_b1 (h_gR s115 l0 11 38) fun x120 =>
      h_b1 (h_aI s115 x120 100 4) fun x122 =>
      h_b1 (h_gR s115 l0 11 13) fun x124 =>
      h_b1 (h_aL s115 x124 101 ((8 * l1) + l2)) fun x126 =>
      if (lg_cmp (Int32.toInt64 x122) x126) ≤ 0 then
        j_X10_registered_158 s115 l0 l1 l2 
      else
        j_X10_registered_159 s115 l0 l1 l2 1
    else
      j_X10_registered_158 s115 l0 l1 l2 
def j_X10_registered_106 (σ : HS) (l0 : Option Nat) (l1 : Int32) (l2 : Int32) : Option (Unit × HS) :=
  j_X10_registered_107 σ l0 l1 l2 0
def f_X10_registered (σ : HS) (a0 : Option Nat) : Option (Unit × HS) :=
  h_b1 (h_gR σ a0 11 38) fun x1 =>
  h_b1 (h_aI σ x1 100 7) fun x3 =>
  h_b1 (h_rcv σ a0 11) fun y8 =>
  h_bd (f_X10_isServerAt σ a0 x3) fun r5 s6 =>
  if r5 = 0 then
    some ((), s6)
  else
    h_b1 (h_gR s6 a0 11 38) fun x11 =>
    h_b1 (h_aI s6 x11 100 0) fun x13 =>
    h_b1 (h_rcv s6 a0 11) fun y18 =>
    h_bd (f_X10_isSite s6 a0 x13) fun r15 s16 =>
    if r15 = 0 then
      j_X10_registered_106 s16 a0 x3 x13 
    else
      h_b1 (h_gR s16 a0 11 38) fun x129 =>
      h_b1 (h_aI s16 x129 100 3) fun x131 =>
      h_bd (f_X10_in s16 x131 0 15) fun r133 s134 =>
      if r133 = 0 then
        j_X10_registered_106 s134 a0 x3 x13 
      else
        h_b1 (h_gR s134 a0 11 38) fun x137 =>
        h_b1 (h_aI s134 x137 100 1) fun x139 =>
        h_b1 (h_gR s134 a0 11 38) fun x141 =>
        h_b1 (h_aI s134 x141 100 2) fun x143 =>
        h_bd (f_X10_isPrefix s134 x139 x143) fun r145 s146 =>
        if r145 = 0 then
          j_X10_registered_106 s146 a0 x3 x13 
        else
          h_b1 (h_gR s146 a0 11 38) fun x149 =>
          h_b1 (h_aI s146 x149 100 1) fun x151 =>
          h_b1 (h_gR s146 a0 11 38) fun x153 =>
          h_b1 (h_aI s146 x153 100 2) fun x155 =>
          h_b1 (h_gR s146 a0 11 38) fun x157 =>
          h_b1 (h_aI s146 x157 100 3) fun x159 =>
          h_b1 (h_gR s146 a0 11 38) fun x161 =>
          h_b1 (h_aI s146 x161 100 4) fun x163 =>
          h_bd (f_X10_tag s146 x13 x151 x155 x159 x163) fun r165 s166 =>
          h_b1 (h_gR s166 a0 11 38) fun x168 =>
          h_b1 (h_aI s166 x168 100 5) fun x170 =>
          if r165 = x170 then
            j_X10_registered_107 s166 a0 x3 x13 1
          else
            j_X10_registered_106 s166 a0 x3 x13 
set_option maxHeartbeats 4000000 in
set_option maxRecDepth 100000 in
theorem jw_X10_registered_243 {p : Program} {l : Launch} {e : Env} {R : Room} {s : State} {m : MethodId} {args : Array Value} {below : List Frame} {meth : Method} {c : Code} {D : va_G} {dA : Nat → ClassId} {bs : Nat} (C : h_C p m c cX10_registered 5 s args RX10 D dA) {σ0 : HS} (B : h_B R s meth σ0 none 3 69) {σ' : HS} : ∀ (σ : HS) (l0 : Option Nat) (l1 : Int32) (l2 : Int32) (l3 : Int32) (l4 : Int32), j_X10_registered_243 σ l0 l1 l2 l3 l4 = some ((), σ') → V p l e R s m args below meth c D dA bs 5 (MQ below (h_Q D dA bs none σ0 σ') args s R.cells R.slots (fun q => bs ≤ q)) σ 243 [(0, va_rf l0), (1, .int l1), (2, .int l2), (3, .int l3), (4, .int l4)] [] := by
  intro σ l0 l1 l2 l3 l4 h
  unfold j_X10_registered_243 at h
  refine V_iload_n C 3 dX10_registered_243 rfl rfl ?_
  refine V_if_ne (tgt := 258) C dX10_registered_244 (by decide) (fun c25 => ?_) (fun c25 => ?_)
  · rw [if_neg c25] at h
    refine V_aload_n C 0 dX10_registered_258 rfl rfl ?_
    obtain ⟨x26, e27, h⟩ := h_b1_some h
    refine V_getR C fl_RX10_45 dX10_registered_259 e27 ?_
    refine V_bipush (v := 8) C dX10_registered_262 (by decide) ?_
    refine V_iload_n C 1 dX10_registered_264 rfl rfl ?_
    refine V_imul C dX10_registered_265 ?_
    refine V_iload_n C 2 dX10_registered_266 rfl rfl ?_
    refine V_iadd C dX10_registered_267 ?_
    refine V_aload_n C 0 dX10_registered_268 rfl rfl ?_
    obtain ⟨x28, e29, h⟩ := h_b1_some h
    refine V_getR C fl_RX10_112 dX10_registered_269 e29 ?_
    refine V_iconst (v := 4) C dX10_registered_272 (by decide) ?_
    obtain ⟨x30, e31, h⟩ := h_b1_some h
    refine V_iald C dX10_registered_273 e31 ?_
    refine V_i2l C dX10_registered_274 ?_
    obtain ⟨s32, e33, h⟩ := h_b1_some h
    refine V_last C dX10_registered_275 e33 ?_
    refine V_aload_n C 0 dX10_registered_276 rfl rfl ?_
    obtain ⟨x34, e35, h⟩ := h_b1_some h
    refine V_getR C fl_RX10_27 dX10_registered_277 e35 ?_
    refine V_iload C 4 dX10_registered_280 rfl ?_
    refine V_aload_n C 0 dX10_registered_282 rfl rfl ?_
    obtain ⟨x36, e37, h⟩ := h_b1_some h
    refine V_getR C fl_RX10_112 dX10_registered_283 e37 ?_
    refine V_iconst (v := 1) C dX10_registered_286 (by decide) ?_
    obtain ⟨x38, e39, h⟩ := h_b1_some h
    refine V_iald C dX10_registered_287 e39 ?_
    obtain ⟨s40, e41, h⟩ := h_b1_some h
    refine V_iast C dX10_registered_288 e41 ?_
    refine V_aload_n C 0 dX10_registered_289 rfl rfl ?_
    obtain ⟨x42, e43, h⟩ := h_b1_some h
    refine V_getR C fl_RX10_30 dX10_registered_290 e43 ?_
    refine V_iload C 4 dX10_registered_293 rfl ?_
    refine V_aload_n C 0 dX10_registered_295 rfl rfl ?_
    obtain ⟨x44, e45, h⟩ := h_b1_some h
    refine V_getR C fl_RX10_112 dX10_registered_296 e45 ?_
    refine V_iconst (v := 2) C dX10_registered_299 (by decide) ?_
    obtain ⟨x46, e47, h⟩ := h_b1_some h
    refine V_iald C dX10_registered_300 e47 ?_
    obtain ⟨s48, e49, h⟩ := h_b1_some h
    refine V_iast C dX10_registered_301 e49 ?_
    refine V_aload_n C 0 dX10_registered_302 rfl rfl ?_
    obtain ⟨x50, e51, h⟩ := h_b1_some h
    refine V_getR C fl_RX10_33 dX10_registered_303 e51 ?_
    refine V_iload C 4 dX10_registered_306 rfl ?_
    refine V_iload_n C 2 dX10_registered_308 rfl rfl ?_
    obtain ⟨s52, e53, h⟩ := h_b1_some h
    refine V_iast C dX10_registered_309 e53 ?_
    refine V_aload_n C 0 dX10_registered_310 rfl rfl ?_
    obtain ⟨x54, e55, h⟩ := h_b1_some h
    refine V_getR C fl_RX10_36 dX10_registered_311 e55 ?_
    refine V_iload C 4 dX10_registered_314 rfl ?_
    refine V_aload_n C 0 dX10_registered_316 rfl rfl ?_
    obtain ⟨x56, e57, h⟩ := h_b1_some h
    refine V_getR C fl_RX10_112 dX10_registered_317 e57 ?_
    refine V_iconst (v := 3) C dX10_registered_320 (by decide) ?_
    obtain ⟨x58, e59, h⟩ := h_b1_some h
    refine V_iald C dX10_registered_321 e59 ?_
    obtain ⟨s60, e61, h⟩ := h_b1_some h
    refine V_iast C dX10_registered_322 e61 ?_
    refine V_aload_n C 0 dX10_registered_323 rfl rfl ?_
    obtain ⟨x62, e63, h⟩ := h_b1_some h
    refine V_getR C fl_RX10_39 dX10_registered_324 e63 ?_
    refine V_iload C 4 dX10_registered_327 rfl ?_
    refine V_aload_n C 0 dX10_registered_329 rfl rfl ?_
    obtain ⟨x64, e65, h⟩ := h_b1_some h
    refine V_getR C fl_RX10_112 dX10_registered_330 e65 ?_
    refine V_iconst (v := 4) C dX10_registered_333 (by decide) ?_
    obtain ⟨x66, e67, h⟩ := h_b1_some h
    refine V_iald C dX10_registered_334 e67 ?_
    obtain ⟨s68, e69, h⟩ := h_b1_some h
    refine V_iast C dX10_registered_335 e69 ?_
    refine V_aload_n C 0 dX10_registered_336 rfl rfl ?_
    obtain ⟨x70, e71, h⟩ := h_b1_some h
    refine V_getR C fl_RX10_42 dX10_registered_337 e71 ?_
    refine V_iload C 4 dX10_registered_340 rfl ?_
    refine V_aload_n C 0 dX10_registered_342 rfl rfl ?_
    obtain ⟨x72, e73, h⟩ := h_b1_some h
    refine V_getI C fl_RX10_150 dX10_registered_343 e73 ?_
    refine V_sipush (v := 180) C dX10_registered_346 (by decide) ?_
    refine V_iadd C dX10_registered_349 ?_
    obtain ⟨s74, e75, h⟩ := h_b1_some h
    refine V_iast C dX10_registered_350 e75 ?_
    cases h
    exact V_vret C B dX10_registered_351
  · rw [if_pos c25] at h
    refine V_aload_n C 0 dX10_registered_247 rfl rfl ?_
    refine V_dupR C dX10_registered_248 ?_
    obtain ⟨x76, e77, h⟩ := h_b1_some h
    refine V_getI C fl_RX10_210 dX10_registered_249 e77 ?_
    refine V_iconst (v := 1) C dX10_registered_252 (by decide) ?_
    refine V_iadd C dX10_registered_253 ?_
    obtain ⟨s78, e79, h⟩ := h_b1_some h
    refine V_putI C fw_RX10_210 dX10_registered_254 e79 ?_
    cases h
    exact V_vret C B dX10_registered_257
set_option maxHeartbeats 4000000 in
set_option maxRecDepth 100000 in
theorem jw_X10_registered_242 {p : Program} {l : Launch} {e : Env} {R : Room} {s : State} {m : MethodId} {args : Array Value} {below : List Frame} {meth : Method} {c : Code} {D : va_G} {dA : Nat → ClassId} {bs : Nat} (C : h_C p m c cX10_registered 5 s args RX10 D dA) {σ0 : HS} (B : h_B R s meth σ0 none 3 69) {σ' : HS} : ∀ (σ : HS) (l0 : Option Nat) (l1 : Int32) (l2 : Int32) (l4 : Int32) (t0 : Int32), j_X10_registered_242 σ l0 l1 l2 l4 t0 = some ((), σ') → V p l e R s m args below meth c D dA bs 5 (MQ below (h_Q D dA bs none σ0 σ') args s R.cells R.slots (fun q => bs ≤ q)) σ 242 [(0, va_rf l0), (1, .int l1), (2, .int l2), (4, .int l4)] [.int t0] := by
  intro σ l0 l1 l2 l4 t0 h
  unfold j_X10_registered_242 at h
  refine V_istore_n (lv' := [(3, .int t0), (0, va_rf l0), (1, .int l1), (2, .int l2), (4, .int l4)]) C dX10_registered_242 rfl (by decide) rfl ?_
  exact V_sub [1, 2, 3, 0, 4] rfl (jw_X10_registered_243 C B σ l0 l1 l2 t0 l4  h)
set_option maxHeartbeats 4000000 in
set_option maxRecDepth 100000 in
theorem jw_X10_registered_213 {p : Program} {l : Launch} {e : Env} {R : Room} {s : State} {m : MethodId} {args : Array Value} {below : List Frame} {meth : Method} {c : Code} {D : va_G} {dA : Nat → ClassId} {bs : Nat} (C : h_C p m c cX10_registered 5 s args RX10 D dA) {σ0 : HS} (B : h_B R s meth σ0 none 3 69) {σ' : HS} : ∀ (σ : HS) (l0 : Option Nat) (l1 : Int32) (l2 : Int32) (l4 : Int32) (t0 : Int32), j_X10_registered_213 σ l0 l1 l2 l4 t0 = some ((), σ') → V p l e R s m args below meth c D dA bs 5 (MQ below (h_Q D dA bs none σ0 σ') args s R.cells R.slots (fun q => bs ≤ q)) σ 213 [(0, va_rf l0), (1, .int l1), (2, .int l2), (4, .int l4)] [.int t0] := by
  intro σ l0 l1 l2 l4 t0 h
  unfold j_X10_registered_213 at h
  refine V_istore_n (lv' := [(3, .int t0), (0, va_rf l0), (1, .int l1), (2, .int l2), (4, .int l4)]) C dX10_registered_213 rfl (by decide) rfl ?_
  refine V_iload_n C 0 dX10_registered_214 rfl rfl ?_
  refine V_if_eq (tgt := 243) C dX10_registered_215 (by decide) (fun c24 => ?_) (fun c24 => ?_)
  · rw [if_pos c24] at h
    exact V_sub [1, 2, 3, 0, 4] rfl (jw_X10_registered_243 C B σ l0 l1 l2 t0 l4  h)
  · rw [if_neg c24] at h
    refine V_iload C 4 dX10_registered_218 rfl ?_
    refine V_iconst (v := (-1)) C dX10_registered_220 (by decide) ?_
    refine V_icmp_ne (tgt := 243) C dX10_registered_221 (by decide) (fun c80 => ?_) (fun c80 => ?_)
    · rw [if_neg c80] at h
      exact V_sub [1, 2, 3, 0, 4] rfl (jw_X10_registered_243 C B σ l0 l1 l2 t0 l4  h)
    · rw [if_pos c80] at h
      refine V_aload_n C 1 dX10_registered_224 rfl rfl ?_
      refine V_iload_n C 2 dX10_registered_225 rfl rfl ?_
      obtain ⟨y84, e85, h⟩ := h_b1_some h
      obtain ⟨r81, s82, e83, h⟩ := h_bd_some h
      refine V_cV (As := [.int l1]) (rest := []) C mv_RX10_207 (m_X10_emptyEntry l D dA bs e83) e85 rfl rfl (Nat.le_trans h_w0 (by decide)) (h_fr B (by decide)) (h_lo B (by decide)) dX10_registered_226 ?_
      refine V_istore (lv' := [(4, .int r81), (3, .int t0), (0, va_rf l0), (1, .int l1), (2, .int l2)]) C dX10_registered_229 (by decide) rfl ?_
      refine V_iload C 0 dX10_registered_231 rfl ?_
      refine V_iconst (v := (-1)) C dX10_registered_233 (by decide) ?_
      refine V_icmp_eq (tgt := 241) C dX10_registered_234 (by decide) (fun c86 => ?_) (fun c86 => ?_)
      · rw [if_pos c86] at h
        refine V_iconst (v := 0) C dX10_registered_241 (by decide) ?_
        exact V_sub [2, 3, 4, 0] rfl (jw_X10_registered_242 C B s82 l0 l1 l2 r81 0 h)
      · rw [if_neg c86] at h
        refine V_iconst (v := 1) C dX10_registered_237 (by decide) ?_
        refine V_goto (tgt := 242) C dX10_registered_238 (by decide) ?_
        exact V_sub [2, 3, 4, 0] rfl (jw_X10_registered_242 C B s82 l0 l1 l2 r81 1 h)
set_option maxHeartbeats 4000000 in
set_option maxRecDepth 100000 in
theorem jw_X10_registered_212 {p : Program} {l : Launch} {e : Env} {R : Room} {s : State} {m : MethodId} {args : Array Value} {below : List Frame} {meth : Method} {c : Code} {D : va_G} {dA : Nat → ClassId} {bs : Nat} (C : h_C p m c cX10_registered 5 s args RX10 D dA) {σ0 : HS} (B : h_B R s meth σ0 none 3 69) {σ' : HS} : ∀ (σ : HS) (l0 : Option Nat) (l1 : Int32) (l2 : Int32) (l4 : Int32), j_X10_registered_212 σ l0 l1 l2 l4 = some ((), σ') → V p l e R s m args below meth c D dA bs 5 (MQ below (h_Q D dA bs none σ0 σ') args s R.cells R.slots (fun q => bs ≤ q)) σ 212 [(0, va_rf l0), (1, .int l1), (2, .int l2), (4, .int l4)] [] := by
  intro σ l0 l1 l2 l4 h
  unfold j_X10_registered_212 at h
  refine V_iconst (v := 0) C dX10_registered_212 (by decide) ?_
  exact V_sub [0, 1, 2, 3] rfl (jw_X10_registered_213 C B σ l0 l1 l2 l4 0 h)
set_option maxHeartbeats 4000000 in
set_option maxRecDepth 100000 in
theorem jw_X10_registered_208 {p : Program} {l : Launch} {e : Env} {R : Room} {s : State} {m : MethodId} {args : Array Value} {below : List Frame} {meth : Method} {c : Code} {D : va_G} {dA : Nat → ClassId} {bs : Nat} (C : h_C p m c cX10_registered 5 s args RX10 D dA) {σ0 : HS} (B : h_B R s meth σ0 none 3 69) {σ' : HS} : ∀ (σ : HS) (l0 : Option Nat) (l1 : Int32) (l2 : Int32) (l4 : Int32), j_X10_registered_208 σ l0 l1 l2 l4 = some ((), σ') → V p l e R s m args below meth c D dA bs 5 (MQ below (h_Q D dA bs none σ0 σ') args s R.cells R.slots (fun q => bs ≤ q)) σ 208 [(0, va_rf l0), (1, .int l1), (2, .int l2), (4, .int l4)] [] := by
  intro σ l0 l1 l2 l4 h
  unfold j_X10_registered_208 at h
  refine V_iconst (v := 1) C dX10_registered_208 (by decide) ?_
  refine V_goto (tgt := 213) C dX10_registered_209 (by decide) ?_
  exact V_sub [0, 1, 2, 3] rfl (jw_X10_registered_213 C B σ l0 l1 l2 l4 1 h)
set_option maxHeartbeats 4000000 in
set_option maxRecDepth 100000 in
theorem jw_X10_registered_185 {p : Program} {l : Launch} {e : Env} {R : Room} {s : State} {m : MethodId} {args : Array Value} {below : List Frame} {meth : Method} {c : Code} {D : va_G} {dA : Nat → ClassId} {bs : Nat} (C : h_C p m c cX10_registered 5 s args RX10 D dA) {σ0 : HS} (B : h_B R s meth σ0 none 3 69) {σ' : HS} : ∀ (σ : HS) (l0 : Option Nat) (l1 : Int32) (l2 : Int32) (l3 : Int32) (t0 : Int32), j_X10_registered_185 σ l0 l1 l2 l3 t0 = some ((), σ') → V p l e R s m args below meth c D dA bs 5 (MQ below (h_Q D dA bs none σ0 σ') args s R.cells R.slots (fun q => bs ≤ q)) σ 185 [(0, va_rf l0), (1, .int l1), (2, .int l2), (3, .int l3)] [.int t0] := by
  intro σ l0 l1 l2 l3 t0 h
  unfold j_X10_registered_185 at h
  refine V_istore (lv' := [(4, .int t0), (0, va_rf l0), (1, .int l1), (2, .int l2), (3, .int l3)]) C dX10_registered_185 (by decide) rfl ?_
  refine V_iload_n C 4 dX10_registered_187 rfl rfl ?_
  refine V_if_eq (tgt := 212) C dX10_registered_188 (by decide) (fun c23 => ?_) (fun c23 => ?_)
  · rw [if_pos c23] at h
    exact V_sub [1, 2, 3, 0] rfl (jw_X10_registered_212 C B σ l0 l1 l2 t0  h)
  · rw [if_neg c23] at h
    refine V_iload C 0 dX10_registered_191 rfl ?_
    refine V_iconst (v := (-1)) C dX10_registered_193 (by decide) ?_
    refine V_icmp_eq (tgt := 208) C dX10_registered_194 (by decide) (fun c87 => ?_) (fun c87 => ?_)
    · rw [if_pos c87] at h
      exact V_sub [1, 2, 3, 0] rfl (jw_X10_registered_208 C B σ l0 l1 l2 t0  h)
    · rw [if_neg c87] at h
      refine V_aload_n C 1 dX10_registered_197 rfl rfl ?_
      obtain ⟨x88, e89, h⟩ := h_b1_some h
      refine V_getR C fl_RX10_33 dX10_registered_198 e89 ?_
      refine V_iload C 0 dX10_registered_201 rfl ?_
      obtain ⟨x90, e91, h⟩ := h_b1_some h
      refine V_iald C dX10_registered_203 e91 ?_
      refine V_iload_n C 3 dX10_registered_204 rfl rfl ?_
      refine V_icmp_ne (tgt := 212) C dX10_registered_205 (by decide) (fun c92 => ?_) (fun c92 => ?_)
      · rw [if_neg c92] at h
        exact V_sub [1, 2, 3, 0] rfl (jw_X10_registered_212 C B σ l0 l1 l2 t0  h)
      · rw [if_pos c92] at h
        exact V_sub [1, 2, 3, 0] rfl (jw_X10_registered_208 C B σ l0 l1 l2 t0  h)
set_option maxHeartbeats 4000000 in
set_option maxRecDepth 100000 in
theorem jw_X10_registered_159 {p : Program} {l : Launch} {e : Env} {R : Room} {s : State} {m : MethodId} {args : Array Value} {below : List Frame} {meth : Method} {c : Code} {D : va_G} {dA : Nat → ClassId} {bs : Nat} (C : h_C p m c cX10_registered 5 s args RX10 D dA) {σ0 : HS} (B : h_B R s meth σ0 none 3 69) {σ' : HS} : ∀ (σ : HS) (l0 : Option Nat) (l1 : Int32) (l2 : Int32) (t0 : Int32), j_X10_registered_159 σ l0 l1 l2 t0 = some ((), σ') → V p l e R s m args below meth c D dA bs 5 (MQ below (h_Q D dA bs none σ0 σ') args s R.cells R.slots (fun q => bs ≤ q)) σ 159 [(0, va_rf l0), (1, .int l1), (2, .int l2)] [.int t0] := by
  intro σ l0 l1 l2 t0 h
  unfold j_X10_registered_159 at h
  refine V_istore_n (lv' := [(3, .int t0), (0, va_rf l0), (1, .int l1), (2, .int l2)]) C dX10_registered_159 rfl (by decide) rfl ?_
  refine V_iload_n C 0 dX10_registered_160 rfl rfl ?_
  refine V_if_eq (tgt := 184) C dX10_registered_161 (by decide) (fun c22 => ?_) (fun c22 => ?_)
  · rw [if_pos c22] at h
    refine V_iconst (v := (-1)) C dX10_registered_184 (by decide) ?_
    exact V_sub [1, 2, 3, 0] rfl (jw_X10_registered_185 C B σ l0 l1 l2 t0 (-1) h)
  · rw [if_neg c22] at h
    refine V_aload_n C 1 dX10_registered_164 rfl rfl ?_
    refine V_iload_n C 2 dX10_registered_165 rfl rfl ?_
    refine V_aload_n C 1 dX10_registered_166 rfl rfl ?_
    obtain ⟨x93, e94, h⟩ := h_b1_some h
    refine V_getR C fl_RX10_112 dX10_registered_167 e94 ?_
    refine V_iconst (v := 1) C dX10_registered_170 (by decide) ?_
    obtain ⟨x95, e96, h⟩ := h_b1_some h
    refine V_iald C dX10_registered_171 e96 ?_
    refine V_aload_n C 1 dX10_registered_172 rfl rfl ?_
    obtain ⟨x97, e98, h⟩ := h_b1_some h
    refine V_getR C fl_RX10_112 dX10_registered_173 e98 ?_
    refine V_iconst (v := 2) C dX10_registered_176 (by decide) ?_
    obtain ⟨x99, e100, h⟩ := h_b1_some h
    refine V_iald C dX10_registered_177 e100 ?_
    obtain ⟨y104, e105, h⟩ := h_b1_some h
    obtain ⟨r101, s102, e103, h⟩ := h_bd_some h
    refine V_cV (As := [.int l1, .int x95, .int x99]) (rest := []) C mv_RX10_203 (m_X10_entryFor l D dA bs e103) e105 rfl rfl (Nat.le_trans h_w0 (by decide)) (h_fr B (by decide)) (h_lo B (by decide)) dX10_registered_178 ?_
    refine V_goto (tgt := 185) C dX10_registered_181 (by decide) ?_
    exact V_sub [1, 2, 3, 0] rfl (jw_X10_registered_185 C B s102 l0 l1 l2 t0 r101 h)
set_option maxHeartbeats 4000000 in
set_option maxRecDepth 100000 in
theorem jw_X10_registered_158 {p : Program} {l : Launch} {e : Env} {R : Room} {s : State} {m : MethodId} {args : Array Value} {below : List Frame} {meth : Method} {c : Code} {D : va_G} {dA : Nat → ClassId} {bs : Nat} (C : h_C p m c cX10_registered 5 s args RX10 D dA) {σ0 : HS} (B : h_B R s meth σ0 none 3 69) {σ' : HS} : ∀ (σ : HS) (l0 : Option Nat) (l1 : Int32) (l2 : Int32), j_X10_registered_158 σ l0 l1 l2 = some ((), σ') → V p l e R s m args below meth c D dA bs 5 (MQ below (h_Q D dA bs none σ0 σ') args s R.cells R.slots (fun q => bs ≤ q)) σ 158 [(0, va_rf l0), (1, .int l1), (2, .int l2)] [] := by
  intro σ l0 l1 l2 h
  unfold j_X10_registered_158 at h
  refine V_iconst (v := 0) C dX10_registered_158 (by decide) ?_
  exact V_sub [0, 1, 2] rfl (jw_X10_registered_159 C B σ l0 l1 l2 0 h)
set_option maxHeartbeats 4000000 in
set_option maxRecDepth 100000 in
theorem jw_X10_registered_107 {p : Program} {l : Launch} {e : Env} {R : Room} {s : State} {m : MethodId} {args : Array Value} {below : List Frame} {meth : Method} {c : Code} {D : va_G} {dA : Nat → ClassId} {bs : Nat} (C : h_C p m c cX10_registered 5 s args RX10 D dA) {σ0 : HS} (B : h_B R s meth σ0 none 3 69) {σ' : HS} : ∀ (σ : HS) (l0 : Option Nat) (l1 : Int32) (l2 : Int32) (t0 : Int32), j_X10_registered_107 σ l0 l1 l2 t0 = some ((), σ') → V p l e R s m args below meth c D dA bs 5 (MQ below (h_Q D dA bs none σ0 σ') args s R.cells R.slots (fun q => bs ≤ q)) σ 107 [(0, va_rf l0), (1, .int l1), (2, .int l2)] [.int t0] := by
  intro σ l0 l1 l2 t0 h
  unfold j_X10_registered_107 at h
  refine V_istore_n (lv' := [(3, .int t0), (0, va_rf l0), (1, .int l1), (2, .int l2)]) C dX10_registered_107 rfl (by decide) rfl ?_
  refine V_iload_n C 0 dX10_registered_108 rfl rfl ?_
  refine V_if_eq (tgt := 158) C dX10_registered_109 (by decide) (fun c21 => ?_) (fun c21 => ?_)
  · rw [if_pos c21] at h
    exact V_sub [1, 2, 3] rfl (jw_X10_registered_158 C B σ l0 l1 l2  h)
  · rw [if_neg c21] at h
    refine V_aload_n C 1 dX10_registered_112 rfl rfl ?_
    refine V_aload_n C 1 dX10_registered_113 rfl rfl ?_
    obtain ⟨x106, e107, h⟩ := h_b1_some h
    refine V_getR C fl_RX10_112 dX10_registered_114 e107 ?_
    refine V_iconst (v := 1) C dX10_registered_117 (by decide) ?_
    obtain ⟨x108, e109, h⟩ := h_b1_some h
    refine V_iald C dX10_registered_118 e109 ?_
    refine V_aload_n C 1 dX10_registered_119 rfl rfl ?_
    obtain ⟨x110, e111, h⟩ := h_b1_some h
    refine V_getR C fl_RX10_112 dX10_registered_120 e111 ?_
    refine V_iconst (v := 2) C dX10_registered_123 (by decide) ?_
    obtain ⟨x112, e113, h⟩ := h_b1_some h
    refine V_iald C dX10_registered_124 e113 ?_
    obtain ⟨y117, e118, h⟩ := h_b1_some h
    obtain ⟨r114, s115, e116, h⟩ := h_bd_some h
    refine V_cV (As := [.int x108, .int x112]) (rest := []) C mv_RX10_139 (m_X10_owner l D dA bs e116) e118 rfl rfl (Nat.le_trans h_w0 (by decide)) (h_fr B (by decide)) (h_lo B (by decide)) dX10_registered_125 ?_
    refine V_iload_n C 2 dX10_registered_128 rfl rfl ?_
    refine V_icmp_ne (tgt := 158) C dX10_registered_129 (by decide) (fun c119 => ?_) (fun c119 => ?_)
    · rw [if_neg c119] at h
      exact V_sub [1, 2, 3] rfl (jw_X10_registered_158 C B s115 l0 l1 l2  h)
    · rw [if_pos c119] at h
      refine V_aload_n C 1 dX10_registered_132 rfl rfl ?_
      obtain ⟨x120, e121, h⟩ := h_b1_some h
      refine V_getR C fl_RX10_112 dX10_registered_133 e121 ?_
      refine V_iconst (v := 4) C dX10_registered_136 (by decide) ?_
      obtain ⟨x122, e123, h⟩ := h_b1_some h
      refine V_iald C dX10_registered_137 e123 ?_
      refine V_i2l C dX10_registered_138 ?_
      refine V_aload_n C 1 dX10_registered_139 rfl rfl ?_
      obtain ⟨x124, e125, h⟩ := h_b1_some h
      refine V_getR C fl_RX10_45 dX10_registered_140 e125 ?_
      refine V_bipush (v := 8) C dX10_registered_143 (by decide) ?_
      refine V_iload_n C 2 dX10_registered_145 rfl rfl ?_
      refine V_imul C dX10_registered_146 ?_
      refine V_iload_n C 3 dX10_registered_147 rfl rfl ?_
      refine V_iadd C dX10_registered_148 ?_
      obtain ⟨x126, e127, h⟩ := h_b1_some h
      refine V_lald C dX10_registered_149 e127 ?_
      refine V_lcmp C dX10_registered_150 ?_
      refine V_if_le (tgt := 158) C dX10_registered_151 (by decide) (fun c128 => ?_) (fun c128 => ?_)
      · rw [if_pos c128] at h
        exact V_sub [1, 2, 3] rfl (jw_X10_registered_158 C B s115 l0 l1 l2  h)
      · rw [if_neg c128] at h
        refine V_iconst (v := 1) C dX10_registered_154 (by decide) ?_
        refine V_goto (tgt := 159) C dX10_registered_155 (by decide) ?_
        exact V_sub [1, 2, 3] rfl (jw_X10_registered_159 C B s115 l0 l1 l2 1 h)
set_option maxHeartbeats 4000000 in
set_option maxRecDepth 100000 in
theorem jw_X10_registered_106 {p : Program} {l : Launch} {e : Env} {R : Room} {s : State} {m : MethodId} {args : Array Value} {below : List Frame} {meth : Method} {c : Code} {D : va_G} {dA : Nat → ClassId} {bs : Nat} (C : h_C p m c cX10_registered 5 s args RX10 D dA) {σ0 : HS} (B : h_B R s meth σ0 none 3 69) {σ' : HS} : ∀ (σ : HS) (l0 : Option Nat) (l1 : Int32) (l2 : Int32), j_X10_registered_106 σ l0 l1 l2 = some ((), σ') → V p l e R s m args below meth c D dA bs 5 (MQ below (h_Q D dA bs none σ0 σ') args s R.cells R.slots (fun q => bs ≤ q)) σ 106 [(0, va_rf l0), (1, .int l1), (2, .int l2)] [] := by
  intro σ l0 l1 l2 h
  unfold j_X10_registered_106 at h
  refine V_iconst (v := 0) C dX10_registered_106 (by decide) ?_
  exact V_sub [0, 1, 2] rfl (jw_X10_registered_107 C B σ l0 l1 l2 0 h)
set_option maxHeartbeats 4000000 in
set_option maxRecDepth 100000 in
theorem m_X10_registered (l : Launch) (D : va_G) (dA : Nat → ClassId) (bs : Nat) {σ σ' : HS} {a0 : Option Nat} (h : f_X10_registered σ a0 = some ((), σ')) : MetC l yX10_registered cX10_registered 5 none 3 69 D dA bs [va_rf a0] none σ σ' := by
  refine MetC.of (by decide) (h_avR h_av0) (Nat.le_of_ble_eq_true rfl) ?_
  intro p e R s m args below meth c C B hnm
  unfold f_X10_registered at h
  refine V_sub (lv' := [(0, va_rf a0)]) [0] rfl ?_
  refine V_aload_n C 0 dX10_registered_0 rfl rfl ?_
  obtain ⟨x1, e2, h⟩ := h_b1_some h
  refine V_getR C fl_RX10_112 dX10_registered_1 e2 ?_
  refine V_bipush (v := 7) C dX10_registered_4 (by decide) ?_
  obtain ⟨x3, e4, h⟩ := h_b1_some h
  refine V_iald C dX10_registered_6 e4 ?_
  refine V_istore_n (lv' := [(1, .int x3), (0, va_rf a0)]) C dX10_registered_7 rfl (by decide) rfl ?_
  refine V_aload_n C 1 dX10_registered_8 rfl rfl ?_
  refine V_iload_n C 0 dX10_registered_9 rfl rfl ?_
  obtain ⟨y8, e9, h⟩ := h_b1_some h
  obtain ⟨r5, s6, e7, h⟩ := h_bd_some h
  refine V_cV (As := [.int x3]) (rest := []) C mv_RX10_131 (m_X10_isServerAt l D dA bs e7) e9 rfl rfl (Nat.le_trans h_w0 (by decide)) (h_fr B (by decide)) (h_lo B (by decide)) dX10_registered_10 ?_
  refine V_if_ne (tgt := 17) C dX10_registered_13 (by decide) (fun c10 => ?_) (fun c10 => ?_)
  · rw [if_neg c10] at h
    refine V_aload_n C 1 dX10_registered_17 rfl rfl ?_
    obtain ⟨x11, e12, h⟩ := h_b1_some h
    refine V_getR C fl_RX10_112 dX10_registered_18 e12 ?_
    refine V_iconst (v := 0) C dX10_registered_21 (by decide) ?_
    obtain ⟨x13, e14, h⟩ := h_b1_some h
    refine V_iald C dX10_registered_22 e14 ?_
    refine V_istore_n (lv' := [(2, .int x13), (1, .int x3), (0, va_rf a0)]) C dX10_registered_23 rfl (by decide) rfl ?_
    refine V_aload_n C 2 dX10_registered_24 rfl rfl ?_
    refine V_iload_n C 0 dX10_registered_25 rfl rfl ?_
    obtain ⟨y18, e19, h⟩ := h_b1_some h
    obtain ⟨r15, s16, e17, h⟩ := h_bd_some h
    refine V_cV (As := [.int x13]) (rest := []) C mv_RX10_147 (m_X10_isSite l D dA bs e17) e19 rfl rfl (Nat.le_trans h_w0 (by decide)) (h_fr B (by decide)) (h_lo B (by decide)) dX10_registered_26 ?_
    refine V_if_eq (tgt := 106) C dX10_registered_29 (by decide) (fun c20 => ?_) (fun c20 => ?_)
    · rw [if_pos c20] at h
      exact V_sub [2, 1, 0] rfl (jw_X10_registered_106 C B s16 a0 x3 x13  h)
    · rw [if_neg c20] at h
      refine V_aload_n C 2 dX10_registered_32 rfl rfl ?_
      obtain ⟨x129, e130, h⟩ := h_b1_some h
      refine V_getR C fl_RX10_112 dX10_registered_33 e130 ?_
      refine V_iconst (v := 3) C dX10_registered_36 (by decide) ?_
      obtain ⟨x131, e132, h⟩ := h_b1_some h
      refine V_iald C dX10_registered_37 e132 ?_
      refine V_iconst (v := 0) C dX10_registered_38 (by decide) ?_
      refine V_bipush (v := 15) C dX10_registered_39 (by decide) ?_
      obtain ⟨r133, s134, e135, h⟩ := h_bd_some h
      refine V_cS (As := [.int x131, .int 0, .int 15]) (rest := []) C ms_RX10_120 (m_X10_in l D dA bs e135) rfl rfl (Nat.le_trans h_w0 (by decide)) (h_fr B (by decide)) (h_lo B (by decide)) dX10_registered_41 ?_
      refine V_if_eq (tgt := 106) C dX10_registered_44 (by decide) (fun c136 => ?_) (fun c136 => ?_)
      · rw [if_pos c136] at h
        exact V_sub [2, 1, 0] rfl (jw_X10_registered_106 C B s134 a0 x3 x13  h)
      · rw [if_neg c136] at h
        refine V_aload_n C 2 dX10_registered_47 rfl rfl ?_
        obtain ⟨x137, e138, h⟩ := h_b1_some h
        refine V_getR C fl_RX10_112 dX10_registered_48 e138 ?_
        refine V_iconst (v := 1) C dX10_registered_51 (by decide) ?_
        obtain ⟨x139, e140, h⟩ := h_b1_some h
        refine V_iald C dX10_registered_52 e140 ?_
        refine V_aload_n C 2 dX10_registered_53 rfl rfl ?_
        obtain ⟨x141, e142, h⟩ := h_b1_some h
        refine V_getR C fl_RX10_112 dX10_registered_54 e142 ?_
        refine V_iconst (v := 2) C dX10_registered_57 (by decide) ?_
        obtain ⟨x143, e144, h⟩ := h_b1_some h
        refine V_iald C dX10_registered_58 e144 ?_
        obtain ⟨r145, s146, e147, h⟩ := h_bd_some h
        refine V_cS (As := [.int x139, .int x143]) (rest := []) C ms_RX10_135 (m_X10_isPrefix l D dA bs e147) rfl rfl (Nat.le_trans h_w0 (by decide)) (h_fr B (by decide)) (h_lo B (by decide)) dX10_registered_59 ?_
        refine V_if_eq (tgt := 106) C dX10_registered_62 (by decide) (fun c148 => ?_) (fun c148 => ?_)
        · rw [if_pos c148] at h
          exact V_sub [2, 1, 0] rfl (jw_X10_registered_106 C B s146 a0 x3 x13  h)
        · rw [if_neg c148] at h
          refine V_iload_n C 0 dX10_registered_65 rfl rfl ?_
          refine V_aload_n C 2 dX10_registered_66 rfl rfl ?_
          obtain ⟨x149, e150, h⟩ := h_b1_some h
          refine V_getR C fl_RX10_112 dX10_registered_67 e150 ?_
          refine V_iconst (v := 1) C dX10_registered_70 (by decide) ?_
          obtain ⟨x151, e152, h⟩ := h_b1_some h
          refine V_iald C dX10_registered_71 e152 ?_
          refine V_aload_n C 2 dX10_registered_72 rfl rfl ?_
          obtain ⟨x153, e154, h⟩ := h_b1_some h
          refine V_getR C fl_RX10_112 dX10_registered_73 e154 ?_
          refine V_iconst (v := 2) C dX10_registered_76 (by decide) ?_
          obtain ⟨x155, e156, h⟩ := h_b1_some h
          refine V_iald C dX10_registered_77 e156 ?_
          refine V_aload_n C 2 dX10_registered_78 rfl rfl ?_
          obtain ⟨x157, e158, h⟩ := h_b1_some h
          refine V_getR C fl_RX10_112 dX10_registered_79 e158 ?_
          refine V_iconst (v := 3) C dX10_registered_82 (by decide) ?_
          obtain ⟨x159, e160, h⟩ := h_b1_some h
          refine V_iald C dX10_registered_83 e160 ?_
          refine V_aload_n C 2 dX10_registered_84 rfl rfl ?_
          obtain ⟨x161, e162, h⟩ := h_b1_some h
          refine V_getR C fl_RX10_112 dX10_registered_85 e162 ?_
          refine V_iconst (v := 4) C dX10_registered_88 (by decide) ?_
          obtain ⟨x163, e164, h⟩ := h_b1_some h
          refine V_iald C dX10_registered_89 e164 ?_
          obtain ⟨r165, s166, e167, h⟩ := h_bd_some h
          refine V_cS (As := [.int x13, .int x151, .int x155, .int x159, .int x163]) (rest := []) C ms_RX10_168 (m_X10_tag l D dA bs e167) rfl rfl (Nat.le_trans h_w0 (by decide)) (h_fr B (by decide)) (h_lo B (by decide)) dX10_registered_90 ?_
          refine V_aload_n C 2 dX10_registered_93 rfl rfl ?_
          obtain ⟨x168, e169, h⟩ := h_b1_some h
          refine V_getR C fl_RX10_112 dX10_registered_94 e169 ?_
          refine V_iconst (v := 5) C dX10_registered_97 (by decide) ?_
          obtain ⟨x170, e171, h⟩ := h_b1_some h
          refine V_iald C dX10_registered_98 e171 ?_
          refine V_icmp_ne (tgt := 106) C dX10_registered_99 (by decide) (fun c172 => ?_) (fun c172 => ?_)
          · rw [if_neg c172] at h
            exact V_sub [2, 1, 0] rfl (jw_X10_registered_106 C B s166 a0 x3 x13  h)
          · rw [if_pos c172] at h
            refine V_iconst (v := 1) C dX10_registered_102 (by decide) ?_
            refine V_goto (tgt := 107) C dX10_registered_103 (by decide) ?_
            exact V_sub [2, 1, 0] rfl (jw_X10_registered_107 C B s166 a0 x3 x13 1 h)
  · rw [if_pos c10] at h
    cases h
    exact V_vret C B dX10_registered_16
/-! X10_draw -/
theorem dX10_draw_0 : decode cX10_draw 0 = .ok (.aload_n 0, 1) := by decide +kernel
theorem dX10_draw_1 : decode cX10_draw 1 = .ok (.dup, 1) := by decide +kernel
theorem dX10_draw_2 : decode cX10_draw 2 = .ok (.getfield 7, 3) := by decide +kernel
theorem dX10_draw_5 : decode cX10_draw 5 = .ok (.aload_n 0, 1) := by decide +kernel
theorem dX10_draw_6 : decode cX10_draw 6 = .ok (.getfield 7, 3) := by decide +kernel
theorem dX10_draw_9 : decode cX10_draw 9 = .ok (.bipush 13, 2) := by decide +kernel
theorem dX10_draw_11 : decode cX10_draw 11 = .ok (.ishl, 1) := by decide +kernel
theorem dX10_draw_12 : decode cX10_draw 12 = .ok (.ixor, 1) := by decide +kernel
theorem dX10_draw_13 : decode cX10_draw 13 = .ok (.putfield 7, 3) := by decide +kernel
theorem dX10_draw_16 : decode cX10_draw 16 = .ok (.aload_n 0, 1) := by decide +kernel
theorem dX10_draw_17 : decode cX10_draw 17 = .ok (.dup, 1) := by decide +kernel
theorem dX10_draw_18 : decode cX10_draw 18 = .ok (.getfield 7, 3) := by decide +kernel
theorem dX10_draw_21 : decode cX10_draw 21 = .ok (.aload_n 0, 1) := by decide +kernel
theorem dX10_draw_22 : decode cX10_draw 22 = .ok (.getfield 7, 3) := by decide +kernel
theorem dX10_draw_25 : decode cX10_draw 25 = .ok (.bipush 17, 2) := by decide +kernel
theorem dX10_draw_27 : decode cX10_draw 27 = .ok (.iushr, 1) := by decide +kernel
theorem dX10_draw_28 : decode cX10_draw 28 = .ok (.ixor, 1) := by decide +kernel
theorem dX10_draw_29 : decode cX10_draw 29 = .ok (.putfield 7, 3) := by decide +kernel
theorem dX10_draw_32 : decode cX10_draw 32 = .ok (.aload_n 0, 1) := by decide +kernel
theorem dX10_draw_33 : decode cX10_draw 33 = .ok (.dup, 1) := by decide +kernel
theorem dX10_draw_34 : decode cX10_draw 34 = .ok (.getfield 7, 3) := by decide +kernel
theorem dX10_draw_37 : decode cX10_draw 37 = .ok (.aload_n 0, 1) := by decide +kernel
theorem dX10_draw_38 : decode cX10_draw 38 = .ok (.getfield 7, 3) := by decide +kernel
theorem dX10_draw_41 : decode cX10_draw 41 = .ok (.iconst 5, 1) := by decide +kernel
theorem dX10_draw_42 : decode cX10_draw 42 = .ok (.ishl, 1) := by decide +kernel
theorem dX10_draw_43 : decode cX10_draw 43 = .ok (.ixor, 1) := by decide +kernel
theorem dX10_draw_44 : decode cX10_draw 44 = .ok (.putfield 7, 3) := by decide +kernel
theorem dX10_draw_47 : decode cX10_draw 47 = .ok (.return_, 1) := by decide +kernel
def f_X10_draw (σ : HS) (a0 : Option Nat) : Option (Unit × HS) :=
  h_b1 (h_gI σ a0 11 2) fun x1 =>
  h_b1 (h_gI σ a0 11 2) fun x3 =>
  h_b1 (h_pI σ a0 11 2 (x1 ^^^ (x3 <<< (13 &&& 31)))) fun s5 =>
  h_b1 (h_gI s5 a0 11 2) fun x7 =>
  h_b1 (h_gI s5 a0 11 2) fun x9 =>
  h_b1 (h_pI s5 a0 11 2 (x7 ^^^ (h_ushr x9 17))) fun s11 =>
  h_b1 (h_gI s11 a0 11 2) fun x13 =>
  h_b1 (h_gI s11 a0 11 2) fun x15 =>
  h_b1 (h_pI s11 a0 11 2 (x13 ^^^ (x15 <<< (5 &&& 31)))) fun s17 =>
  some ((), s17)
set_option maxHeartbeats 4000000 in
set_option maxRecDepth 100000 in
theorem m_X10_draw (l : Launch) (D : va_G) (dA : Nat → ClassId) (bs : Nat) {σ σ' : HS} {a0 : Option Nat} (h : f_X10_draw σ a0 = some ((), σ')) : MetC l yX10_draw cX10_draw 1 none 0 0 D dA bs [va_rf a0] none σ σ' := by
  refine MetC.of (by decide) (h_avR h_av0) (Nat.le_of_ble_eq_true rfl) ?_
  intro p e R s m args below meth c C B hnm
  unfold f_X10_draw at h
  refine V_sub (lv' := [(0, va_rf a0)]) [0] rfl ?_
  refine V_aload_n C 0 dX10_draw_0 rfl rfl ?_
  refine V_dupR C dX10_draw_1 ?_
  obtain ⟨x1, e2, h⟩ := h_b1_some h
  refine V_getI C fl_RX10_7 dX10_draw_2 e2 ?_
  refine V_aload_n C 0 dX10_draw_5 rfl rfl ?_
  obtain ⟨x3, e4, h⟩ := h_b1_some h
  refine V_getI C fl_RX10_7 dX10_draw_6 e4 ?_
  refine V_bipush (v := 13) C dX10_draw_9 (by decide) ?_
  refine V_ishl C dX10_draw_11 ?_
  refine V_ixor C dX10_draw_12 ?_
  obtain ⟨s5, e6, h⟩ := h_b1_some h
  refine V_putI C fw_RX10_7 dX10_draw_13 e6 ?_
  refine V_aload_n C 0 dX10_draw_16 rfl rfl ?_
  refine V_dupR C dX10_draw_17 ?_
  obtain ⟨x7, e8, h⟩ := h_b1_some h
  refine V_getI C fl_RX10_7 dX10_draw_18 e8 ?_
  refine V_aload_n C 0 dX10_draw_21 rfl rfl ?_
  obtain ⟨x9, e10, h⟩ := h_b1_some h
  refine V_getI C fl_RX10_7 dX10_draw_22 e10 ?_
  refine V_bipush (v := 17) C dX10_draw_25 (by decide) ?_
  refine V_iushr C dX10_draw_27 ?_
  refine V_ixor C dX10_draw_28 ?_
  obtain ⟨s11, e12, h⟩ := h_b1_some h
  refine V_putI C fw_RX10_7 dX10_draw_29 e12 ?_
  refine V_aload_n C 0 dX10_draw_32 rfl rfl ?_
  refine V_dupR C dX10_draw_33 ?_
  obtain ⟨x13, e14, h⟩ := h_b1_some h
  refine V_getI C fl_RX10_7 dX10_draw_34 e14 ?_
  refine V_aload_n C 0 dX10_draw_37 rfl rfl ?_
  obtain ⟨x15, e16, h⟩ := h_b1_some h
  refine V_getI C fl_RX10_7 dX10_draw_38 e16 ?_
  refine V_iconst (v := 5) C dX10_draw_41 (by decide) ?_
  refine V_ishl C dX10_draw_42 ?_
  refine V_ixor C dX10_draw_43 ?_
  obtain ⟨s17, e18, h⟩ := h_b1_some h
  refine V_putI C fw_RX10_7 dX10_draw_44 e18 ?_
  cases h
  exact V_vret C B dX10_draw_47
/-! X10_ask -/
theorem dX10_ask_0 : decode cX10_ask 0 = .ok (.aload_n 0, 1) := by decide +kernel
theorem dX10_ask_1 : decode cX10_ask 1 = .ok (.invokevirtual 228, 3) := by decide +kernel
theorem dX10_ask_4 : decode cX10_ask 4 = .ok (.aload_n 0, 1) := by decide +kernel
theorem dX10_ask_5 : decode cX10_ask 5 = .ok (.getfield 94, 3) := by decide +kernel
theorem dX10_ask_8 : decode cX10_ask 8 = .ok (.iload_n 1, 1) := by decide +kernel
theorem dX10_ask_9 : decode cX10_ask 9 = .ok (.iconst 0, 1) := by decide +kernel
theorem dX10_ask_10 : decode cX10_ask 10 = .ok (.iastore, 1) := by decide +kernel
theorem dX10_ask_11 : decode cX10_ask 11 = .ok (.aload_n 0, 1) := by decide +kernel
theorem dX10_ask_12 : decode cX10_ask 12 = .ok (.getfield 97, 3) := by decide +kernel
theorem dX10_ask_15 : decode cX10_ask 15 = .ok (.iload_n 1, 1) := by decide +kernel
theorem dX10_ask_16 : decode cX10_ask 16 = .ok (.aload_n 0, 1) := by decide +kernel
theorem dX10_ask_17 : decode cX10_ask 17 = .ok (.getfield 7, 3) := by decide +kernel
theorem dX10_ask_20 : decode cX10_ask 20 = .ok (.iastore, 1) := by decide +kernel
theorem dX10_ask_21 : decode cX10_ask 21 = .ok (.aload_n 0, 1) := by decide +kernel
theorem dX10_ask_22 : decode cX10_ask 22 = .ok (.iconst 1, 1) := by decide +kernel
theorem dX10_ask_23 : decode cX10_ask 23 = .ok (.iload_n 2, 1) := by decide +kernel
theorem dX10_ask_24 : decode cX10_ask 24 = .ok (.aload_n 0, 1) := by decide +kernel
theorem dX10_ask_25 : decode cX10_ask 25 = .ok (.getfield 88, 3) := by decide +kernel
theorem dX10_ask_28 : decode cX10_ask 28 = .ok (.iload_n 1, 1) := by decide +kernel
theorem dX10_ask_29 : decode cX10_ask 29 = .ok (.iaload, 1) := by decide +kernel
theorem dX10_ask_30 : decode cX10_ask 30 = .ok (.aload_n 0, 1) := by decide +kernel
theorem dX10_ask_31 : decode cX10_ask 31 = .ok (.getfield 7, 3) := by decide +kernel
theorem dX10_ask_34 : decode cX10_ask 34 = .ok (.aload_n 0, 1) := by decide +kernel
theorem dX10_ask_35 : decode cX10_ask 35 = .ok (.getfield 91, 3) := by decide +kernel
theorem dX10_ask_38 : decode cX10_ask 38 = .ok (.iload_n 1, 1) := by decide +kernel
theorem dX10_ask_39 : decode cX10_ask 39 = .ok (.iaload, 1) := by decide +kernel
theorem dX10_ask_40 : decode cX10_ask 40 = .ok (.iconst 0, 1) := by decide +kernel
theorem dX10_ask_41 : decode cX10_ask 41 = .ok (.iconst 0, 1) := by decide +kernel
theorem dX10_ask_42 : decode cX10_ask 42 = .ok (.invokevirtual 164, 3) := by decide +kernel
theorem dX10_ask_45 : decode cX10_ask 45 = .ok (.return_, 1) := by decide +kernel
def f_X10_ask (σ : HS) (a0 : Option Nat) (a1 : Int32) (a2 : Int32) : Option (Unit × HS) :=
  h_b1 (h_rcv σ a0 11) fun y4 =>
  h_bd (f_X10_draw σ a0) fun _ s2 =>
  h_b1 (h_gR s2 a0 11 31) fun x6 =>
  h_b1 (h_sI s2 x6 100 a1 0) fun s8 =>
  h_b1 (h_gR s8 a0 11 32) fun x10 =>
  h_b1 (h_gI s8 a0 11 2) fun x12 =>
  h_b1 (h_sI s8 x10 100 a1 x12) fun s14 =>
  h_b1 (h_gR s14 a0 11 29) fun x16 =>
  h_b1 (h_aI s14 x16 100 a1) fun x18 =>
  h_b1 (h_gI s14 a0 11 2) fun x20 =>
  h_b1 (h_gR s14 a0 11 30) fun x22 =>
  h_b1 (h_aI s14 x22 100 a1) fun x24 =>
  h_b1 (h_rcv s14 a0 11) fun y29 =>
  h_bd (f_X10_post s14 a0 1 a2 x18 x20 x24 0 0) fun _ s27 =>
  some ((), s27)
set_option maxHeartbeats 4000000 in
set_option maxRecDepth 100000 in
theorem m_X10_ask (l : Launch) (D : va_G) (dA : Nat → ClassId) (bs : Nat) {σ σ' : HS} {a0 : Option Nat} {a1 : Int32} {a2 : Int32} (h : f_X10_ask σ a0 a1 a2 = some ((), σ')) : MetC l yX10_ask cX10_ask 3 none 1 28 D dA bs [va_rf a0, .int a1, .int a2] none σ σ' := by
  refine MetC.of (by decide) (h_avR (h_avI (h_avI h_av0))) (Nat.le_of_ble_eq_true rfl) ?_
  intro p e R s m args below meth c C B hnm
  unfold f_X10_ask at h
  refine V_sub (lv' := [(0, va_rf a0), (1, .int a1), (2, .int a2)]) [0, 1, 2] rfl ?_
  refine V_aload_n C 0 dX10_ask_0 rfl rfl ?_
  obtain ⟨y4, e5, h⟩ := h_b1_some h
  obtain ⟨r1, s2, e3, h⟩ := h_bd_some h
  refine V_cV (As := []) (rest := []) C mv_RX10_228 (m_X10_draw l D dA bs e3) e5 rfl rfl (Nat.le_trans h_w0 (by decide)) (h_fr B (by decide)) (h_lo B (by decide)) dX10_ask_1 ?_
  refine V_aload_n C 0 dX10_ask_4 rfl rfl ?_
  obtain ⟨x6, e7, h⟩ := h_b1_some h
  refine V_getR C fl_RX10_94 dX10_ask_5 e7 ?_
  refine V_iload_n C 1 dX10_ask_8 rfl rfl ?_
  refine V_iconst (v := 0) C dX10_ask_9 (by decide) ?_
  obtain ⟨s8, e9, h⟩ := h_b1_some h
  refine V_iast C dX10_ask_10 e9 ?_
  refine V_aload_n C 0 dX10_ask_11 rfl rfl ?_
  obtain ⟨x10, e11, h⟩ := h_b1_some h
  refine V_getR C fl_RX10_97 dX10_ask_12 e11 ?_
  refine V_iload_n C 1 dX10_ask_15 rfl rfl ?_
  refine V_aload_n C 0 dX10_ask_16 rfl rfl ?_
  obtain ⟨x12, e13, h⟩ := h_b1_some h
  refine V_getI C fl_RX10_7 dX10_ask_17 e13 ?_
  obtain ⟨s14, e15, h⟩ := h_b1_some h
  refine V_iast C dX10_ask_20 e15 ?_
  refine V_aload_n C 0 dX10_ask_21 rfl rfl ?_
  refine V_iconst (v := 1) C dX10_ask_22 (by decide) ?_
  refine V_iload_n C 2 dX10_ask_23 rfl rfl ?_
  refine V_aload_n C 0 dX10_ask_24 rfl rfl ?_
  obtain ⟨x16, e17, h⟩ := h_b1_some h
  refine V_getR C fl_RX10_88 dX10_ask_25 e17 ?_
  refine V_iload_n C 1 dX10_ask_28 rfl rfl ?_
  obtain ⟨x18, e19, h⟩ := h_b1_some h
  refine V_iald C dX10_ask_29 e19 ?_
  refine V_aload_n C 0 dX10_ask_30 rfl rfl ?_
  obtain ⟨x20, e21, h⟩ := h_b1_some h
  refine V_getI C fl_RX10_7 dX10_ask_31 e21 ?_
  refine V_aload_n C 0 dX10_ask_34 rfl rfl ?_
  obtain ⟨x22, e23, h⟩ := h_b1_some h
  refine V_getR C fl_RX10_91 dX10_ask_35 e23 ?_
  refine V_iload_n C 1 dX10_ask_38 rfl rfl ?_
  obtain ⟨x24, e25, h⟩ := h_b1_some h
  refine V_iald C dX10_ask_39 e25 ?_
  refine V_iconst (v := 0) C dX10_ask_40 (by decide) ?_
  refine V_iconst (v := 0) C dX10_ask_41 (by decide) ?_
  obtain ⟨y29, e30, h⟩ := h_b1_some h
  obtain ⟨r26, s27, e28, h⟩ := h_bd_some h
  refine V_cV (As := [.int 1, .int a2, .int x18, .int x20, .int x24, .int 0, .int 0]) (rest := []) C mv_RX10_164 (m_X10_post l D dA bs e28) e30 rfl rfl (Nat.le_trans h_w0 (by decide)) (h_fr B (by decide)) (h_lo B (by decide)) dX10_ask_42 ?_
  cases h
  exact V_vret C B dX10_ask_45
/-! X10_follow -/
theorem dX10_follow_0 : decode cX10_follow 0 = .ok (.aload_n 0, 1) := by decide +kernel
theorem dX10_follow_1 : decode cX10_follow 1 = .ok (.getfield 94, 3) := by decide +kernel
theorem dX10_follow_4 : decode cX10_follow 4 = .ok (.iload_n 1, 1) := by decide +kernel
theorem dX10_follow_5 : decode cX10_follow 5 = .ok (.iload_n 2, 1) := by decide +kernel
theorem dX10_follow_6 : decode cX10_follow 6 = .ok (.iconst (-1), 1) := by decide +kernel
theorem dX10_follow_7 : decode cX10_follow 7 = .ok (.if_icmp .ne 7, 3) := by decide +kernel
theorem dX10_follow_10 : decode cX10_follow 10 = .ok (.iconst 3, 1) := by decide +kernel
theorem dX10_follow_11 : decode cX10_follow 11 = .ok (.goto 4, 3) := by decide +kernel
theorem dX10_follow_14 : decode cX10_follow 14 = .ok (.iconst 1, 1) := by decide +kernel
theorem dX10_follow_15 : decode cX10_follow 15 = .ok (.iastore, 1) := by decide +kernel
theorem dX10_follow_16 : decode cX10_follow 16 = .ok (.iload_n 2, 1) := by decide +kernel
theorem dX10_follow_17 : decode cX10_follow 17 = .ok (.iconst (-1), 1) := by decide +kernel
theorem dX10_follow_18 : decode cX10_follow 18 = .ok (.if_icmp .eq 24, 3) := by decide +kernel
theorem dX10_follow_21 : decode cX10_follow 21 = .ok (.aload_n 0, 1) := by decide +kernel
theorem dX10_follow_22 : decode cX10_follow 22 = .ok (.iconst 3, 1) := by decide +kernel
theorem dX10_follow_23 : decode cX10_follow 23 = .ok (.iload_n 2, 1) := by decide +kernel
theorem dX10_follow_24 : decode cX10_follow 24 = .ok (.aload_n 0, 1) := by decide +kernel
theorem dX10_follow_25 : decode cX10_follow 25 = .ok (.getfield 88, 3) := by decide +kernel
theorem dX10_follow_28 : decode cX10_follow 28 = .ok (.iload_n 1, 1) := by decide +kernel
theorem dX10_follow_29 : decode cX10_follow 29 = .ok (.iaload, 1) := by decide +kernel
theorem dX10_follow_30 : decode cX10_follow 30 = .ok (.iload_n 1, 1) := by decide +kernel
theorem dX10_follow_31 : decode cX10_follow 31 = .ok (.aload_n 0, 1) := by decide +kernel
theorem dX10_follow_32 : decode cX10_follow 32 = .ok (.getfield 91, 3) := by decide +kernel
theorem dX10_follow_35 : decode cX10_follow 35 = .ok (.iload_n 1, 1) := by decide +kernel
theorem dX10_follow_36 : decode cX10_follow 36 = .ok (.iaload, 1) := by decide +kernel
theorem dX10_follow_37 : decode cX10_follow 37 = .ok (.iconst 0, 1) := by decide +kernel
theorem dX10_follow_38 : decode cX10_follow 38 = .ok (.iconst 0, 1) := by decide +kernel
theorem dX10_follow_39 : decode cX10_follow 39 = .ok (.invokevirtual 164, 3) := by decide +kernel
theorem dX10_follow_42 : decode cX10_follow 42 = .ok (.return_, 1) := by decide +kernel
def j_X10_follow_15 (σ : HS) (l0 : Option Nat) (l1 : Int32) (l2 : Int32) (t0 : Int32) (t1 : Int32) (t2 : Option Nat) : Option (Unit × HS) :=
  h_b1 (h_sI σ t2 100 t1 t0) fun s4 =>
  if l2 = (-1) then
    some ((), s4)
  else
    h_b1 (h_gR s4 l0 11 29) fun x7 =>
    h_b1 (h_aI s4 x7 100 l1) fun x9 =>
    h_b1 (h_gR s4 l0 11 30) fun x11 =>
    h_b1 (h_aI s4 x11 100 l1) fun x13 =>
    h_b1 (h_rcv s4 l0 11) fun y18 =>
    h_bd (f_X10_post s4 l0 3 l2 x9 l1 x13 0 0) fun _ s16 =>
    some ((), s16)
def f_X10_follow (σ : HS) (a0 : Option Nat) (a1 : Int32) (a2 : Int32) : Option (Unit × HS) :=
  h_b1 (h_gR σ a0 11 31) fun x1 =>
  if a2 = (-1) then
    j_X10_follow_15 σ a0 a1 a2 3 a1 x1
  else
    j_X10_follow_15 σ a0 a1 a2 1 a1 x1
set_option maxHeartbeats 4000000 in
set_option maxRecDepth 100000 in
theorem jw_X10_follow_15 {p : Program} {l : Launch} {e : Env} {R : Room} {s : State} {m : MethodId} {args : Array Value} {below : List Frame} {meth : Method} {c : Code} {D : va_G} {dA : Nat → ClassId} {bs : Nat} (C : h_C p m c cX10_follow 3 s args RX10 D dA) {σ0 : HS} (B : h_B R s meth σ0 none 1 28) {σ' : HS} : ∀ (σ : HS) (l0 : Option Nat) (l1 : Int32) (l2 : Int32) (t0 : Int32) (t1 : Int32) (t2 : Option Nat), j_X10_follow_15 σ l0 l1 l2 t0 t1 t2 = some ((), σ') → V p l e R s m args below meth c D dA bs 3 (MQ below (h_Q D dA bs none σ0 σ') args s R.cells R.slots (fun q => bs ≤ q)) σ 15 [(0, va_rf l0), (1, .int l1), (2, .int l2)] [.int t0, .int t1, va_rf t2] := by
  intro σ l0 l1 l2 t0 t1 t2 h
  unfold j_X10_follow_15 at h
  obtain ⟨s4, e5, h⟩ := h_b1_some h
  refine V_iast C dX10_follow_15 e5 ?_
  refine V_iload_n C 2 dX10_follow_16 rfl rfl ?_
  refine V_iconst (v := (-1)) C dX10_follow_17 (by decide) ?_
  refine V_icmp_eq (tgt := 42) C dX10_follow_18 (by decide) (fun c6 => ?_) (fun c6 => ?_)
  · rw [if_pos c6] at h
    cases h
    exact V_vret C B dX10_follow_42
  · rw [if_neg c6] at h
    refine V_aload_n C 0 dX10_follow_21 rfl rfl ?_
    refine V_iconst (v := 3) C dX10_follow_22 (by decide) ?_
    refine V_iload_n C 2 dX10_follow_23 rfl rfl ?_
    refine V_aload_n C 0 dX10_follow_24 rfl rfl ?_
    obtain ⟨x7, e8, h⟩ := h_b1_some h
    refine V_getR C fl_RX10_88 dX10_follow_25 e8 ?_
    refine V_iload_n C 1 dX10_follow_28 rfl rfl ?_
    obtain ⟨x9, e10, h⟩ := h_b1_some h
    refine V_iald C dX10_follow_29 e10 ?_
    refine V_iload_n C 1 dX10_follow_30 rfl rfl ?_
    refine V_aload_n C 0 dX10_follow_31 rfl rfl ?_
    obtain ⟨x11, e12, h⟩ := h_b1_some h
    refine V_getR C fl_RX10_91 dX10_follow_32 e12 ?_
    refine V_iload_n C 1 dX10_follow_35 rfl rfl ?_
    obtain ⟨x13, e14, h⟩ := h_b1_some h
    refine V_iald C dX10_follow_36 e14 ?_
    refine V_iconst (v := 0) C dX10_follow_37 (by decide) ?_
    refine V_iconst (v := 0) C dX10_follow_38 (by decide) ?_
    obtain ⟨y18, e19, h⟩ := h_b1_some h
    obtain ⟨r15, s16, e17, h⟩ := h_bd_some h
    refine V_cV (As := [.int 3, .int l2, .int x9, .int l1, .int x13, .int 0, .int 0]) (rest := []) C mv_RX10_164 (m_X10_post l D dA bs e17) e19 rfl rfl (Nat.le_trans h_w0 (by decide)) (h_fr B (by decide)) (h_lo B (by decide)) dX10_follow_39 ?_
    cases h
    exact V_vret C B dX10_follow_42
set_option maxHeartbeats 4000000 in
set_option maxRecDepth 100000 in
theorem m_X10_follow (l : Launch) (D : va_G) (dA : Nat → ClassId) (bs : Nat) {σ σ' : HS} {a0 : Option Nat} {a1 : Int32} {a2 : Int32} (h : f_X10_follow σ a0 a1 a2 = some ((), σ')) : MetC l yX10_follow cX10_follow 3 none 1 28 D dA bs [va_rf a0, .int a1, .int a2] none σ σ' := by
  refine MetC.of (by decide) (h_avR (h_avI (h_avI h_av0))) (Nat.le_of_ble_eq_true rfl) ?_
  intro p e R s m args below meth c C B hnm
  unfold f_X10_follow at h
  refine V_sub (lv' := [(0, va_rf a0), (1, .int a1), (2, .int a2)]) [0, 1, 2] rfl ?_
  refine V_aload_n C 0 dX10_follow_0 rfl rfl ?_
  obtain ⟨x1, e2, h⟩ := h_b1_some h
  refine V_getR C fl_RX10_94 dX10_follow_1 e2 ?_
  refine V_iload_n C 1 dX10_follow_4 rfl rfl ?_
  refine V_iload_n C 2 dX10_follow_5 rfl rfl ?_
  refine V_iconst (v := (-1)) C dX10_follow_6 (by decide) ?_
  refine V_icmp_ne (tgt := 14) C dX10_follow_7 (by decide) (fun c3 => ?_) (fun c3 => ?_)
  · rw [if_neg c3] at h
    refine V_iconst (v := 1) C dX10_follow_14 (by decide) ?_
    exact V_sub [0, 1, 2] rfl (jw_X10_follow_15 C B σ a0 a1 a2 1 a1 x1 h)
  · rw [if_pos c3] at h
    refine V_iconst (v := 3) C dX10_follow_10 (by decide) ?_
    refine V_goto (tgt := 15) C dX10_follow_11 (by decide) ?_
    exact V_sub [0, 1, 2] rfl (jw_X10_follow_15 C B σ a0 a1 a2 3 a1 x1 h)
/-! X10_makeNote -/
theorem dX10_makeNote_0 : decode cX10_makeNote 0 = .ok (.iconst (-1), 1) := by decide +kernel
theorem dX10_makeNote_1 : decode cX10_makeNote 1 = .ok (.istore 6, 2) := by decide +kernel
theorem dX10_makeNote_3 : decode cX10_makeNote 3 = .ok (.bipush 6, 2) := by decide +kernel
theorem dX10_makeNote_5 : decode cX10_makeNote 5 = .ok (.iload_n 1, 1) := by decide +kernel
theorem dX10_makeNote_6 : decode cX10_makeNote 6 = .ok (.imul, 1) := by decide +kernel
theorem dX10_makeNote_7 : decode cX10_makeNote 7 = .ok (.istore 7, 2) := by decide +kernel
theorem dX10_makeNote_9 : decode cX10_makeNote 9 = .ok (.iload 7, 2) := by decide +kernel
theorem dX10_makeNote_11 : decode cX10_makeNote 11 = .ok (.bipush 6, 2) := by decide +kernel
theorem dX10_makeNote_13 : decode cX10_makeNote 13 = .ok (.iload_n 1, 1) := by decide +kernel
theorem dX10_makeNote_14 : decode cX10_makeNote 14 = .ok (.imul, 1) := by decide +kernel
theorem dX10_makeNote_15 : decode cX10_makeNote 15 = .ok (.bipush 6, 2) := by decide +kernel
theorem dX10_makeNote_17 : decode cX10_makeNote 17 = .ok (.iadd, 1) := by decide +kernel
theorem dX10_makeNote_18 : decode cX10_makeNote 18 = .ok (.if_icmp .ge 73, 3) := by decide +kernel
theorem dX10_makeNote_21 : decode cX10_makeNote 21 = .ok (.iload_n 2, 1) := by decide +kernel
theorem dX10_makeNote_22 : decode cX10_makeNote 22 = .ok (.iload_n 3, 1) := by decide +kernel
theorem dX10_makeNote_23 : decode cX10_makeNote 23 = .ok (.aload_n 0, 1) := by decide +kernel
theorem dX10_makeNote_24 : decode cX10_makeNote 24 = .ok (.getfield 64, 3) := by decide +kernel
theorem dX10_makeNote_27 : decode cX10_makeNote 27 = .ok (.iload 7, 2) := by decide +kernel
theorem dX10_makeNote_29 : decode cX10_makeNote 29 = .ok (.iaload, 1) := by decide +kernel
theorem dX10_makeNote_30 : decode cX10_makeNote 30 = .ok (.aload_n 0, 1) := by decide +kernel
theorem dX10_makeNote_31 : decode cX10_makeNote 31 = .ok (.getfield 67, 3) := by decide +kernel
theorem dX10_makeNote_34 : decode cX10_makeNote 34 = .ok (.iload 7, 2) := by decide +kernel
theorem dX10_makeNote_36 : decode cX10_makeNote 36 = .ok (.iaload, 1) := by decide +kernel
theorem dX10_makeNote_37 : decode cX10_makeNote 37 = .ok (.invokestatic 127, 3) := by decide +kernel
theorem dX10_makeNote_40 : decode cX10_makeNote 40 = .ok (.ifCond .ne 25, 3) := by decide +kernel
theorem dX10_makeNote_43 : decode cX10_makeNote 43 = .ok (.aload_n 0, 1) := by decide +kernel
theorem dX10_makeNote_44 : decode cX10_makeNote 44 = .ok (.getfield 64, 3) := by decide +kernel
theorem dX10_makeNote_47 : decode cX10_makeNote 47 = .ok (.iload 7, 2) := by decide +kernel
theorem dX10_makeNote_49 : decode cX10_makeNote 49 = .ok (.iaload, 1) := by decide +kernel
theorem dX10_makeNote_50 : decode cX10_makeNote 50 = .ok (.aload_n 0, 1) := by decide +kernel
theorem dX10_makeNote_51 : decode cX10_makeNote 51 = .ok (.getfield 67, 3) := by decide +kernel
theorem dX10_makeNote_54 : decode cX10_makeNote 54 = .ok (.iload 7, 2) := by decide +kernel
theorem dX10_makeNote_56 : decode cX10_makeNote 56 = .ok (.iaload, 1) := by decide +kernel
theorem dX10_makeNote_57 : decode cX10_makeNote 57 = .ok (.iload_n 2, 1) := by decide +kernel
theorem dX10_makeNote_58 : decode cX10_makeNote 58 = .ok (.iload_n 3, 1) := by decide +kernel
theorem dX10_makeNote_59 : decode cX10_makeNote 59 = .ok (.invokestatic 127, 3) := by decide +kernel
theorem dX10_makeNote_62 : decode cX10_makeNote 62 = .ok (.ifCond .eq 7, 3) := by decide +kernel
theorem dX10_makeNote_65 : decode cX10_makeNote 65 = .ok (.iconst 1, 1) := by decide +kernel
theorem dX10_makeNote_66 : decode cX10_makeNote 66 = .ok (.goto 4, 3) := by decide +kernel
theorem dX10_makeNote_69 : decode cX10_makeNote 69 = .ok (.iconst 0, 1) := by decide +kernel
theorem dX10_makeNote_70 : decode cX10_makeNote 70 = .ok (.istore 8, 2) := by decide +kernel
theorem dX10_makeNote_72 : decode cX10_makeNote 72 = .ok (.iload 8, 2) := by decide +kernel
theorem dX10_makeNote_74 : decode cX10_makeNote 74 = .ok (.ifCond .eq 11, 3) := by decide +kernel
theorem dX10_makeNote_77 : decode cX10_makeNote 77 = .ok (.aload_n 0, 1) := by decide +kernel
theorem dX10_makeNote_78 : decode cX10_makeNote 78 = .ok (.getfield 76, 3) := by decide +kernel
theorem dX10_makeNote_81 : decode cX10_makeNote 81 = .ok (.iload 7, 2) := by decide +kernel
theorem dX10_makeNote_83 : decode cX10_makeNote 83 = .ok (.iconst 0, 1) := by decide +kernel
theorem dX10_makeNote_84 : decode cX10_makeNote 84 = .ok (.iastore, 1) := by decide +kernel
theorem dX10_makeNote_85 : decode cX10_makeNote 85 = .ok (.iinc 7 1, 3) := by decide +kernel
theorem dX10_makeNote_88 : decode cX10_makeNote 88 = .ok (.goto (-79), 3) := by decide +kernel
theorem dX10_makeNote_91 : decode cX10_makeNote 91 = .ok (.bipush 6, 2) := by decide +kernel
theorem dX10_makeNote_93 : decode cX10_makeNote 93 = .ok (.iload_n 1, 1) := by decide +kernel
theorem dX10_makeNote_94 : decode cX10_makeNote 94 = .ok (.imul, 1) := by decide +kernel
theorem dX10_makeNote_95 : decode cX10_makeNote 95 = .ok (.istore 7, 2) := by decide +kernel
theorem dX10_makeNote_97 : decode cX10_makeNote 97 = .ok (.iload 7, 2) := by decide +kernel
theorem dX10_makeNote_99 : decode cX10_makeNote 99 = .ok (.bipush 6, 2) := by decide +kernel
theorem dX10_makeNote_101 : decode cX10_makeNote 101 = .ok (.iload_n 1, 1) := by decide +kernel
theorem dX10_makeNote_102 : decode cX10_makeNote 102 = .ok (.imul, 1) := by decide +kernel
theorem dX10_makeNote_103 : decode cX10_makeNote 103 = .ok (.bipush 6, 2) := by decide +kernel
theorem dX10_makeNote_105 : decode cX10_makeNote 105 = .ok (.iadd, 1) := by decide +kernel
theorem dX10_makeNote_106 : decode cX10_makeNote 106 = .ok (.if_icmp .ge 119, 3) := by decide +kernel
theorem dX10_makeNote_109 : decode cX10_makeNote 109 = .ok (.aload_n 0, 1) := by decide +kernel
theorem dX10_makeNote_110 : decode cX10_makeNote 110 = .ok (.getfield 76, 3) := by decide +kernel
theorem dX10_makeNote_113 : decode cX10_makeNote 113 = .ok (.iload 7, 2) := by decide +kernel
theorem dX10_makeNote_115 : decode cX10_makeNote 115 = .ok (.iaload, 1) := by decide +kernel
theorem dX10_makeNote_116 : decode cX10_makeNote 116 = .ok (.aload_n 0, 1) := by decide +kernel
theorem dX10_makeNote_117 : decode cX10_makeNote 117 = .ok (.getfield 150, 3) := by decide +kernel
theorem dX10_makeNote_120 : decode cX10_makeNote 120 = .ok (.if_icmp .le 13, 3) := by decide +kernel
theorem dX10_makeNote_123 : decode cX10_makeNote 123 = .ok (.aload_n 0, 1) := by decide +kernel
theorem dX10_makeNote_124 : decode cX10_makeNote 124 = .ok (.getfield 76, 3) := by decide +kernel
theorem dX10_makeNote_127 : decode cX10_makeNote 127 = .ok (.iload 7, 2) := by decide +kernel
theorem dX10_makeNote_129 : decode cX10_makeNote 129 = .ok (.iaload, 1) := by decide +kernel
theorem dX10_makeNote_130 : decode cX10_makeNote 130 = .ok (.goto 4, 3) := by decide +kernel
theorem dX10_makeNote_133 : decode cX10_makeNote 133 = .ok (.iconst 0, 1) := by decide +kernel
theorem dX10_makeNote_134 : decode cX10_makeNote 134 = .ok (.istore 8, 2) := by decide +kernel
theorem dX10_makeNote_136 : decode cX10_makeNote 136 = .ok (.iload 6, 2) := by decide +kernel
theorem dX10_makeNote_138 : decode cX10_makeNote 138 = .ok (.iconst (-1), 1) := by decide +kernel
theorem dX10_makeNote_139 : decode cX10_makeNote 139 = .ok (.if_icmp .ne 7, 3) := by decide +kernel
theorem dX10_makeNote_142 : decode cX10_makeNote 142 = .ok (.iconst 0, 1) := by decide +kernel
theorem dX10_makeNote_143 : decode cX10_makeNote 143 = .ok (.goto 28, 3) := by decide +kernel
theorem dX10_makeNote_146 : decode cX10_makeNote 146 = .ok (.aload_n 0, 1) := by decide +kernel
theorem dX10_makeNote_147 : decode cX10_makeNote 147 = .ok (.getfield 76, 3) := by decide +kernel
theorem dX10_makeNote_150 : decode cX10_makeNote 150 = .ok (.iload 6, 2) := by decide +kernel
theorem dX10_makeNote_152 : decode cX10_makeNote 152 = .ok (.iaload, 1) := by decide +kernel
theorem dX10_makeNote_153 : decode cX10_makeNote 153 = .ok (.aload_n 0, 1) := by decide +kernel
theorem dX10_makeNote_154 : decode cX10_makeNote 154 = .ok (.getfield 150, 3) := by decide +kernel
theorem dX10_makeNote_157 : decode cX10_makeNote 157 = .ok (.if_icmp .le 13, 3) := by decide +kernel
theorem dX10_makeNote_160 : decode cX10_makeNote 160 = .ok (.aload_n 0, 1) := by decide +kernel
theorem dX10_makeNote_161 : decode cX10_makeNote 161 = .ok (.getfield 76, 3) := by decide +kernel
theorem dX10_makeNote_164 : decode cX10_makeNote 164 = .ok (.iload 6, 2) := by decide +kernel
theorem dX10_makeNote_166 : decode cX10_makeNote 166 = .ok (.iaload, 1) := by decide +kernel
theorem dX10_makeNote_167 : decode cX10_makeNote 167 = .ok (.goto 4, 3) := by decide +kernel
theorem dX10_makeNote_170 : decode cX10_makeNote 170 = .ok (.iconst 0, 1) := by decide +kernel
theorem dX10_makeNote_171 : decode cX10_makeNote 171 = .ok (.istore 9, 2) := by decide +kernel
theorem dX10_makeNote_173 : decode cX10_makeNote 173 = .ok (.iload 6, 2) := by decide +kernel
theorem dX10_makeNote_175 : decode cX10_makeNote 175 = .ok (.iconst (-1), 1) := by decide +kernel
theorem dX10_makeNote_176 : decode cX10_makeNote 176 = .ok (.if_icmp .eq 39, 3) := by decide +kernel
theorem dX10_makeNote_179 : decode cX10_makeNote 179 = .ok (.iload 8, 2) := by decide +kernel
theorem dX10_makeNote_181 : decode cX10_makeNote 181 = .ok (.iload 9, 2) := by decide +kernel
theorem dX10_makeNote_183 : decode cX10_makeNote 183 = .ok (.if_icmp .lt 32, 3) := by decide +kernel
theorem dX10_makeNote_186 : decode cX10_makeNote 186 = .ok (.iload 8, 2) := by decide +kernel
theorem dX10_makeNote_188 : decode cX10_makeNote 188 = .ok (.iload 9, 2) := by decide +kernel
theorem dX10_makeNote_190 : decode cX10_makeNote 190 = .ok (.if_icmp .ne 29, 3) := by decide +kernel
theorem dX10_makeNote_193 : decode cX10_makeNote 193 = .ok (.iload 8, 2) := by decide +kernel
theorem dX10_makeNote_195 : decode cX10_makeNote 195 = .ok (.ifCond .le 24, 3) := by decide +kernel
theorem dX10_makeNote_198 : decode cX10_makeNote 198 = .ok (.aload_n 0, 1) := by decide +kernel
theorem dX10_makeNote_199 : decode cX10_makeNote 199 = .ok (.getfield 79, 3) := by decide +kernel
theorem dX10_makeNote_202 : decode cX10_makeNote 202 = .ok (.iload 7, 2) := by decide +kernel
theorem dX10_makeNote_204 : decode cX10_makeNote 204 = .ok (.iaload, 1) := by decide +kernel
theorem dX10_makeNote_205 : decode cX10_makeNote 205 = .ok (.aload_n 0, 1) := by decide +kernel
theorem dX10_makeNote_206 : decode cX10_makeNote 206 = .ok (.getfield 79, 3) := by decide +kernel
theorem dX10_makeNote_209 : decode cX10_makeNote 209 = .ok (.iload 6, 2) := by decide +kernel
theorem dX10_makeNote_211 : decode cX10_makeNote 211 = .ok (.iaload, 1) := by decide +kernel
theorem dX10_makeNote_212 : decode cX10_makeNote 212 = .ok (.if_icmp .ge 7, 3) := by decide +kernel
theorem dX10_makeNote_215 : decode cX10_makeNote 215 = .ok (.iload 7, 2) := by decide +kernel
theorem dX10_makeNote_217 : decode cX10_makeNote 217 = .ok (.istore 6, 2) := by decide +kernel
theorem dX10_makeNote_219 : decode cX10_makeNote 219 = .ok (.iinc 7 1, 3) := by decide +kernel
theorem dX10_makeNote_222 : decode cX10_makeNote 222 = .ok (.goto (-125), 3) := by decide +kernel
theorem dX10_makeNote_225 : decode cX10_makeNote 225 = .ok (.aload_n 0, 1) := by decide +kernel
theorem dX10_makeNote_226 : decode cX10_makeNote 226 = .ok (.dup, 1) := by decide +kernel
theorem dX10_makeNote_227 : decode cX10_makeNote 227 = .ok (.getfield 225, 3) := by decide +kernel
theorem dX10_makeNote_230 : decode cX10_makeNote 230 = .ok (.iconst 1, 1) := by decide +kernel
theorem dX10_makeNote_231 : decode cX10_makeNote 231 = .ok (.iadd, 1) := by decide +kernel
theorem dX10_makeNote_232 : decode cX10_makeNote 232 = .ok (.putfield 225, 3) := by decide +kernel
theorem dX10_makeNote_235 : decode cX10_makeNote 235 = .ok (.aload_n 0, 1) := by decide +kernel
theorem dX10_makeNote_236 : decode cX10_makeNote 236 = .ok (.getfield 64, 3) := by decide +kernel
theorem dX10_makeNote_239 : decode cX10_makeNote 239 = .ok (.iload 6, 2) := by decide +kernel
theorem dX10_makeNote_241 : decode cX10_makeNote 241 = .ok (.iload_n 2, 1) := by decide +kernel
theorem dX10_makeNote_242 : decode cX10_makeNote 242 = .ok (.iastore, 1) := by decide +kernel
theorem dX10_makeNote_243 : decode cX10_makeNote 243 = .ok (.aload_n 0, 1) := by decide +kernel
theorem dX10_makeNote_244 : decode cX10_makeNote 244 = .ok (.getfield 67, 3) := by decide +kernel
theorem dX10_makeNote_247 : decode cX10_makeNote 247 = .ok (.iload 6, 2) := by decide +kernel
theorem dX10_makeNote_249 : decode cX10_makeNote 249 = .ok (.iload_n 3, 1) := by decide +kernel
theorem dX10_makeNote_250 : decode cX10_makeNote 250 = .ok (.iastore, 1) := by decide +kernel
theorem dX10_makeNote_251 : decode cX10_makeNote 251 = .ok (.aload_n 0, 1) := by decide +kernel
theorem dX10_makeNote_252 : decode cX10_makeNote 252 = .ok (.getfield 70, 3) := by decide +kernel
theorem dX10_makeNote_255 : decode cX10_makeNote 255 = .ok (.iload 6, 2) := by decide +kernel
theorem dX10_makeNote_257 : decode cX10_makeNote 257 = .ok (.iload 4, 2) := by decide +kernel
theorem dX10_makeNote_259 : decode cX10_makeNote 259 = .ok (.iastore, 1) := by decide +kernel
theorem dX10_makeNote_260 : decode cX10_makeNote 260 = .ok (.aload_n 0, 1) := by decide +kernel
theorem dX10_makeNote_261 : decode cX10_makeNote 261 = .ok (.getfield 73, 3) := by decide +kernel
theorem dX10_makeNote_264 : decode cX10_makeNote 264 = .ok (.iload 6, 2) := by decide +kernel
theorem dX10_makeNote_266 : decode cX10_makeNote 266 = .ok (.iload 5, 2) := by decide +kernel
theorem dX10_makeNote_268 : decode cX10_makeNote 268 = .ok (.iastore, 1) := by decide +kernel
theorem dX10_makeNote_269 : decode cX10_makeNote 269 = .ok (.aload_n 0, 1) := by decide +kernel
theorem dX10_makeNote_270 : decode cX10_makeNote 270 = .ok (.getfield 76, 3) := by decide +kernel
theorem dX10_makeNote_273 : decode cX10_makeNote 273 = .ok (.iload 6, 2) := by decide +kernel
theorem dX10_makeNote_275 : decode cX10_makeNote 275 = .ok (.aload_n 0, 1) := by decide +kernel
theorem dX10_makeNote_276 : decode cX10_makeNote 276 = .ok (.getfield 150, 3) := by decide +kernel
theorem dX10_makeNote_279 : decode cX10_makeNote 279 = .ok (.bipush 60, 2) := by decide +kernel
theorem dX10_makeNote_281 : decode cX10_makeNote 281 = .ok (.iadd, 1) := by decide +kernel
theorem dX10_makeNote_282 : decode cX10_makeNote 282 = .ok (.iastore, 1) := by decide +kernel
theorem dX10_makeNote_283 : decode cX10_makeNote 283 = .ok (.aload_n 0, 1) := by decide +kernel
theorem dX10_makeNote_284 : decode cX10_makeNote 284 = .ok (.getfield 79, 3) := by decide +kernel
theorem dX10_makeNote_287 : decode cX10_makeNote 287 = .ok (.iload 6, 2) := by decide +kernel
theorem dX10_makeNote_289 : decode cX10_makeNote 289 = .ok (.aload_n 0, 1) := by decide +kernel
theorem dX10_makeNote_290 : decode cX10_makeNote 290 = .ok (.getfield 225, 3) := by decide +kernel
theorem dX10_makeNote_293 : decode cX10_makeNote 293 = .ok (.iastore, 1) := by decide +kernel
theorem dX10_makeNote_294 : decode cX10_makeNote 294 = .ok (.return_, 1) := by decide +kernel
def g_X10_makeNote_97 : Nat → HS → Option Nat → Int32 → Int32 → Int32 → Int32 → Int32 → Int32 → Int32 → Option (Unit × HS)
  | 0, _, _, _, _, _, _, _, _, _ => none
  | n + 1, σ, l0, l1, l2, l3, l4, l5, l6, l7 =>
    if ((6 * l1) + 6) ≤ l7 then
      h_b1 (h_gI σ l0 11 25) fun x3 =>
      h_b1 (h_pI σ l0 11 25 (x3 + 1)) fun s5 =>
      h_b1 (h_gR s5 l0 11 19) fun x7 =>
      h_b1 (h_sI s5 x7 100 l6 l2) fun s9 =>
      h_b1 (h_gR s9 l0 11 20) fun x11 =>
      h_b1 (h_sI s9 x11 100 l6 l3) fun s13 =>
      h_b1 (h_gR s13 l0 11 21) fun x15 =>
      h_b1 (h_sI s13 x15 100 l6 l4) fun s17 =>
      h_b1 (h_gR s17 l0 11 22) fun x19 =>
      h_b1 (h_sI s17 x19 100 l6 l5) fun s21 =>
      h_b1 (h_gR s21 l0 11 23) fun x23 =>
      h_b1 (h_gI s21 l0 11 1) fun x25 =>
      h_b1 (h_sI s21 x23 100 l6 (x25 + 60)) fun s27 =>
      h_b1 (h_gR s27 l0 11 24) fun x29 =>
      h_b1 (h_gI s27 l0 11 25) fun x31 =>
      h_b1 (h_sI s27 x29 100 l6 x31) fun s33 =>
      some ((), s33)
    else
      h_b1 (h_gR σ l0 11 23) fun x35 =>
      h_b1 (h_aI σ x35 100 l7) fun x37 =>
      h_b1 (h_gI σ l0 11 1) fun x39 =>
      if x37 ≤ x39 then
        if l6 = (-1) then
          if l6 = (-1) then
            g_X10_makeNote_97 n σ l0 l1 l2 l3 l4 l5 l7 (l7 + 1)
          else
            if (0 : Int32) < 0 then
              g_X10_makeNote_97 n σ l0 l1 l2 l3 l4 l5 l7 (l7 + 1)
            else
              if (0 : Int32) = 0 then
                if (0 : Int32) ≤ 0 then
                  g_X10_makeNote_97 n σ l0 l1 l2 l3 l4 l5 l6 (l7 + 1)
                else
                  h_b1 (h_gR σ l0 11 24) fun x84 =>
                  h_b1 (h_aI σ x84 100 l7) fun x86 =>
                  h_b1 (h_gR σ l0 11 24) fun x88 =>
                  h_b1 (h_aI σ x88 100 l6) fun x90 =>
                  if x90 ≤ x86 then
                    g_X10_makeNote_97 n σ l0 l1 l2 l3 l4 l5 l6 (l7 + 1)
                  else
                    g_X10_makeNote_97 n σ l0 l1 l2 l3 l4 l5 l7 (l7 + 1)
              else
                g_X10_makeNote_97 n σ l0 l1 l2 l3 l4 l5 l6 (l7 + 1)
        else
          h_b1 (h_gR σ l0 11 23) fun x43 =>
          h_b1 (h_aI σ x43 100 l6) fun x45 =>
          h_b1 (h_gI σ l0 11 1) fun x47 =>
          if x45 ≤ x47 then
            if l6 = (-1) then
              g_X10_makeNote_97 n σ l0 l1 l2 l3 l4 l5 l7 (l7 + 1)
            else
              if (0 : Int32) < 0 then
                g_X10_makeNote_97 n σ l0 l1 l2 l3 l4 l5 l7 (l7 + 1)
              else
                if (0 : Int32) = 0 then
                  if (0 : Int32) ≤ 0 then
                    g_X10_makeNote_97 n σ l0 l1 l2 l3 l4 l5 l6 (l7 + 1)
                  else
                    h_b1 (h_gR σ l0 11 24) fun x54 =>
                    h_b1 (h_aI σ x54 100 l7) fun x56 =>
                    h_b1 (h_gR σ l0 11 24) fun x58 =>
                    h_b1 (h_aI σ x58 100 l6) fun x60 =>
                    if x60 ≤ x56 then
                      g_X10_makeNote_97 n σ l0 l1 l2 l3 l4 l5 l6 (l7 + 1)
                    else
                      g_X10_makeNote_97 n σ l0 l1 l2 l3 l4 l5 l7 (l7 + 1)
                else
                  g_X10_makeNote_97 n σ l0 l1 l2 l3 l4 l5 l6 (l7 + 1)
          else
            h_b1 (h_gR σ l0 11 23) fun x63 =>
            h_b1 (h_aI σ x63 100 l6) fun x65 =>
            if l6 = (-1) then
              g_X10_makeNote_97 n σ l0 l1 l2 l3 l4 l5 l7 (l7 + 1)
            else
              if 0 < x65 then
                g_X10_makeNote_97 n σ l0 l1 l2 l3 l4 l5 l7 (l7 + 1)
              else
                if 0 = x65 then
                  if (0 : Int32) ≤ 0 then
                    g_X10_makeNote_97 n σ l0 l1 l2 l3 l4 l5 l6 (l7 + 1)
                  else
                    h_b1 (h_gR σ l0 11 24) fun x71 =>
                    h_b1 (h_aI σ x71 100 l7) fun x73 =>
                    h_b1 (h_gR σ l0 11 24) fun x75 =>
                    h_b1 (h_aI σ x75 100 l6) fun x77 =>
                    if x77 ≤ x73 then
                      g_X10_makeNote_97 n σ l0 l1 l2 l3 l4 l5 l6 (l7 + 1)
                    else
                      g_X10_makeNote_97 n σ l0 l1 l2 l3 l4 l5 l7 (l7 + 1)
                else
                  g_X10_makeNote_97 n σ l0 l1 l2 l3 l4 l5 l6 (l7 + 1)
      else
        h_b1 (h_gR σ l0 11 23) fun x93 =>
        h_b1 (h_aI σ x93 100 l7) fun x95 =>
        if l6 = (-1) then
          if l6 = (-1) then
            g_X10_makeNote_97 n σ l0 l1 l2 l3 l4 l5 l7 (l7 + 1)
          else
            if x95 < 0 then
              g_X10_makeNote_97 n σ l0 l1 l2 l3 l4 l5 l7 (l7 + 1)
            else
              if x95 = 0 then
                if x95 ≤ 0 then
                  g_X10_makeNote_97 n σ l0 l1 l2 l3 l4 l5 l6 (l7 + 1)
                else
                  h_b1 (h_gR σ l0 11 24) fun x139 =>
                  h_b1 (h_aI σ x139 100 l7) fun x141 =>
                  h_b1 (h_gR σ l0 11 24) fun x143 =>
                  h_b1 (h_aI σ x143 100 l6) fun x145 =>
                  if x145 ≤ x141 then
                    g_X10_makeNote_97 n σ l0 l1 l2 l3 l4 l5 l6 (l7 + 1)
                  else
                    g_X10_makeNote_97 n σ l0 l1 l2 l3 l4 l5 l7 (l7 + 1)
              else
                g_X10_makeNote_97 n σ l0 l1 l2 l3 l4 l5 l6 (l7 + 1)
        else
          h_b1 (h_gR σ l0 11 23) fun x98 =>
          h_b1 (h_aI σ x98 100 l6) fun x100 =>
          h_b1 (h_gI σ l0 11 1) fun x102 =>
          if x100 ≤ x102 then
            if l6 = (-1) then
              g_X10_makeNote_97 n σ l0 l1 l2 l3 l4 l5 l7 (l7 + 1)
            else
              if x95 < 0 then
                g_X10_makeNote_97 n σ l0 l1 l2 l3 l4 l5 l7 (l7 + 1)
              else
                if x95 = 0 then
                  if x95 ≤ 0 then
                    g_X10_makeNote_97 n σ l0 l1 l2 l3 l4 l5 l6 (l7 + 1)
                  else
                    h_b1 (h_gR σ l0 11 24) fun x109 =>
                    h_b1 (h_aI σ x109 100 l7) fun x111 =>
                    h_b1 (h_gR σ l0 11 24) fun x113 =>
                    h_b1 (h_aI σ x113 100 l6) fun x115 =>
                    if x115 ≤ x111 then
                      g_X10_makeNote_97 n σ l0 l1 l2 l3 l4 l5 l6 (l7 + 1)
                    else
                      g_X10_makeNote_97 n σ l0 l1 l2 l3 l4 l5 l7 (l7 + 1)
                else
                  g_X10_makeNote_97 n σ l0 l1 l2 l3 l4 l5 l6 (l7 + 1)
          else
            h_b1 (h_gR σ l0 11 23) fun x118 =>
            h_b1 (h_aI σ x118 100 l6) fun x120 =>
            if l6 = (-1) then
              g_X10_makeNote_97 n σ l0 l1 l2 l3 l4 l5 l7 (l7 + 1)
            else
              if x95 < x120 then
                g_X10_makeNote_97 n σ l0 l1 l2 l3 l4 l5 l7 (l7 + 1)
              else
                if x95 = x120 then
                  if x95 ≤ 0 then
                    g_X10_makeNote_97 n σ l0 l1 l2 l3 l4 l5 l6 (l7 + 1)
                  else
                    h_b1 (h_gR σ l0 11 24) fun x126 =>
                    h_b1 (h_aI σ x126 100 l7) fun x128 =>
                    h_b1 (h_gR σ l0 11 24) fun x130 =>
                    h_b1 (h_aI σ x130 100 l6) fun x132 =>
                    if x132 ≤ x128 then
                      g_X10_makeNote_97 n σ l0 l1 l2 l3 l4 l5 l6 (l7 + 1)
                    else
                      g_X10_makeNote_97 n σ l0 l1 l2 l3 l4 l5 l7 (l7 + 1)
                else
                  g_X10_makeNote_97 n σ l0 l1 l2 l3 l4 l5 l6 (l7 + 1)
def g_X10_makeNote_9 : Nat → HS → Option Nat → Int32 → Int32 → Int32 → Int32 → Int32 → Int32 → Int32 → Option (Unit × HS)
  | 0, _, _, _, _, _, _, _, _, _ => none
  | n + 1, σ, l0, l1, l2, l3, l4, l5, l6, l7 =>
    if ((6 * l1) + 6) ≤ l7 then
      g_X10_makeNote_97 h_hN σ l0 l1 l2 l3 l4 l5 l6 (6 * l1)
    else
      h_b1 (h_gR σ l0 11 19) fun x148 =>
      h_b1 (h_aI σ x148 100 l7) fun x150 =>
      h_b1 (h_gR σ l0 11 20) fun x152 =>
      h_b1 (h_aI σ x152 100 l7) fun x154 =>
      h_bd (f_X10_holds σ l2 l3 x150 x154) fun r156 s157 =>
      if r156 = 0 then
        h_b1 (h_gR s157 l0 11 19) fun x165 =>
        h_b1 (h_aI s157 x165 100 l7) fun x167 =>
        h_b1 (h_gR s157 l0 11 20) fun x169 =>
        h_b1 (h_aI s157 x169 100 l7) fun x171 =>
        h_bd (f_X10_holds s157 x167 x171 l2 l3) fun r173 s174 =>
        if r173 = 0 then
          if (0 : Int32) = 0 then
            g_X10_makeNote_9 n s174 l0 l1 l2 l3 l4 l5 l6 (l7 + 1)
          else
            h_b1 (h_gR s174 l0 11 23) fun x178 =>
            h_b1 (h_sI s174 x178 100 l7 0) fun s180 =>
            g_X10_makeNote_9 n s180 l0 l1 l2 l3 l4 l5 l6 (l7 + 1)
        else
          if (1 : Int32) = 0 then
            g_X10_makeNote_9 n s174 l0 l1 l2 l3 l4 l5 l6 (l7 + 1)
          else
            h_b1 (h_gR s174 l0 11 23) fun x183 =>
            h_b1 (h_sI s174 x183 100 l7 0) fun s185 =>
            g_X10_makeNote_9 n s185 l0 l1 l2 l3 l4 l5 l6 (l7 + 1)
      else
        if (1 : Int32) = 0 then
          g_X10_makeNote_9 n s157 l0 l1 l2 l3 l4 l5 l6 (l7 + 1)
        else
          h_b1 (h_gR s157 l0 11 23) fun x161 =>
          h_b1 (h_sI s157 x161 100 l7 0) fun s163 =>
          g_X10_makeNote_9 n s163 l0 l1 l2 l3 l4 l5 l6 (l7 + 1)
def f_X10_makeNote (σ : HS) (a0 : Option Nat) (a1 : Int32) (a2 : Int32) (a3 : Int32) (a4 : Int32) (a5 : Int32) : Option (Unit × HS) :=
  g_X10_makeNote_9 h_hN σ a0 a1 a2 a3 a4 a5 (-1) (6 * a1)
set_option maxHeartbeats 4000000 in
set_option maxRecDepth 100000 in
theorem w_X10_makeNote_97 {p : Program} {l : Launch} {e : Env} {R : Room} {s : State} {m : MethodId} {args : Array Value} {below : List Frame} {meth : Method} {c : Code} {D : va_G} {dA : Nat → ClassId} {bs : Nat} (C : h_C p m c cX10_makeNote 10 s args RX10 D dA) {σ0 : HS} (B : h_B R s meth σ0 none 2 45) {σ' : HS} : ∀ (n : Nat) (σ : HS) (l0 : Option Nat) (l1 : Int32) (l2 : Int32) (l3 : Int32) (l4 : Int32) (l5 : Int32) (l6 : Int32) (l7 : Int32), g_X10_makeNote_97 n σ l0 l1 l2 l3 l4 l5 l6 l7 = some ((), σ') → V p l e R s m args below meth c D dA bs 10 (MQ below (h_Q D dA bs none σ0 σ') args s R.cells R.slots (fun q => bs ≤ q)) σ 97 [(0, va_rf l0), (1, .int l1), (2, .int l2), (3, .int l3), (4, .int l4), (5, .int l5), (6, .int l6), (7, .int l7)] [] := by
  intro n
  induction n with
  | zero =>
    intro σ l0 l1 l2 l3 l4 l5 l6 l7 h
    rw [g_X10_makeNote_97] at h
    cases h
  | succ n ih =>
    intro σ l0 l1 l2 l3 l4 l5 l6 l7 h
    rw [g_X10_makeNote_97] at h
    refine V_iload C 7 dX10_makeNote_97 rfl ?_
    refine V_bipush (v := 6) C dX10_makeNote_99 (by decide) ?_
    refine V_iload_n C 1 dX10_makeNote_101 rfl rfl ?_
    refine V_imul C dX10_makeNote_102 ?_
    refine V_bipush (v := 6) C dX10_makeNote_103 (by decide) ?_
    refine V_iadd C dX10_makeNote_105 ?_
    refine V_icmp_ge (tgt := 225) C dX10_makeNote_106 (by decide) (fun c2 => ?_) (fun c2 => ?_)
    · rw [if_pos c2] at h
      refine V_aload_n C 0 dX10_makeNote_225 rfl rfl ?_
      refine V_dupR C dX10_makeNote_226 ?_
      obtain ⟨x3, e4, h⟩ := h_b1_some h
      refine V_getI C fl_RX10_225 dX10_makeNote_227 e4 ?_
      refine V_iconst (v := 1) C dX10_makeNote_230 (by decide) ?_
      refine V_iadd C dX10_makeNote_231 ?_
      obtain ⟨s5, e6, h⟩ := h_b1_some h
      refine V_putI C fw_RX10_225 dX10_makeNote_232 e6 ?_
      refine V_aload_n C 0 dX10_makeNote_235 rfl rfl ?_
      obtain ⟨x7, e8, h⟩ := h_b1_some h
      refine V_getR C fl_RX10_64 dX10_makeNote_236 e8 ?_
      refine V_iload C 6 dX10_makeNote_239 rfl ?_
      refine V_iload_n C 2 dX10_makeNote_241 rfl rfl ?_
      obtain ⟨s9, e10, h⟩ := h_b1_some h
      refine V_iast C dX10_makeNote_242 e10 ?_
      refine V_aload_n C 0 dX10_makeNote_243 rfl rfl ?_
      obtain ⟨x11, e12, h⟩ := h_b1_some h
      refine V_getR C fl_RX10_67 dX10_makeNote_244 e12 ?_
      refine V_iload C 6 dX10_makeNote_247 rfl ?_
      refine V_iload_n C 3 dX10_makeNote_249 rfl rfl ?_
      obtain ⟨s13, e14, h⟩ := h_b1_some h
      refine V_iast C dX10_makeNote_250 e14 ?_
      refine V_aload_n C 0 dX10_makeNote_251 rfl rfl ?_
      obtain ⟨x15, e16, h⟩ := h_b1_some h
      refine V_getR C fl_RX10_70 dX10_makeNote_252 e16 ?_
      refine V_iload C 6 dX10_makeNote_255 rfl ?_
      refine V_iload C 4 dX10_makeNote_257 rfl ?_
      obtain ⟨s17, e18, h⟩ := h_b1_some h
      refine V_iast C dX10_makeNote_259 e18 ?_
      refine V_aload_n C 0 dX10_makeNote_260 rfl rfl ?_
      obtain ⟨x19, e20, h⟩ := h_b1_some h
      refine V_getR C fl_RX10_73 dX10_makeNote_261 e20 ?_
      refine V_iload C 6 dX10_makeNote_264 rfl ?_
      refine V_iload C 5 dX10_makeNote_266 rfl ?_
      obtain ⟨s21, e22, h⟩ := h_b1_some h
      refine V_iast C dX10_makeNote_268 e22 ?_
      refine V_aload_n C 0 dX10_makeNote_269 rfl rfl ?_
      obtain ⟨x23, e24, h⟩ := h_b1_some h
      refine V_getR C fl_RX10_76 dX10_makeNote_270 e24 ?_
      refine V_iload C 6 dX10_makeNote_273 rfl ?_
      refine V_aload_n C 0 dX10_makeNote_275 rfl rfl ?_
      obtain ⟨x25, e26, h⟩ := h_b1_some h
      refine V_getI C fl_RX10_150 dX10_makeNote_276 e26 ?_
      refine V_bipush (v := 60) C dX10_makeNote_279 (by decide) ?_
      refine V_iadd C dX10_makeNote_281 ?_
      obtain ⟨s27, e28, h⟩ := h_b1_some h
      refine V_iast C dX10_makeNote_282 e28 ?_
      refine V_aload_n C 0 dX10_makeNote_283 rfl rfl ?_
      obtain ⟨x29, e30, h⟩ := h_b1_some h
      refine V_getR C fl_RX10_79 dX10_makeNote_284 e30 ?_
      refine V_iload C 6 dX10_makeNote_287 rfl ?_
      refine V_aload_n C 0 dX10_makeNote_289 rfl rfl ?_
      obtain ⟨x31, e32, h⟩ := h_b1_some h
      refine V_getI C fl_RX10_225 dX10_makeNote_290 e32 ?_
      obtain ⟨s33, e34, h⟩ := h_b1_some h
      refine V_iast C dX10_makeNote_293 e34 ?_
      cases h
      exact V_vret C B dX10_makeNote_294
    · rw [if_neg c2] at h
      refine V_aload_n C 0 dX10_makeNote_109 rfl rfl ?_
      obtain ⟨x35, e36, h⟩ := h_b1_some h
      refine V_getR C fl_RX10_76 dX10_makeNote_110 e36 ?_
      refine V_iload C 7 dX10_makeNote_113 rfl ?_
      obtain ⟨x37, e38, h⟩ := h_b1_some h
      refine V_iald C dX10_makeNote_115 e38 ?_
      refine V_aload_n C 0 dX10_makeNote_116 rfl rfl ?_
      obtain ⟨x39, e40, h⟩ := h_b1_some h
      refine V_getI C fl_RX10_150 dX10_makeNote_117 e40 ?_
      refine V_icmp_le (tgt := 133) C dX10_makeNote_120 (by decide) (fun c41 => ?_) (fun c41 => ?_)
      · rw [if_pos c41] at h
        refine V_iconst (v := 0) C dX10_makeNote_133 (by decide) ?_
        refine V_istore (lv' := [(8, .int 0), (0, va_rf l0), (1, .int l1), (2, .int l2), (3, .int l3), (4, .int l4), (5, .int l5), (6, .int l6), (7, .int l7)]) C dX10_makeNote_134 (by decide) rfl ?_
        refine V_iload C 7 dX10_makeNote_136 rfl ?_
        refine V_iconst (v := (-1)) C dX10_makeNote_138 (by decide) ?_
        refine V_icmp_ne (tgt := 146) C dX10_makeNote_139 (by decide) (fun c42 => ?_) (fun c42 => ?_)
        · rw [if_neg c42] at h
          refine V_aload_n C 1 dX10_makeNote_146 rfl rfl ?_
          obtain ⟨x43, e44, h⟩ := h_b1_some h
          refine V_getR C fl_RX10_76 dX10_makeNote_147 e44 ?_
          refine V_iload C 7 dX10_makeNote_150 rfl ?_
          obtain ⟨x45, e46, h⟩ := h_b1_some h
          refine V_iald C dX10_makeNote_152 e46 ?_
          refine V_aload_n C 1 dX10_makeNote_153 rfl rfl ?_
          obtain ⟨x47, e48, h⟩ := h_b1_some h
          refine V_getI C fl_RX10_150 dX10_makeNote_154 e48 ?_
          refine V_icmp_le (tgt := 170) C dX10_makeNote_157 (by decide) (fun c49 => ?_) (fun c49 => ?_)
          · rw [if_pos c49] at h
            refine V_iconst (v := 0) C dX10_makeNote_170 (by decide) ?_
            refine V_istore (lv' := [(9, .int 0), (8, .int 0), (0, va_rf l0), (1, .int l1), (2, .int l2), (3, .int l3), (4, .int l4), (5, .int l5), (6, .int l6), (7, .int l7)]) C dX10_makeNote_171 (by decide) rfl ?_
            refine V_iload C 8 dX10_makeNote_173 rfl ?_
            refine V_iconst (v := (-1)) C dX10_makeNote_175 (by decide) ?_
            refine V_icmp_eq (tgt := 215) C dX10_makeNote_176 (by decide) (fun c50 => ?_) (fun c50 => ?_)
            · rw [if_pos c50] at h
              refine V_iload C 9 dX10_makeNote_215 rfl ?_
              refine V_istore (lv' := [(6, .int l7), (9, .int 0), (8, .int 0), (0, va_rf l0), (1, .int l1), (2, .int l2), (3, .int l3), (4, .int l4), (5, .int l5), (7, .int l7)]) C dX10_makeNote_217 (by decide) rfl ?_
              refine V_iinc (v := (l7 + 1)) (lv' := [(7, .int (l7 + 1)), (6, .int l7), (9, .int 0), (8, .int 0), (0, va_rf l0), (1, .int l1), (2, .int l2), (3, .int l3), (4, .int l4), (5, .int l5)]) C 9 dX10_makeNote_219 rfl rfl (by decide) rfl ?_
              refine V_goto (tgt := 97) C dX10_makeNote_222 (by decide) ?_
              exact V_sub [4, 5, 6, 7, 8, 9, 1, 0] rfl (ih σ l0 l1 l2 l3 l4 l5 l7 (l7 + 1) h)
            · rw [if_neg c50] at h
              refine V_iload C 1 dX10_makeNote_179 rfl ?_
              refine V_iload C 0 dX10_makeNote_181 rfl ?_
              refine V_icmp_lt (tgt := 215) C dX10_makeNote_183 (by decide) (fun c51 => ?_) (fun c51 => ?_)
              · rw [if_pos c51] at h
                refine V_iload C 9 dX10_makeNote_215 rfl ?_
                refine V_istore (lv' := [(6, .int l7), (9, .int 0), (8, .int 0), (0, va_rf l0), (1, .int l1), (2, .int l2), (3, .int l3), (4, .int l4), (5, .int l5), (7, .int l7)]) C dX10_makeNote_217 (by decide) rfl ?_
                refine V_iinc (v := (l7 + 1)) (lv' := [(7, .int (l7 + 1)), (6, .int l7), (9, .int 0), (8, .int 0), (0, va_rf l0), (1, .int l1), (2, .int l2), (3, .int l3), (4, .int l4), (5, .int l5)]) C 9 dX10_makeNote_219 rfl rfl (by decide) rfl ?_
                refine V_goto (tgt := 97) C dX10_makeNote_222 (by decide) ?_
                exact V_sub [4, 5, 6, 7, 8, 9, 1, 0] rfl (ih σ l0 l1 l2 l3 l4 l5 l7 (l7 + 1) h)
              · rw [if_neg c51] at h
                refine V_iload C 1 dX10_makeNote_186 rfl ?_
                refine V_iload C 0 dX10_makeNote_188 rfl ?_
                refine V_icmp_ne (tgt := 219) C dX10_makeNote_190 (by decide) (fun c52 => ?_) (fun c52 => ?_)
                · rw [if_neg c52] at h
                  refine V_iinc (v := (l7 + 1)) (lv' := [(7, .int (l7 + 1)), (9, .int 0), (8, .int 0), (0, va_rf l0), (1, .int l1), (2, .int l2), (3, .int l3), (4, .int l4), (5, .int l5), (6, .int l6)]) C 9 dX10_makeNote_219 rfl rfl (by decide) rfl ?_
                  refine V_goto (tgt := 97) C dX10_makeNote_222 (by decide) ?_
                  exact V_sub [3, 4, 5, 6, 7, 8, 9, 0] rfl (ih σ l0 l1 l2 l3 l4 l5 l6 (l7 + 1) h)
                · rw [if_pos c52] at h
                  refine V_iload C 1 dX10_makeNote_193 rfl ?_
                  refine V_if_le (tgt := 219) C dX10_makeNote_195 (by decide) (fun c53 => ?_) (fun c53 => ?_)
                  · rw [if_pos c53] at h
                    refine V_iinc (v := (l7 + 1)) (lv' := [(7, .int (l7 + 1)), (9, .int 0), (8, .int 0), (0, va_rf l0), (1, .int l1), (2, .int l2), (3, .int l3), (4, .int l4), (5, .int l5), (6, .int l6)]) C 9 dX10_makeNote_219 rfl rfl (by decide) rfl ?_
                    refine V_goto (tgt := 97) C dX10_makeNote_222 (by decide) ?_
                    exact V_sub [3, 4, 5, 6, 7, 8, 9, 0] rfl (ih σ l0 l1 l2 l3 l4 l5 l6 (l7 + 1) h)
                  · rw [if_neg c53] at h
                    refine V_aload_n C 2 dX10_makeNote_198 rfl rfl ?_
                    obtain ⟨x54, e55, h⟩ := h_b1_some h
                    refine V_getR C fl_RX10_79 dX10_makeNote_199 e55 ?_
                    refine V_iload C 9 dX10_makeNote_202 rfl ?_
                    obtain ⟨x56, e57, h⟩ := h_b1_some h
                    refine V_iald C dX10_makeNote_204 e57 ?_
                    refine V_aload_n C 2 dX10_makeNote_205 rfl rfl ?_
                    obtain ⟨x58, e59, h⟩ := h_b1_some h
                    refine V_getR C fl_RX10_79 dX10_makeNote_206 e59 ?_
                    refine V_iload C 8 dX10_makeNote_209 rfl ?_
                    obtain ⟨x60, e61, h⟩ := h_b1_some h
                    refine V_iald C dX10_makeNote_211 e61 ?_
                    refine V_icmp_ge (tgt := 219) C dX10_makeNote_212 (by decide) (fun c62 => ?_) (fun c62 => ?_)
                    · rw [if_pos c62] at h
                      refine V_iinc (v := (l7 + 1)) (lv' := [(7, .int (l7 + 1)), (9, .int 0), (8, .int 0), (0, va_rf l0), (1, .int l1), (2, .int l2), (3, .int l3), (4, .int l4), (5, .int l5), (6, .int l6)]) C 9 dX10_makeNote_219 rfl rfl (by decide) rfl ?_
                      refine V_goto (tgt := 97) C dX10_makeNote_222 (by decide) ?_
                      exact V_sub [3, 4, 5, 6, 7, 8, 9, 0] rfl (ih σ l0 l1 l2 l3 l4 l5 l6 (l7 + 1) h)
                    · rw [if_neg c62] at h
                      refine V_iload C 9 dX10_makeNote_215 rfl ?_
                      refine V_istore (lv' := [(6, .int l7), (9, .int 0), (8, .int 0), (0, va_rf l0), (1, .int l1), (2, .int l2), (3, .int l3), (4, .int l4), (5, .int l5), (7, .int l7)]) C dX10_makeNote_217 (by decide) rfl ?_
                      refine V_iinc (v := (l7 + 1)) (lv' := [(7, .int (l7 + 1)), (6, .int l7), (9, .int 0), (8, .int 0), (0, va_rf l0), (1, .int l1), (2, .int l2), (3, .int l3), (4, .int l4), (5, .int l5)]) C 9 dX10_makeNote_219 rfl rfl (by decide) rfl ?_
                      refine V_goto (tgt := 97) C dX10_makeNote_222 (by decide) ?_
                      exact V_sub [4, 5, 6, 7, 8, 9, 1, 0] rfl (ih σ l0 l1 l2 l3 l4 l5 l7 (l7 + 1) h)
          · rw [if_neg c49] at h
            refine V_aload_n C 1 dX10_makeNote_160 rfl rfl ?_
            obtain ⟨x63, e64, h⟩ := h_b1_some h
            refine V_getR C fl_RX10_76 dX10_makeNote_161 e64 ?_
            refine V_iload C 7 dX10_makeNote_164 rfl ?_
            obtain ⟨x65, e66, h⟩ := h_b1_some h
            refine V_iald C dX10_makeNote_166 e66 ?_
            refine V_goto (tgt := 171) C dX10_makeNote_167 (by decide) ?_
            refine V_istore (lv' := [(9, .int x65), (8, .int 0), (0, va_rf l0), (1, .int l1), (2, .int l2), (3, .int l3), (4, .int l4), (5, .int l5), (6, .int l6), (7, .int l7)]) C dX10_makeNote_171 (by decide) rfl ?_
            refine V_iload C 8 dX10_makeNote_173 rfl ?_
            refine V_iconst (v := (-1)) C dX10_makeNote_175 (by decide) ?_
            refine V_icmp_eq (tgt := 215) C dX10_makeNote_176 (by decide) (fun c67 => ?_) (fun c67 => ?_)
            · rw [if_pos c67] at h
              refine V_iload C 9 dX10_makeNote_215 rfl ?_
              refine V_istore (lv' := [(6, .int l7), (9, .int x65), (8, .int 0), (0, va_rf l0), (1, .int l1), (2, .int l2), (3, .int l3), (4, .int l4), (5, .int l5), (7, .int l7)]) C dX10_makeNote_217 (by decide) rfl ?_
              refine V_iinc (v := (l7 + 1)) (lv' := [(7, .int (l7 + 1)), (6, .int l7), (9, .int x65), (8, .int 0), (0, va_rf l0), (1, .int l1), (2, .int l2), (3, .int l3), (4, .int l4), (5, .int l5)]) C 9 dX10_makeNote_219 rfl rfl (by decide) rfl ?_
              refine V_goto (tgt := 97) C dX10_makeNote_222 (by decide) ?_
              exact V_sub [4, 5, 6, 7, 8, 9, 1, 0] rfl (ih σ l0 l1 l2 l3 l4 l5 l7 (l7 + 1) h)
            · rw [if_neg c67] at h
              refine V_iload C 1 dX10_makeNote_179 rfl ?_
              refine V_iload C 0 dX10_makeNote_181 rfl ?_
              refine V_icmp_lt (tgt := 215) C dX10_makeNote_183 (by decide) (fun c68 => ?_) (fun c68 => ?_)
              · rw [if_pos c68] at h
                refine V_iload C 9 dX10_makeNote_215 rfl ?_
                refine V_istore (lv' := [(6, .int l7), (9, .int x65), (8, .int 0), (0, va_rf l0), (1, .int l1), (2, .int l2), (3, .int l3), (4, .int l4), (5, .int l5), (7, .int l7)]) C dX10_makeNote_217 (by decide) rfl ?_
                refine V_iinc (v := (l7 + 1)) (lv' := [(7, .int (l7 + 1)), (6, .int l7), (9, .int x65), (8, .int 0), (0, va_rf l0), (1, .int l1), (2, .int l2), (3, .int l3), (4, .int l4), (5, .int l5)]) C 9 dX10_makeNote_219 rfl rfl (by decide) rfl ?_
                refine V_goto (tgt := 97) C dX10_makeNote_222 (by decide) ?_
                exact V_sub [4, 5, 6, 7, 8, 9, 1, 0] rfl (ih σ l0 l1 l2 l3 l4 l5 l7 (l7 + 1) h)
              · rw [if_neg c68] at h
                refine V_iload C 1 dX10_makeNote_186 rfl ?_
                refine V_iload C 0 dX10_makeNote_188 rfl ?_
                refine V_icmp_ne (tgt := 219) C dX10_makeNote_190 (by decide) (fun c69 => ?_) (fun c69 => ?_)
                · rw [if_neg c69] at h
                  refine V_iinc (v := (l7 + 1)) (lv' := [(7, .int (l7 + 1)), (9, .int x65), (8, .int 0), (0, va_rf l0), (1, .int l1), (2, .int l2), (3, .int l3), (4, .int l4), (5, .int l5), (6, .int l6)]) C 9 dX10_makeNote_219 rfl rfl (by decide) rfl ?_
                  refine V_goto (tgt := 97) C dX10_makeNote_222 (by decide) ?_
                  exact V_sub [3, 4, 5, 6, 7, 8, 9, 0] rfl (ih σ l0 l1 l2 l3 l4 l5 l6 (l7 + 1) h)
                · rw [if_pos c69] at h
                  refine V_iload C 1 dX10_makeNote_193 rfl ?_
                  refine V_if_le (tgt := 219) C dX10_makeNote_195 (by decide) (fun c70 => ?_) (fun c70 => ?_)
                  · rw [if_pos c70] at h
                    refine V_iinc (v := (l7 + 1)) (lv' := [(7, .int (l7 + 1)), (9, .int x65), (8, .int 0), (0, va_rf l0), (1, .int l1), (2, .int l2), (3, .int l3), (4, .int l4), (5, .int l5), (6, .int l6)]) C 9 dX10_makeNote_219 rfl rfl (by decide) rfl ?_
                    refine V_goto (tgt := 97) C dX10_makeNote_222 (by decide) ?_
                    exact V_sub [3, 4, 5, 6, 7, 8, 9, 0] rfl (ih σ l0 l1 l2 l3 l4 l5 l6 (l7 + 1) h)
                  · rw [if_neg c70] at h
                    refine V_aload_n C 2 dX10_makeNote_198 rfl rfl ?_
                    obtain ⟨x71, e72, h⟩ := h_b1_some h
                    refine V_getR C fl_RX10_79 dX10_makeNote_199 e72 ?_
                    refine V_iload C 9 dX10_makeNote_202 rfl ?_
                    obtain ⟨x73, e74, h⟩ := h_b1_some h
                    refine V_iald C dX10_makeNote_204 e74 ?_
                    refine V_aload_n C 2 dX10_makeNote_205 rfl rfl ?_
                    obtain ⟨x75, e76, h⟩ := h_b1_some h
                    refine V_getR C fl_RX10_79 dX10_makeNote_206 e76 ?_
                    refine V_iload C 8 dX10_makeNote_209 rfl ?_
                    obtain ⟨x77, e78, h⟩ := h_b1_some h
                    refine V_iald C dX10_makeNote_211 e78 ?_
                    refine V_icmp_ge (tgt := 219) C dX10_makeNote_212 (by decide) (fun c79 => ?_) (fun c79 => ?_)
                    · rw [if_pos c79] at h
                      refine V_iinc (v := (l7 + 1)) (lv' := [(7, .int (l7 + 1)), (9, .int x65), (8, .int 0), (0, va_rf l0), (1, .int l1), (2, .int l2), (3, .int l3), (4, .int l4), (5, .int l5), (6, .int l6)]) C 9 dX10_makeNote_219 rfl rfl (by decide) rfl ?_
                      refine V_goto (tgt := 97) C dX10_makeNote_222 (by decide) ?_
                      exact V_sub [3, 4, 5, 6, 7, 8, 9, 0] rfl (ih σ l0 l1 l2 l3 l4 l5 l6 (l7 + 1) h)
                    · rw [if_neg c79] at h
                      refine V_iload C 9 dX10_makeNote_215 rfl ?_
                      refine V_istore (lv' := [(6, .int l7), (9, .int x65), (8, .int 0), (0, va_rf l0), (1, .int l1), (2, .int l2), (3, .int l3), (4, .int l4), (5, .int l5), (7, .int l7)]) C dX10_makeNote_217 (by decide) rfl ?_
                      refine V_iinc (v := (l7 + 1)) (lv' := [(7, .int (l7 + 1)), (6, .int l7), (9, .int x65), (8, .int 0), (0, va_rf l0), (1, .int l1), (2, .int l2), (3, .int l3), (4, .int l4), (5, .int l5)]) C 9 dX10_makeNote_219 rfl rfl (by decide) rfl ?_
                      refine V_goto (tgt := 97) C dX10_makeNote_222 (by decide) ?_
                      exact V_sub [4, 5, 6, 7, 8, 9, 1, 0] rfl (ih σ l0 l1 l2 l3 l4 l5 l7 (l7 + 1) h)
        · rw [if_pos c42] at h
          refine V_iconst (v := 0) C dX10_makeNote_142 (by decide) ?_
          refine V_goto (tgt := 171) C dX10_makeNote_143 (by decide) ?_
          refine V_istore (lv' := [(9, .int 0), (8, .int 0), (0, va_rf l0), (1, .int l1), (2, .int l2), (3, .int l3), (4, .int l4), (5, .int l5), (6, .int l6), (7, .int l7)]) C dX10_makeNote_171 (by decide) rfl ?_
          refine V_iload C 8 dX10_makeNote_173 rfl ?_
          refine V_iconst (v := (-1)) C dX10_makeNote_175 (by decide) ?_
          refine V_icmp_eq (tgt := 215) C dX10_makeNote_176 (by decide) (fun c80 => ?_) (fun c80 => ?_)
          · rw [if_pos c80] at h
            refine V_iload C 9 dX10_makeNote_215 rfl ?_
            refine V_istore (lv' := [(6, .int l7), (9, .int 0), (8, .int 0), (0, va_rf l0), (1, .int l1), (2, .int l2), (3, .int l3), (4, .int l4), (5, .int l5), (7, .int l7)]) C dX10_makeNote_217 (by decide) rfl ?_
            refine V_iinc (v := (l7 + 1)) (lv' := [(7, .int (l7 + 1)), (6, .int l7), (9, .int 0), (8, .int 0), (0, va_rf l0), (1, .int l1), (2, .int l2), (3, .int l3), (4, .int l4), (5, .int l5)]) C 9 dX10_makeNote_219 rfl rfl (by decide) rfl ?_
            refine V_goto (tgt := 97) C dX10_makeNote_222 (by decide) ?_
            exact V_sub [4, 5, 6, 7, 8, 9, 1, 0] rfl (ih σ l0 l1 l2 l3 l4 l5 l7 (l7 + 1) h)
          · rw [if_neg c80] at h
            refine V_iload C 1 dX10_makeNote_179 rfl ?_
            refine V_iload C 0 dX10_makeNote_181 rfl ?_
            refine V_icmp_lt (tgt := 215) C dX10_makeNote_183 (by decide) (fun c81 => ?_) (fun c81 => ?_)
            · rw [if_pos c81] at h
              refine V_iload C 9 dX10_makeNote_215 rfl ?_
              refine V_istore (lv' := [(6, .int l7), (9, .int 0), (8, .int 0), (0, va_rf l0), (1, .int l1), (2, .int l2), (3, .int l3), (4, .int l4), (5, .int l5), (7, .int l7)]) C dX10_makeNote_217 (by decide) rfl ?_
              refine V_iinc (v := (l7 + 1)) (lv' := [(7, .int (l7 + 1)), (6, .int l7), (9, .int 0), (8, .int 0), (0, va_rf l0), (1, .int l1), (2, .int l2), (3, .int l3), (4, .int l4), (5, .int l5)]) C 9 dX10_makeNote_219 rfl rfl (by decide) rfl ?_
              refine V_goto (tgt := 97) C dX10_makeNote_222 (by decide) ?_
              exact V_sub [4, 5, 6, 7, 8, 9, 1, 0] rfl (ih σ l0 l1 l2 l3 l4 l5 l7 (l7 + 1) h)
            · rw [if_neg c81] at h
              refine V_iload C 1 dX10_makeNote_186 rfl ?_
              refine V_iload C 0 dX10_makeNote_188 rfl ?_
              refine V_icmp_ne (tgt := 219) C dX10_makeNote_190 (by decide) (fun c82 => ?_) (fun c82 => ?_)
              · rw [if_neg c82] at h
                refine V_iinc (v := (l7 + 1)) (lv' := [(7, .int (l7 + 1)), (9, .int 0), (8, .int 0), (0, va_rf l0), (1, .int l1), (2, .int l2), (3, .int l3), (4, .int l4), (5, .int l5), (6, .int l6)]) C 9 dX10_makeNote_219 rfl rfl (by decide) rfl ?_
                refine V_goto (tgt := 97) C dX10_makeNote_222 (by decide) ?_
                exact V_sub [3, 4, 5, 6, 7, 8, 9, 0] rfl (ih σ l0 l1 l2 l3 l4 l5 l6 (l7 + 1) h)
              · rw [if_pos c82] at h
                refine V_iload C 1 dX10_makeNote_193 rfl ?_
                refine V_if_le (tgt := 219) C dX10_makeNote_195 (by decide) (fun c83 => ?_) (fun c83 => ?_)
                · rw [if_pos c83] at h
                  refine V_iinc (v := (l7 + 1)) (lv' := [(7, .int (l7 + 1)), (9, .int 0), (8, .int 0), (0, va_rf l0), (1, .int l1), (2, .int l2), (3, .int l3), (4, .int l4), (5, .int l5), (6, .int l6)]) C 9 dX10_makeNote_219 rfl rfl (by decide) rfl ?_
                  refine V_goto (tgt := 97) C dX10_makeNote_222 (by decide) ?_
                  exact V_sub [3, 4, 5, 6, 7, 8, 9, 0] rfl (ih σ l0 l1 l2 l3 l4 l5 l6 (l7 + 1) h)
                · rw [if_neg c83] at h
                  refine V_aload_n C 2 dX10_makeNote_198 rfl rfl ?_
                  obtain ⟨x84, e85, h⟩ := h_b1_some h
                  refine V_getR C fl_RX10_79 dX10_makeNote_199 e85 ?_
                  refine V_iload C 9 dX10_makeNote_202 rfl ?_
                  obtain ⟨x86, e87, h⟩ := h_b1_some h
                  refine V_iald C dX10_makeNote_204 e87 ?_
                  refine V_aload_n C 2 dX10_makeNote_205 rfl rfl ?_
                  obtain ⟨x88, e89, h⟩ := h_b1_some h
                  refine V_getR C fl_RX10_79 dX10_makeNote_206 e89 ?_
                  refine V_iload C 8 dX10_makeNote_209 rfl ?_
                  obtain ⟨x90, e91, h⟩ := h_b1_some h
                  refine V_iald C dX10_makeNote_211 e91 ?_
                  refine V_icmp_ge (tgt := 219) C dX10_makeNote_212 (by decide) (fun c92 => ?_) (fun c92 => ?_)
                  · rw [if_pos c92] at h
                    refine V_iinc (v := (l7 + 1)) (lv' := [(7, .int (l7 + 1)), (9, .int 0), (8, .int 0), (0, va_rf l0), (1, .int l1), (2, .int l2), (3, .int l3), (4, .int l4), (5, .int l5), (6, .int l6)]) C 9 dX10_makeNote_219 rfl rfl (by decide) rfl ?_
                    refine V_goto (tgt := 97) C dX10_makeNote_222 (by decide) ?_
                    exact V_sub [3, 4, 5, 6, 7, 8, 9, 0] rfl (ih σ l0 l1 l2 l3 l4 l5 l6 (l7 + 1) h)
                  · rw [if_neg c92] at h
                    refine V_iload C 9 dX10_makeNote_215 rfl ?_
                    refine V_istore (lv' := [(6, .int l7), (9, .int 0), (8, .int 0), (0, va_rf l0), (1, .int l1), (2, .int l2), (3, .int l3), (4, .int l4), (5, .int l5), (7, .int l7)]) C dX10_makeNote_217 (by decide) rfl ?_
                    refine V_iinc (v := (l7 + 1)) (lv' := [(7, .int (l7 + 1)), (6, .int l7), (9, .int 0), (8, .int 0), (0, va_rf l0), (1, .int l1), (2, .int l2), (3, .int l3), (4, .int l4), (5, .int l5)]) C 9 dX10_makeNote_219 rfl rfl (by decide) rfl ?_
                    refine V_goto (tgt := 97) C dX10_makeNote_222 (by decide) ?_
                    exact V_sub [4, 5, 6, 7, 8, 9, 1, 0] rfl (ih σ l0 l1 l2 l3 l4 l5 l7 (l7 + 1) h)
      · rw [if_neg c41] at h
        refine V_aload_n C 0 dX10_makeNote_123 rfl rfl ?_
        obtain ⟨x93, e94, h⟩ := h_b1_some h
        refine V_getR C fl_RX10_76 dX10_makeNote_124 e94 ?_
        refine V_iload C 7 dX10_makeNote_127 rfl ?_
        obtain ⟨x95, e96, h⟩ := h_b1_some h
        refine V_iald C dX10_makeNote_129 e96 ?_
        refine V_goto (tgt := 134) C dX10_makeNote_130 (by decide) ?_
        refine V_istore (lv' := [(8, .int x95), (0, va_rf l0), (1, .int l1), (2, .int l2), (3, .int l3), (4, .int l4), (5, .int l5), (6, .int l6), (7, .int l7)]) C dX10_makeNote_134 (by decide) rfl ?_
        refine V_iload C 7 dX10_makeNote_136 rfl ?_
        refine V_iconst (v := (-1)) C dX10_makeNote_138 (by decide) ?_
        refine V_icmp_ne (tgt := 146) C dX10_makeNote_139 (by decide) (fun c97 => ?_) (fun c97 => ?_)
        · rw [if_neg c97] at h
          refine V_aload_n C 1 dX10_makeNote_146 rfl rfl ?_
          obtain ⟨x98, e99, h⟩ := h_b1_some h
          refine V_getR C fl_RX10_76 dX10_makeNote_147 e99 ?_
          refine V_iload C 7 dX10_makeNote_150 rfl ?_
          obtain ⟨x100, e101, h⟩ := h_b1_some h
          refine V_iald C dX10_makeNote_152 e101 ?_
          refine V_aload_n C 1 dX10_makeNote_153 rfl rfl ?_
          obtain ⟨x102, e103, h⟩ := h_b1_some h
          refine V_getI C fl_RX10_150 dX10_makeNote_154 e103 ?_
          refine V_icmp_le (tgt := 170) C dX10_makeNote_157 (by decide) (fun c104 => ?_) (fun c104 => ?_)
          · rw [if_pos c104] at h
            refine V_iconst (v := 0) C dX10_makeNote_170 (by decide) ?_
            refine V_istore (lv' := [(9, .int 0), (8, .int x95), (0, va_rf l0), (1, .int l1), (2, .int l2), (3, .int l3), (4, .int l4), (5, .int l5), (6, .int l6), (7, .int l7)]) C dX10_makeNote_171 (by decide) rfl ?_
            refine V_iload C 8 dX10_makeNote_173 rfl ?_
            refine V_iconst (v := (-1)) C dX10_makeNote_175 (by decide) ?_
            refine V_icmp_eq (tgt := 215) C dX10_makeNote_176 (by decide) (fun c105 => ?_) (fun c105 => ?_)
            · rw [if_pos c105] at h
              refine V_iload C 9 dX10_makeNote_215 rfl ?_
              refine V_istore (lv' := [(6, .int l7), (9, .int 0), (8, .int x95), (0, va_rf l0), (1, .int l1), (2, .int l2), (3, .int l3), (4, .int l4), (5, .int l5), (7, .int l7)]) C dX10_makeNote_217 (by decide) rfl ?_
              refine V_iinc (v := (l7 + 1)) (lv' := [(7, .int (l7 + 1)), (6, .int l7), (9, .int 0), (8, .int x95), (0, va_rf l0), (1, .int l1), (2, .int l2), (3, .int l3), (4, .int l4), (5, .int l5)]) C 9 dX10_makeNote_219 rfl rfl (by decide) rfl ?_
              refine V_goto (tgt := 97) C dX10_makeNote_222 (by decide) ?_
              exact V_sub [4, 5, 6, 7, 8, 9, 1, 0] rfl (ih σ l0 l1 l2 l3 l4 l5 l7 (l7 + 1) h)
            · rw [if_neg c105] at h
              refine V_iload C 1 dX10_makeNote_179 rfl ?_
              refine V_iload C 0 dX10_makeNote_181 rfl ?_
              refine V_icmp_lt (tgt := 215) C dX10_makeNote_183 (by decide) (fun c106 => ?_) (fun c106 => ?_)
              · rw [if_pos c106] at h
                refine V_iload C 9 dX10_makeNote_215 rfl ?_
                refine V_istore (lv' := [(6, .int l7), (9, .int 0), (8, .int x95), (0, va_rf l0), (1, .int l1), (2, .int l2), (3, .int l3), (4, .int l4), (5, .int l5), (7, .int l7)]) C dX10_makeNote_217 (by decide) rfl ?_
                refine V_iinc (v := (l7 + 1)) (lv' := [(7, .int (l7 + 1)), (6, .int l7), (9, .int 0), (8, .int x95), (0, va_rf l0), (1, .int l1), (2, .int l2), (3, .int l3), (4, .int l4), (5, .int l5)]) C 9 dX10_makeNote_219 rfl rfl (by decide) rfl ?_
                refine V_goto (tgt := 97) C dX10_makeNote_222 (by decide) ?_
                exact V_sub [4, 5, 6, 7, 8, 9, 1, 0] rfl (ih σ l0 l1 l2 l3 l4 l5 l7 (l7 + 1) h)
              · rw [if_neg c106] at h
                refine V_iload C 1 dX10_makeNote_186 rfl ?_
                refine V_iload C 0 dX10_makeNote_188 rfl ?_
                refine V_icmp_ne (tgt := 219) C dX10_makeNote_190 (by decide) (fun c107 => ?_) (fun c107 => ?_)
                · rw [if_neg c107] at h
                  refine V_iinc (v := (l7 + 1)) (lv' := [(7, .int (l7 + 1)), (9, .int 0), (8, .int x95), (0, va_rf l0), (1, .int l1), (2, .int l2), (3, .int l3), (4, .int l4), (5, .int l5), (6, .int l6)]) C 9 dX10_makeNote_219 rfl rfl (by decide) rfl ?_
                  refine V_goto (tgt := 97) C dX10_makeNote_222 (by decide) ?_
                  exact V_sub [3, 4, 5, 6, 7, 8, 9, 0] rfl (ih σ l0 l1 l2 l3 l4 l5 l6 (l7 + 1) h)
                · rw [if_pos c107] at h
                  refine V_iload C 1 dX10_makeNote_193 rfl ?_
                  refine V_if_le (tgt := 219) C dX10_makeNote_195 (by decide) (fun c108 => ?_) (fun c108 => ?_)
                  · rw [if_pos c108] at h
                    refine V_iinc (v := (l7 + 1)) (lv' := [(7, .int (l7 + 1)), (9, .int 0), (8, .int x95), (0, va_rf l0), (1, .int l1), (2, .int l2), (3, .int l3), (4, .int l4), (5, .int l5), (6, .int l6)]) C 9 dX10_makeNote_219 rfl rfl (by decide) rfl ?_
                    refine V_goto (tgt := 97) C dX10_makeNote_222 (by decide) ?_
                    exact V_sub [3, 4, 5, 6, 7, 8, 9, 0] rfl (ih σ l0 l1 l2 l3 l4 l5 l6 (l7 + 1) h)
                  · rw [if_neg c108] at h
                    refine V_aload_n C 2 dX10_makeNote_198 rfl rfl ?_
                    obtain ⟨x109, e110, h⟩ := h_b1_some h
                    refine V_getR C fl_RX10_79 dX10_makeNote_199 e110 ?_
                    refine V_iload C 9 dX10_makeNote_202 rfl ?_
                    obtain ⟨x111, e112, h⟩ := h_b1_some h
                    refine V_iald C dX10_makeNote_204 e112 ?_
                    refine V_aload_n C 2 dX10_makeNote_205 rfl rfl ?_
                    obtain ⟨x113, e114, h⟩ := h_b1_some h
                    refine V_getR C fl_RX10_79 dX10_makeNote_206 e114 ?_
                    refine V_iload C 8 dX10_makeNote_209 rfl ?_
                    obtain ⟨x115, e116, h⟩ := h_b1_some h
                    refine V_iald C dX10_makeNote_211 e116 ?_
                    refine V_icmp_ge (tgt := 219) C dX10_makeNote_212 (by decide) (fun c117 => ?_) (fun c117 => ?_)
                    · rw [if_pos c117] at h
                      refine V_iinc (v := (l7 + 1)) (lv' := [(7, .int (l7 + 1)), (9, .int 0), (8, .int x95), (0, va_rf l0), (1, .int l1), (2, .int l2), (3, .int l3), (4, .int l4), (5, .int l5), (6, .int l6)]) C 9 dX10_makeNote_219 rfl rfl (by decide) rfl ?_
                      refine V_goto (tgt := 97) C dX10_makeNote_222 (by decide) ?_
                      exact V_sub [3, 4, 5, 6, 7, 8, 9, 0] rfl (ih σ l0 l1 l2 l3 l4 l5 l6 (l7 + 1) h)
                    · rw [if_neg c117] at h
                      refine V_iload C 9 dX10_makeNote_215 rfl ?_
                      refine V_istore (lv' := [(6, .int l7), (9, .int 0), (8, .int x95), (0, va_rf l0), (1, .int l1), (2, .int l2), (3, .int l3), (4, .int l4), (5, .int l5), (7, .int l7)]) C dX10_makeNote_217 (by decide) rfl ?_
                      refine V_iinc (v := (l7 + 1)) (lv' := [(7, .int (l7 + 1)), (6, .int l7), (9, .int 0), (8, .int x95), (0, va_rf l0), (1, .int l1), (2, .int l2), (3, .int l3), (4, .int l4), (5, .int l5)]) C 9 dX10_makeNote_219 rfl rfl (by decide) rfl ?_
                      refine V_goto (tgt := 97) C dX10_makeNote_222 (by decide) ?_
                      exact V_sub [4, 5, 6, 7, 8, 9, 1, 0] rfl (ih σ l0 l1 l2 l3 l4 l5 l7 (l7 + 1) h)
          · rw [if_neg c104] at h
            refine V_aload_n C 1 dX10_makeNote_160 rfl rfl ?_
            obtain ⟨x118, e119, h⟩ := h_b1_some h
            refine V_getR C fl_RX10_76 dX10_makeNote_161 e119 ?_
            refine V_iload C 7 dX10_makeNote_164 rfl ?_
            obtain ⟨x120, e121, h⟩ := h_b1_some h
            refine V_iald C dX10_makeNote_166 e121 ?_
            refine V_goto (tgt := 171) C dX10_makeNote_167 (by decide) ?_
            refine V_istore (lv' := [(9, .int x120), (8, .int x95), (0, va_rf l0), (1, .int l1), (2, .int l2), (3, .int l3), (4, .int l4), (5, .int l5), (6, .int l6), (7, .int l7)]) C dX10_makeNote_171 (by decide) rfl ?_
            refine V_iload C 8 dX10_makeNote_173 rfl ?_
            refine V_iconst (v := (-1)) C dX10_makeNote_175 (by decide) ?_
            refine V_icmp_eq (tgt := 215) C dX10_makeNote_176 (by decide) (fun c122 => ?_) (fun c122 => ?_)
            · rw [if_pos c122] at h
              refine V_iload C 9 dX10_makeNote_215 rfl ?_
              refine V_istore (lv' := [(6, .int l7), (9, .int x120), (8, .int x95), (0, va_rf l0), (1, .int l1), (2, .int l2), (3, .int l3), (4, .int l4), (5, .int l5), (7, .int l7)]) C dX10_makeNote_217 (by decide) rfl ?_
              refine V_iinc (v := (l7 + 1)) (lv' := [(7, .int (l7 + 1)), (6, .int l7), (9, .int x120), (8, .int x95), (0, va_rf l0), (1, .int l1), (2, .int l2), (3, .int l3), (4, .int l4), (5, .int l5)]) C 9 dX10_makeNote_219 rfl rfl (by decide) rfl ?_
              refine V_goto (tgt := 97) C dX10_makeNote_222 (by decide) ?_
              exact V_sub [4, 5, 6, 7, 8, 9, 1, 0] rfl (ih σ l0 l1 l2 l3 l4 l5 l7 (l7 + 1) h)
            · rw [if_neg c122] at h
              refine V_iload C 1 dX10_makeNote_179 rfl ?_
              refine V_iload C 0 dX10_makeNote_181 rfl ?_
              refine V_icmp_lt (tgt := 215) C dX10_makeNote_183 (by decide) (fun c123 => ?_) (fun c123 => ?_)
              · rw [if_pos c123] at h
                refine V_iload C 9 dX10_makeNote_215 rfl ?_
                refine V_istore (lv' := [(6, .int l7), (9, .int x120), (8, .int x95), (0, va_rf l0), (1, .int l1), (2, .int l2), (3, .int l3), (4, .int l4), (5, .int l5), (7, .int l7)]) C dX10_makeNote_217 (by decide) rfl ?_
                refine V_iinc (v := (l7 + 1)) (lv' := [(7, .int (l7 + 1)), (6, .int l7), (9, .int x120), (8, .int x95), (0, va_rf l0), (1, .int l1), (2, .int l2), (3, .int l3), (4, .int l4), (5, .int l5)]) C 9 dX10_makeNote_219 rfl rfl (by decide) rfl ?_
                refine V_goto (tgt := 97) C dX10_makeNote_222 (by decide) ?_
                exact V_sub [4, 5, 6, 7, 8, 9, 1, 0] rfl (ih σ l0 l1 l2 l3 l4 l5 l7 (l7 + 1) h)
              · rw [if_neg c123] at h
                refine V_iload C 1 dX10_makeNote_186 rfl ?_
                refine V_iload C 0 dX10_makeNote_188 rfl ?_
                refine V_icmp_ne (tgt := 219) C dX10_makeNote_190 (by decide) (fun c124 => ?_) (fun c124 => ?_)
                · rw [if_neg c124] at h
                  refine V_iinc (v := (l7 + 1)) (lv' := [(7, .int (l7 + 1)), (9, .int x120), (8, .int x95), (0, va_rf l0), (1, .int l1), (2, .int l2), (3, .int l3), (4, .int l4), (5, .int l5), (6, .int l6)]) C 9 dX10_makeNote_219 rfl rfl (by decide) rfl ?_
                  refine V_goto (tgt := 97) C dX10_makeNote_222 (by decide) ?_
                  exact V_sub [3, 4, 5, 6, 7, 8, 9, 0] rfl (ih σ l0 l1 l2 l3 l4 l5 l6 (l7 + 1) h)
                · rw [if_pos c124] at h
                  refine V_iload C 1 dX10_makeNote_193 rfl ?_
                  refine V_if_le (tgt := 219) C dX10_makeNote_195 (by decide) (fun c125 => ?_) (fun c125 => ?_)
                  · rw [if_pos c125] at h
                    refine V_iinc (v := (l7 + 1)) (lv' := [(7, .int (l7 + 1)), (9, .int x120), (8, .int x95), (0, va_rf l0), (1, .int l1), (2, .int l2), (3, .int l3), (4, .int l4), (5, .int l5), (6, .int l6)]) C 9 dX10_makeNote_219 rfl rfl (by decide) rfl ?_
                    refine V_goto (tgt := 97) C dX10_makeNote_222 (by decide) ?_
                    exact V_sub [3, 4, 5, 6, 7, 8, 9, 0] rfl (ih σ l0 l1 l2 l3 l4 l5 l6 (l7 + 1) h)
                  · rw [if_neg c125] at h
                    refine V_aload_n C 2 dX10_makeNote_198 rfl rfl ?_
                    obtain ⟨x126, e127, h⟩ := h_b1_some h
                    refine V_getR C fl_RX10_79 dX10_makeNote_199 e127 ?_
                    refine V_iload C 9 dX10_makeNote_202 rfl ?_
                    obtain ⟨x128, e129, h⟩ := h_b1_some h
                    refine V_iald C dX10_makeNote_204 e129 ?_
                    refine V_aload_n C 2 dX10_makeNote_205 rfl rfl ?_
                    obtain ⟨x130, e131, h⟩ := h_b1_some h
                    refine V_getR C fl_RX10_79 dX10_makeNote_206 e131 ?_
                    refine V_iload C 8 dX10_makeNote_209 rfl ?_
                    obtain ⟨x132, e133, h⟩ := h_b1_some h
                    refine V_iald C dX10_makeNote_211 e133 ?_
                    refine V_icmp_ge (tgt := 219) C dX10_makeNote_212 (by decide) (fun c134 => ?_) (fun c134 => ?_)
                    · rw [if_pos c134] at h
                      refine V_iinc (v := (l7 + 1)) (lv' := [(7, .int (l7 + 1)), (9, .int x120), (8, .int x95), (0, va_rf l0), (1, .int l1), (2, .int l2), (3, .int l3), (4, .int l4), (5, .int l5), (6, .int l6)]) C 9 dX10_makeNote_219 rfl rfl (by decide) rfl ?_
                      refine V_goto (tgt := 97) C dX10_makeNote_222 (by decide) ?_
                      exact V_sub [3, 4, 5, 6, 7, 8, 9, 0] rfl (ih σ l0 l1 l2 l3 l4 l5 l6 (l7 + 1) h)
                    · rw [if_neg c134] at h
                      refine V_iload C 9 dX10_makeNote_215 rfl ?_
                      refine V_istore (lv' := [(6, .int l7), (9, .int x120), (8, .int x95), (0, va_rf l0), (1, .int l1), (2, .int l2), (3, .int l3), (4, .int l4), (5, .int l5), (7, .int l7)]) C dX10_makeNote_217 (by decide) rfl ?_
                      refine V_iinc (v := (l7 + 1)) (lv' := [(7, .int (l7 + 1)), (6, .int l7), (9, .int x120), (8, .int x95), (0, va_rf l0), (1, .int l1), (2, .int l2), (3, .int l3), (4, .int l4), (5, .int l5)]) C 9 dX10_makeNote_219 rfl rfl (by decide) rfl ?_
                      refine V_goto (tgt := 97) C dX10_makeNote_222 (by decide) ?_
                      exact V_sub [4, 5, 6, 7, 8, 9, 1, 0] rfl (ih σ l0 l1 l2 l3 l4 l5 l7 (l7 + 1) h)
        · rw [if_pos c97] at h
          refine V_iconst (v := 0) C dX10_makeNote_142 (by decide) ?_
          refine V_goto (tgt := 171) C dX10_makeNote_143 (by decide) ?_
          refine V_istore (lv' := [(9, .int 0), (8, .int x95), (0, va_rf l0), (1, .int l1), (2, .int l2), (3, .int l3), (4, .int l4), (5, .int l5), (6, .int l6), (7, .int l7)]) C dX10_makeNote_171 (by decide) rfl ?_
          refine V_iload C 8 dX10_makeNote_173 rfl ?_
          refine V_iconst (v := (-1)) C dX10_makeNote_175 (by decide) ?_
          refine V_icmp_eq (tgt := 215) C dX10_makeNote_176 (by decide) (fun c135 => ?_) (fun c135 => ?_)
          · rw [if_pos c135] at h
            refine V_iload C 9 dX10_makeNote_215 rfl ?_
            refine V_istore (lv' := [(6, .int l7), (9, .int 0), (8, .int x95), (0, va_rf l0), (1, .int l1), (2, .int l2), (3, .int l3), (4, .int l4), (5, .int l5), (7, .int l7)]) C dX10_makeNote_217 (by decide) rfl ?_
            refine V_iinc (v := (l7 + 1)) (lv' := [(7, .int (l7 + 1)), (6, .int l7), (9, .int 0), (8, .int x95), (0, va_rf l0), (1, .int l1), (2, .int l2), (3, .int l3), (4, .int l4), (5, .int l5)]) C 9 dX10_makeNote_219 rfl rfl (by decide) rfl ?_
            refine V_goto (tgt := 97) C dX10_makeNote_222 (by decide) ?_
            exact V_sub [4, 5, 6, 7, 8, 9, 1, 0] rfl (ih σ l0 l1 l2 l3 l4 l5 l7 (l7 + 1) h)
          · rw [if_neg c135] at h
            refine V_iload C 1 dX10_makeNote_179 rfl ?_
            refine V_iload C 0 dX10_makeNote_181 rfl ?_
            refine V_icmp_lt (tgt := 215) C dX10_makeNote_183 (by decide) (fun c136 => ?_) (fun c136 => ?_)
            · rw [if_pos c136] at h
              refine V_iload C 9 dX10_makeNote_215 rfl ?_
              refine V_istore (lv' := [(6, .int l7), (9, .int 0), (8, .int x95), (0, va_rf l0), (1, .int l1), (2, .int l2), (3, .int l3), (4, .int l4), (5, .int l5), (7, .int l7)]) C dX10_makeNote_217 (by decide) rfl ?_
              refine V_iinc (v := (l7 + 1)) (lv' := [(7, .int (l7 + 1)), (6, .int l7), (9, .int 0), (8, .int x95), (0, va_rf l0), (1, .int l1), (2, .int l2), (3, .int l3), (4, .int l4), (5, .int l5)]) C 9 dX10_makeNote_219 rfl rfl (by decide) rfl ?_
              refine V_goto (tgt := 97) C dX10_makeNote_222 (by decide) ?_
              exact V_sub [4, 5, 6, 7, 8, 9, 1, 0] rfl (ih σ l0 l1 l2 l3 l4 l5 l7 (l7 + 1) h)
            · rw [if_neg c136] at h
              refine V_iload C 1 dX10_makeNote_186 rfl ?_
              refine V_iload C 0 dX10_makeNote_188 rfl ?_
              refine V_icmp_ne (tgt := 219) C dX10_makeNote_190 (by decide) (fun c137 => ?_) (fun c137 => ?_)
              · rw [if_neg c137] at h
                refine V_iinc (v := (l7 + 1)) (lv' := [(7, .int (l7 + 1)), (9, .int 0), (8, .int x95), (0, va_rf l0), (1, .int l1), (2, .int l2), (3, .int l3), (4, .int l4), (5, .int l5), (6, .int l6)]) C 9 dX10_makeNote_219 rfl rfl (by decide) rfl ?_
                refine V_goto (tgt := 97) C dX10_makeNote_222 (by decide) ?_
                exact V_sub [3, 4, 5, 6, 7, 8, 9, 0] rfl (ih σ l0 l1 l2 l3 l4 l5 l6 (l7 + 1) h)
              · rw [if_pos c137] at h
                refine V_iload C 1 dX10_makeNote_193 rfl ?_
                refine V_if_le (tgt := 219) C dX10_makeNote_195 (by decide) (fun c138 => ?_) (fun c138 => ?_)
                · rw [if_pos c138] at h
                  refine V_iinc (v := (l7 + 1)) (lv' := [(7, .int (l7 + 1)), (9, .int 0), (8, .int x95), (0, va_rf l0), (1, .int l1), (2, .int l2), (3, .int l3), (4, .int l4), (5, .int l5), (6, .int l6)]) C 9 dX10_makeNote_219 rfl rfl (by decide) rfl ?_
                  refine V_goto (tgt := 97) C dX10_makeNote_222 (by decide) ?_
                  exact V_sub [3, 4, 5, 6, 7, 8, 9, 0] rfl (ih σ l0 l1 l2 l3 l4 l5 l6 (l7 + 1) h)
                · rw [if_neg c138] at h
                  refine V_aload_n C 2 dX10_makeNote_198 rfl rfl ?_
                  obtain ⟨x139, e140, h⟩ := h_b1_some h
                  refine V_getR C fl_RX10_79 dX10_makeNote_199 e140 ?_
                  refine V_iload C 9 dX10_makeNote_202 rfl ?_
                  obtain ⟨x141, e142, h⟩ := h_b1_some h
                  refine V_iald C dX10_makeNote_204 e142 ?_
                  refine V_aload_n C 2 dX10_makeNote_205 rfl rfl ?_
                  obtain ⟨x143, e144, h⟩ := h_b1_some h
                  refine V_getR C fl_RX10_79 dX10_makeNote_206 e144 ?_
                  refine V_iload C 8 dX10_makeNote_209 rfl ?_
                  obtain ⟨x145, e146, h⟩ := h_b1_some h
                  refine V_iald C dX10_makeNote_211 e146 ?_
                  refine V_icmp_ge (tgt := 219) C dX10_makeNote_212 (by decide) (fun c147 => ?_) (fun c147 => ?_)
                  · rw [if_pos c147] at h
                    refine V_iinc (v := (l7 + 1)) (lv' := [(7, .int (l7 + 1)), (9, .int 0), (8, .int x95), (0, va_rf l0), (1, .int l1), (2, .int l2), (3, .int l3), (4, .int l4), (5, .int l5), (6, .int l6)]) C 9 dX10_makeNote_219 rfl rfl (by decide) rfl ?_
                    refine V_goto (tgt := 97) C dX10_makeNote_222 (by decide) ?_
                    exact V_sub [3, 4, 5, 6, 7, 8, 9, 0] rfl (ih σ l0 l1 l2 l3 l4 l5 l6 (l7 + 1) h)
                  · rw [if_neg c147] at h
                    refine V_iload C 9 dX10_makeNote_215 rfl ?_
                    refine V_istore (lv' := [(6, .int l7), (9, .int 0), (8, .int x95), (0, va_rf l0), (1, .int l1), (2, .int l2), (3, .int l3), (4, .int l4), (5, .int l5), (7, .int l7)]) C dX10_makeNote_217 (by decide) rfl ?_
                    refine V_iinc (v := (l7 + 1)) (lv' := [(7, .int (l7 + 1)), (6, .int l7), (9, .int 0), (8, .int x95), (0, va_rf l0), (1, .int l1), (2, .int l2), (3, .int l3), (4, .int l4), (5, .int l5)]) C 9 dX10_makeNote_219 rfl rfl (by decide) rfl ?_
                    refine V_goto (tgt := 97) C dX10_makeNote_222 (by decide) ?_
                    exact V_sub [4, 5, 6, 7, 8, 9, 1, 0] rfl (ih σ l0 l1 l2 l3 l4 l5 l7 (l7 + 1) h)
set_option maxHeartbeats 4000000 in
set_option maxRecDepth 100000 in
theorem w_X10_makeNote_9 {p : Program} {l : Launch} {e : Env} {R : Room} {s : State} {m : MethodId} {args : Array Value} {below : List Frame} {meth : Method} {c : Code} {D : va_G} {dA : Nat → ClassId} {bs : Nat} (C : h_C p m c cX10_makeNote 10 s args RX10 D dA) {σ0 : HS} (B : h_B R s meth σ0 none 2 45) {σ' : HS} : ∀ (n : Nat) (σ : HS) (l0 : Option Nat) (l1 : Int32) (l2 : Int32) (l3 : Int32) (l4 : Int32) (l5 : Int32) (l6 : Int32) (l7 : Int32), g_X10_makeNote_9 n σ l0 l1 l2 l3 l4 l5 l6 l7 = some ((), σ') → V p l e R s m args below meth c D dA bs 10 (MQ below (h_Q D dA bs none σ0 σ') args s R.cells R.slots (fun q => bs ≤ q)) σ 9 [(0, va_rf l0), (1, .int l1), (2, .int l2), (3, .int l3), (4, .int l4), (5, .int l5), (6, .int l6), (7, .int l7)] [] := by
  intro n
  induction n with
  | zero =>
    intro σ l0 l1 l2 l3 l4 l5 l6 l7 h
    rw [g_X10_makeNote_9] at h
    cases h
  | succ n ih =>
    intro σ l0 l1 l2 l3 l4 l5 l6 l7 h
    rw [g_X10_makeNote_9] at h
    refine V_iload C 7 dX10_makeNote_9 rfl ?_
    refine V_bipush (v := 6) C dX10_makeNote_11 (by decide) ?_
    refine V_iload_n C 1 dX10_makeNote_13 rfl rfl ?_
    refine V_imul C dX10_makeNote_14 ?_
    refine V_bipush (v := 6) C dX10_makeNote_15 (by decide) ?_
    refine V_iadd C dX10_makeNote_17 ?_
    refine V_icmp_ge (tgt := 91) C dX10_makeNote_18 (by decide) (fun c1 => ?_) (fun c1 => ?_)
    · rw [if_pos c1] at h
      refine V_bipush (v := 6) C dX10_makeNote_91 (by decide) ?_
      refine V_iload_n C 1 dX10_makeNote_93 rfl rfl ?_
      refine V_imul C dX10_makeNote_94 ?_
      refine V_istore (lv' := [(7, .int (6 * l1)), (0, va_rf l0), (1, .int l1), (2, .int l2), (3, .int l3), (4, .int l4), (5, .int l5), (6, .int l6)]) C dX10_makeNote_95 (by decide) rfl ?_
      exact V_sub [1, 2, 3, 4, 5, 6, 7, 0] rfl (w_X10_makeNote_97 C B h_hN σ l0 l1 l2 l3 l4 l5 l6 (6 * l1) h)
    · rw [if_neg c1] at h
      refine V_iload_n C 2 dX10_makeNote_21 rfl rfl ?_
      refine V_iload_n C 3 dX10_makeNote_22 rfl rfl ?_
      refine V_aload_n C 0 dX10_makeNote_23 rfl rfl ?_
      obtain ⟨x148, e149, h⟩ := h_b1_some h
      refine V_getR C fl_RX10_64 dX10_makeNote_24 e149 ?_
      refine V_iload C 7 dX10_makeNote_27 rfl ?_
      obtain ⟨x150, e151, h⟩ := h_b1_some h
      refine V_iald C dX10_makeNote_29 e151 ?_
      refine V_aload_n C 0 dX10_makeNote_30 rfl rfl ?_
      obtain ⟨x152, e153, h⟩ := h_b1_some h
      refine V_getR C fl_RX10_67 dX10_makeNote_31 e153 ?_
      refine V_iload C 7 dX10_makeNote_34 rfl ?_
      obtain ⟨x154, e155, h⟩ := h_b1_some h
      refine V_iald C dX10_makeNote_36 e155 ?_
      obtain ⟨r156, s157, e158, h⟩ := h_bd_some h
      refine V_cS (As := [.int l2, .int l3, .int x150, .int x154]) (rest := []) C ms_RX10_127 (m_X10_holds l D dA bs e158) rfl rfl (Nat.le_trans h_w0 (by decide)) (h_fr B (by decide)) (h_lo B (by decide)) dX10_makeNote_37 ?_
      refine V_if_ne (tgt := 65) C dX10_makeNote_40 (by decide) (fun c159 => ?_) (fun c159 => ?_)
      · rw [if_neg c159] at h
        refine V_iconst (v := 1) C dX10_makeNote_65 (by decide) ?_
        refine V_goto (tgt := 70) C dX10_makeNote_66 (by decide) ?_
        refine V_istore (lv' := [(8, .int 1), (0, va_rf l0), (1, .int l1), (2, .int l2), (3, .int l3), (4, .int l4), (5, .int l5), (6, .int l6), (7, .int l7)]) C dX10_makeNote_70 (by decide) rfl ?_
        refine V_iload C 0 dX10_makeNote_72 rfl ?_
        refine V_if_eq (tgt := 85) C dX10_makeNote_74 (by decide) (fun c160 => ?_) (fun c160 => ?_)
        · rw [if_pos c160] at h
          refine V_iinc (v := (l7 + 1)) (lv' := [(7, .int (l7 + 1)), (8, .int 1), (0, va_rf l0), (1, .int l1), (2, .int l2), (3, .int l3), (4, .int l4), (5, .int l5), (6, .int l6)]) C 8 dX10_makeNote_85 rfl rfl (by decide) rfl ?_
          refine V_goto (tgt := 9) C dX10_makeNote_88 (by decide) ?_
          exact V_sub [2, 3, 4, 5, 6, 7, 8, 0] rfl (ih s157 l0 l1 l2 l3 l4 l5 l6 (l7 + 1) h)
        · rw [if_neg c160] at h
          refine V_aload_n C 1 dX10_makeNote_77 rfl rfl ?_
          obtain ⟨x161, e162, h⟩ := h_b1_some h
          refine V_getR C fl_RX10_76 dX10_makeNote_78 e162 ?_
          refine V_iload C 8 dX10_makeNote_81 rfl ?_
          refine V_iconst (v := 0) C dX10_makeNote_83 (by decide) ?_
          obtain ⟨s163, e164, h⟩ := h_b1_some h
          refine V_iast C dX10_makeNote_84 e164 ?_
          refine V_iinc (v := (l7 + 1)) (lv' := [(7, .int (l7 + 1)), (8, .int 1), (0, va_rf l0), (1, .int l1), (2, .int l2), (3, .int l3), (4, .int l4), (5, .int l5), (6, .int l6)]) C 8 dX10_makeNote_85 rfl rfl (by decide) rfl ?_
          refine V_goto (tgt := 9) C dX10_makeNote_88 (by decide) ?_
          exact V_sub [2, 3, 4, 5, 6, 7, 8, 0] rfl (ih s163 l0 l1 l2 l3 l4 l5 l6 (l7 + 1) h)
      · rw [if_pos c159] at h
        refine V_aload_n C 0 dX10_makeNote_43 rfl rfl ?_
        obtain ⟨x165, e166, h⟩ := h_b1_some h
        refine V_getR C fl_RX10_64 dX10_makeNote_44 e166 ?_
        refine V_iload C 7 dX10_makeNote_47 rfl ?_
        obtain ⟨x167, e168, h⟩ := h_b1_some h
        refine V_iald C dX10_makeNote_49 e168 ?_
        refine V_aload_n C 0 dX10_makeNote_50 rfl rfl ?_
        obtain ⟨x169, e170, h⟩ := h_b1_some h
        refine V_getR C fl_RX10_67 dX10_makeNote_51 e170 ?_
        refine V_iload C 7 dX10_makeNote_54 rfl ?_
        obtain ⟨x171, e172, h⟩ := h_b1_some h
        refine V_iald C dX10_makeNote_56 e172 ?_
        refine V_iload_n C 2 dX10_makeNote_57 rfl rfl ?_
        refine V_iload_n C 3 dX10_makeNote_58 rfl rfl ?_
        obtain ⟨r173, s174, e175, h⟩ := h_bd_some h
        refine V_cS (As := [.int x167, .int x171, .int l2, .int l3]) (rest := []) C ms_RX10_127 (m_X10_holds l D dA bs e175) rfl rfl (Nat.le_trans h_w0 (by decide)) (h_fr B (by decide)) (h_lo B (by decide)) dX10_makeNote_59 ?_
        refine V_if_eq (tgt := 69) C dX10_makeNote_62 (by decide) (fun c176 => ?_) (fun c176 => ?_)
        · rw [if_pos c176] at h
          refine V_iconst (v := 0) C dX10_makeNote_69 (by decide) ?_
          refine V_istore (lv' := [(8, .int 0), (0, va_rf l0), (1, .int l1), (2, .int l2), (3, .int l3), (4, .int l4), (5, .int l5), (6, .int l6), (7, .int l7)]) C dX10_makeNote_70 (by decide) rfl ?_
          refine V_iload C 0 dX10_makeNote_72 rfl ?_
          refine V_if_eq (tgt := 85) C dX10_makeNote_74 (by decide) (fun c177 => ?_) (fun c177 => ?_)
          · rw [if_pos c177] at h
            refine V_iinc (v := (l7 + 1)) (lv' := [(7, .int (l7 + 1)), (8, .int 0), (0, va_rf l0), (1, .int l1), (2, .int l2), (3, .int l3), (4, .int l4), (5, .int l5), (6, .int l6)]) C 8 dX10_makeNote_85 rfl rfl (by decide) rfl ?_
            refine V_goto (tgt := 9) C dX10_makeNote_88 (by decide) ?_
            exact V_sub [2, 3, 4, 5, 6, 7, 8, 0] rfl (ih s174 l0 l1 l2 l3 l4 l5 l6 (l7 + 1) h)
          · rw [if_neg c177] at h
            refine V_aload_n C 1 dX10_makeNote_77 rfl rfl ?_
            obtain ⟨x178, e179, h⟩ := h_b1_some h
            refine V_getR C fl_RX10_76 dX10_makeNote_78 e179 ?_
            refine V_iload C 8 dX10_makeNote_81 rfl ?_
            refine V_iconst (v := 0) C dX10_makeNote_83 (by decide) ?_
            obtain ⟨s180, e181, h⟩ := h_b1_some h
            refine V_iast C dX10_makeNote_84 e181 ?_
            refine V_iinc (v := (l7 + 1)) (lv' := [(7, .int (l7 + 1)), (8, .int 0), (0, va_rf l0), (1, .int l1), (2, .int l2), (3, .int l3), (4, .int l4), (5, .int l5), (6, .int l6)]) C 8 dX10_makeNote_85 rfl rfl (by decide) rfl ?_
            refine V_goto (tgt := 9) C dX10_makeNote_88 (by decide) ?_
            exact V_sub [2, 3, 4, 5, 6, 7, 8, 0] rfl (ih s180 l0 l1 l2 l3 l4 l5 l6 (l7 + 1) h)
        · rw [if_neg c176] at h
          refine V_iconst (v := 1) C dX10_makeNote_65 (by decide) ?_
          refine V_goto (tgt := 70) C dX10_makeNote_66 (by decide) ?_
          refine V_istore (lv' := [(8, .int 1), (0, va_rf l0), (1, .int l1), (2, .int l2), (3, .int l3), (4, .int l4), (5, .int l5), (6, .int l6), (7, .int l7)]) C dX10_makeNote_70 (by decide) rfl ?_
          refine V_iload C 0 dX10_makeNote_72 rfl ?_
          refine V_if_eq (tgt := 85) C dX10_makeNote_74 (by decide) (fun c182 => ?_) (fun c182 => ?_)
          · rw [if_pos c182] at h
            refine V_iinc (v := (l7 + 1)) (lv' := [(7, .int (l7 + 1)), (8, .int 1), (0, va_rf l0), (1, .int l1), (2, .int l2), (3, .int l3), (4, .int l4), (5, .int l5), (6, .int l6)]) C 8 dX10_makeNote_85 rfl rfl (by decide) rfl ?_
            refine V_goto (tgt := 9) C dX10_makeNote_88 (by decide) ?_
            exact V_sub [2, 3, 4, 5, 6, 7, 8, 0] rfl (ih s174 l0 l1 l2 l3 l4 l5 l6 (l7 + 1) h)
          · rw [if_neg c182] at h
            refine V_aload_n C 1 dX10_makeNote_77 rfl rfl ?_
            obtain ⟨x183, e184, h⟩ := h_b1_some h
            refine V_getR C fl_RX10_76 dX10_makeNote_78 e184 ?_
            refine V_iload C 8 dX10_makeNote_81 rfl ?_
            refine V_iconst (v := 0) C dX10_makeNote_83 (by decide) ?_
            obtain ⟨s185, e186, h⟩ := h_b1_some h
            refine V_iast C dX10_makeNote_84 e186 ?_
            refine V_iinc (v := (l7 + 1)) (lv' := [(7, .int (l7 + 1)), (8, .int 1), (0, va_rf l0), (1, .int l1), (2, .int l2), (3, .int l3), (4, .int l4), (5, .int l5), (6, .int l6)]) C 8 dX10_makeNote_85 rfl rfl (by decide) rfl ?_
            refine V_goto (tgt := 9) C dX10_makeNote_88 (by decide) ?_
            exact V_sub [2, 3, 4, 5, 6, 7, 8, 0] rfl (ih s185 l0 l1 l2 l3 l4 l5 l6 (l7 + 1) h)
set_option maxHeartbeats 4000000 in
set_option maxRecDepth 100000 in
theorem m_X10_makeNote (l : Launch) (D : va_G) (dA : Nat → ClassId) (bs : Nat) {σ σ' : HS} {a0 : Option Nat} {a1 : Int32} {a2 : Int32} {a3 : Int32} {a4 : Int32} {a5 : Int32} (h : f_X10_makeNote σ a0 a1 a2 a3 a4 a5 = some ((), σ')) : MetC l yX10_makeNote cX10_makeNote 10 none 2 45 D dA bs [va_rf a0, .int a1, .int a2, .int a3, .int a4, .int a5] none σ σ' := by
  refine MetC.of (by decide) (h_avR (h_avI (h_avI (h_avI (h_avI (h_avI h_av0)))))) (Nat.le_of_ble_eq_true rfl) ?_
  intro p e R s m args below meth c C B hnm
  unfold f_X10_makeNote at h
  refine V_sub (lv' := [(0, va_rf a0), (1, .int a1), (2, .int a2), (3, .int a3), (4, .int a4), (5, .int a5)]) [0, 1, 2, 3, 4, 5] rfl ?_
  refine V_iconst (v := (-1)) C dX10_makeNote_0 (by decide) ?_
  refine V_istore (lv' := [(6, .int (-1)), (0, va_rf a0), (1, .int a1), (2, .int a2), (3, .int a3), (4, .int a4), (5, .int a5)]) C dX10_makeNote_1 (by decide) rfl ?_
  refine V_bipush (v := 6) C dX10_makeNote_3 (by decide) ?_
  refine V_iload_n C 2 dX10_makeNote_5 rfl rfl ?_
  refine V_imul C dX10_makeNote_6 ?_
  refine V_istore (lv' := [(7, .int (6 * a1)), (6, .int (-1)), (0, va_rf a0), (1, .int a1), (2, .int a2), (3, .int a3), (4, .int a4), (5, .int a5)]) C dX10_makeNote_7 (by decide) rfl ?_
  exact V_sub [2, 3, 4, 5, 6, 7, 1, 0] rfl (w_X10_makeNote_9 C B h_hN σ a0 a1 a2 a3 a4 a5 (-1) (6 * a1) h)
