/-! X0_init -/
theorem dX0_init_0 : decode cX0_init 0 = .ok (.aload_n 0, 1) := by decide +kernel
theorem dX0_init_1 : decode cX0_init 1 = .ok (.invokespecial 1, 3) := by decide +kernel
theorem dX0_init_4 : decode cX0_init 4 = .ok (.aload_n 0, 1) := by decide +kernel
theorem dX0_init_5 : decode cX0_init 5 = .ok (.aload_n 1, 1) := by decide +kernel
theorem dX0_init_6 : decode cX0_init 6 = .ok (.putfield 7, 3) := by decide +kernel
theorem dX0_init_9 : decode cX0_init 9 = .ok (.aload_n 0, 1) := by decide +kernel
theorem dX0_init_10 : decode cX0_init 10 = .ok (.iload_n 2, 1) := by decide +kernel
theorem dX0_init_11 : decode cX0_init 11 = .ok (.putfield 13, 3) := by decide +kernel
theorem dX0_init_14 : decode cX0_init 14 = .ok (.aload_n 0, 1) := by decide +kernel
theorem dX0_init_15 : decode cX0_init 15 = .ok (.iload_n 3, 1) := by decide +kernel
theorem dX0_init_16 : decode cX0_init 16 = .ok (.putfield 17, 3) := by decide +kernel
theorem dX0_init_19 : decode cX0_init 19 = .ok (.aload_n 0, 1) := by decide +kernel
theorem dX0_init_20 : decode cX0_init 20 = .ok (.iload 4, 2) := by decide +kernel
theorem dX0_init_22 : decode cX0_init 22 = .ok (.putfield 20, 3) := by decide +kernel
theorem dX0_init_25 : decode cX0_init 25 = .ok (.aload_n 0, 1) := by decide +kernel
theorem dX0_init_26 : decode cX0_init 26 = .ok (.iload 5, 2) := by decide +kernel
theorem dX0_init_28 : decode cX0_init 28 = .ok (.sipush 180, 3) := by decide +kernel
theorem dX0_init_31 : decode cX0_init 31 = .ok (.iadd, 1) := by decide +kernel
theorem dX0_init_32 : decode cX0_init 32 = .ok (.putfield 23, 3) := by decide +kernel
theorem dX0_init_35 : decode cX0_init 35 = .ok (.return_, 1) := by decide +kernel
def f_X0_init (σ : HS) (a0 : Option Nat) (a1 : Option Nat) (a2 : Int32) (a3 : Int32) (a4 : Int32) (a5 : Int32) : Option (Unit × HS) :=
  h_b1 a0 fun y1 =>
  h_b1 (h_pR σ a0 1 0 a1) fun s3 =>
  h_b1 (h_pI s3 a0 1 1 a2) fun s5 =>
  h_b1 (h_pI s5 a0 1 2 a3) fun s7 =>
  h_b1 (h_pI s7 a0 1 3 a4) fun s9 =>
  h_b1 (h_pI s9 a0 1 4 (a5 + 180)) fun s11 =>
  some ((), s11)
set_option maxHeartbeats 4000000 in
set_option maxRecDepth 100000 in
theorem m_X0_init (l : Launch) (D : va_G) (dA : Nat → ClassId) (bs : Nat) {σ σ' : HS} {a0 : Option Nat} {a1 : Option Nat} {a2 : Int32} {a3 : Int32} {a4 : Int32} {a5 : Int32} (h : f_X0_init σ a0 a1 a2 a3 a4 a5 = some ((), σ')) : MetC l yX0_init cX0_init 6 none 1 12 D dA bs [va_rf a0, va_rf a1, .int a2, .int a3, .int a4, .int a5] none σ σ' := by
  refine MetC.of (by decide) (h_avR (h_avR (h_avI (h_avI (h_avI (h_avI h_av0)))))) (Nat.le_of_ble_eq_true rfl) ?_
  intro p e R s m args below meth c C B hnm
  unfold f_X0_init at h
  refine V_sub (lv' := [(0, va_rf a0), (1, va_rf a1), (2, .int a2), (3, .int a3), (4, .int a4), (5, .int a5)]) [0, 1, 2, 3, 4, 5] rfl ?_
  refine V_aload_n C 0 dX0_init_0 rfl rfl ?_
  obtain ⟨y1, e2, h⟩ := h_b1_some h
  refine V_objInit C ob_RX0 ob_i ob_c dX0_init_1 e2 (h_fr B (by decide)) (h_lo B (by decide)) ?_
  refine V_aload_n C 0 dX0_init_4 rfl rfl ?_
  refine V_aload_n C 1 dX0_init_5 rfl rfl ?_
  obtain ⟨s3, e4, h⟩ := h_b1_some h
  refine V_putFR C hnm ff_RX0_7 dX0_init_6 e4 ?_
  refine V_aload_n C 0 dX0_init_9 rfl rfl ?_
  refine V_iload_n C 2 dX0_init_10 rfl rfl ?_
  obtain ⟨s5, e6, h⟩ := h_b1_some h
  refine V_putFI C hnm ff_RX0_13 dX0_init_11 e6 ?_
  refine V_aload_n C 0 dX0_init_14 rfl rfl ?_
  refine V_iload_n C 3 dX0_init_15 rfl rfl ?_
  obtain ⟨s7, e8, h⟩ := h_b1_some h
  refine V_putFI C hnm ff_RX0_17 dX0_init_16 e8 ?_
  refine V_aload_n C 0 dX0_init_19 rfl rfl ?_
  refine V_iload C 4 dX0_init_20 rfl ?_
  obtain ⟨s9, e10, h⟩ := h_b1_some h
  refine V_putFI C hnm ff_RX0_20 dX0_init_22 e10 ?_
  refine V_aload_n C 0 dX0_init_25 rfl rfl ?_
  refine V_iload C 5 dX0_init_26 rfl ?_
  refine V_sipush (v := 180) C dX0_init_28 (by decide) ?_
  refine V_iadd C dX0_init_31 ?_
  obtain ⟨s11, e12, h⟩ := h_b1_some h
  refine V_putFI C hnm ff_RX0_23 dX0_init_32 e12 ?_
  cases h
  exact V_vret C B dX0_init_35
/-! X0_holdsAt -/
theorem dX0_holdsAt_0 : decode cX0_holdsAt 0 = .ok (.iload_n 1, 1) := by decide +kernel
theorem dX0_holdsAt_1 : decode cX0_holdsAt 1 = .ok (.aload_n 0, 1) := by decide +kernel
theorem dX0_holdsAt_2 : decode cX0_holdsAt 2 = .ok (.getfield 23, 3) := by decide +kernel
theorem dX0_holdsAt_5 : decode cX0_holdsAt 5 = .ok (.if_icmp .ge 7, 3) := by decide +kernel
theorem dX0_holdsAt_8 : decode cX0_holdsAt 8 = .ok (.iconst 1, 1) := by decide +kernel
theorem dX0_holdsAt_9 : decode cX0_holdsAt 9 = .ok (.goto 4, 3) := by decide +kernel
theorem dX0_holdsAt_12 : decode cX0_holdsAt 12 = .ok (.iconst 0, 1) := by decide +kernel
theorem dX0_holdsAt_13 : decode cX0_holdsAt 13 = .ok (.ireturn, 1) := by decide +kernel
def f_X0_holdsAt (σ : HS) (a0 : Option Nat) (a1 : Int32) : Option (Int32 × HS) :=
  h_b1 (h_gI σ a0 1 4) fun x1 =>
  if x1 ≤ a1 then
    some (0, σ)
  else
    some (1, σ)
set_option maxHeartbeats 4000000 in
set_option maxRecDepth 100000 in
theorem m_X0_holdsAt (l : Launch) (D : va_G) (dA : Nat → ClassId) (bs : Nat) {σ σ' : HS} {a0 : Option Nat} {a1 : Int32} {r : Int32} (h : f_X0_holdsAt σ a0 a1 = some (r, σ')) : MetC l yX0_holdsAt cX0_holdsAt 2 (some .boolean) 0 0 D dA bs [va_rf a0, .int a1] (some (.int r)) σ σ' := by
  refine MetC.of (by decide) (h_avR (h_avI h_av0)) (Nat.le_of_ble_eq_true rfl) ?_
  intro p e R s m args below meth c C B hnm
  unfold f_X0_holdsAt at h
  refine V_sub (lv' := [(0, va_rf a0), (1, .int a1)]) [0, 1] rfl ?_
  refine V_iload_n C 1 dX0_holdsAt_0 rfl rfl ?_
  refine V_aload_n C 0 dX0_holdsAt_1 rfl rfl ?_
  obtain ⟨x1, e2, h⟩ := h_b1_some h
  refine V_getI C fl_RX0_23 dX0_holdsAt_2 e2 ?_
  refine V_icmp_ge (tgt := 12) C dX0_holdsAt_5 (by decide) (fun c3 => ?_) (fun c3 => ?_)
  · rw [if_pos c3] at h
    refine V_iconst (v := 0) C dX0_holdsAt_12 (by decide) ?_
    cases h
    exact V_zret C B dX0_holdsAt_13 (Or.inl rfl)
  · rw [if_neg c3] at h
    refine V_iconst (v := 1) C dX0_holdsAt_8 (by decide) ?_
    refine V_goto (tgt := 13) C dX0_holdsAt_9 (by decide) ?_
    cases h
    exact V_zret C B dX0_holdsAt_13 (Or.inr rfl)
/-! X1_init -/
theorem dX1_init_0 : decode cX1_init 0 = .ok (.aload_n 0, 1) := by decide +kernel
theorem dX1_init_1 : decode cX1_init 1 = .ok (.invokespecial 1, 3) := by decide +kernel
theorem dX1_init_4 : decode cX1_init 4 = .ok (.aload_n 0, 1) := by decide +kernel
theorem dX1_init_5 : decode cX1_init 5 = .ok (.aload_n 1, 1) := by decide +kernel
theorem dX1_init_6 : decode cX1_init 6 = .ok (.putfield 7, 3) := by decide +kernel
theorem dX1_init_9 : decode cX1_init 9 = .ok (.aload_n 0, 1) := by decide +kernel
theorem dX1_init_10 : decode cX1_init 10 = .ok (.iload_n 2, 1) := by decide +kernel
theorem dX1_init_11 : decode cX1_init 11 = .ok (.putfield 13, 3) := by decide +kernel
theorem dX1_init_14 : decode cX1_init 14 = .ok (.aload_n 0, 1) := by decide +kernel
theorem dX1_init_15 : decode cX1_init 15 = .ok (.iload_n 3, 1) := by decide +kernel
theorem dX1_init_16 : decode cX1_init 16 = .ok (.putfield 17, 3) := by decide +kernel
theorem dX1_init_19 : decode cX1_init 19 = .ok (.aload_n 0, 1) := by decide +kernel
theorem dX1_init_20 : decode cX1_init 20 = .ok (.iload 4, 2) := by decide +kernel
theorem dX1_init_22 : decode cX1_init 22 = .ok (.bipush 60, 2) := by decide +kernel
theorem dX1_init_24 : decode cX1_init 24 = .ok (.iadd, 1) := by decide +kernel
theorem dX1_init_25 : decode cX1_init 25 = .ok (.putfield 20, 3) := by decide +kernel
theorem dX1_init_28 : decode cX1_init 28 = .ok (.return_, 1) := by decide +kernel
def f_X1_init (σ : HS) (a0 : Option Nat) (a1 : Option Nat) (a2 : Int32) (a3 : Int32) (a4 : Int32) : Option (Unit × HS) :=
  h_b1 a0 fun y1 =>
  h_b1 (h_pR σ a0 2 0 a1) fun s3 =>
  h_b1 (h_pI s3 a0 2 1 a2) fun s5 =>
  h_b1 (h_pI s5 a0 2 2 a3) fun s7 =>
  h_b1 (h_pI s7 a0 2 3 (a4 + 60)) fun s9 =>
  some ((), s9)
set_option maxHeartbeats 4000000 in
set_option maxRecDepth 100000 in
theorem m_X1_init (l : Launch) (D : va_G) (dA : Nat → ClassId) (bs : Nat) {σ σ' : HS} {a0 : Option Nat} {a1 : Option Nat} {a2 : Int32} {a3 : Int32} {a4 : Int32} (h : f_X1_init σ a0 a1 a2 a3 a4 = some ((), σ')) : MetC l yX1_init cX1_init 5 none 1 12 D dA bs [va_rf a0, va_rf a1, .int a2, .int a3, .int a4] none σ σ' := by
  refine MetC.of (by decide) (h_avR (h_avR (h_avI (h_avI (h_avI h_av0))))) (Nat.le_of_ble_eq_true rfl) ?_
  intro p e R s m args below meth c C B hnm
  unfold f_X1_init at h
  refine V_sub (lv' := [(0, va_rf a0), (1, va_rf a1), (2, .int a2), (3, .int a3), (4, .int a4)]) [0, 1, 2, 3, 4] rfl ?_
  refine V_aload_n C 0 dX1_init_0 rfl rfl ?_
  obtain ⟨y1, e2, h⟩ := h_b1_some h
  refine V_objInit C ob_RX1 ob_i ob_c dX1_init_1 e2 (h_fr B (by decide)) (h_lo B (by decide)) ?_
  refine V_aload_n C 0 dX1_init_4 rfl rfl ?_
  refine V_aload_n C 1 dX1_init_5 rfl rfl ?_
  obtain ⟨s3, e4, h⟩ := h_b1_some h
  refine V_putFR C hnm ff_RX1_7 dX1_init_6 e4 ?_
  refine V_aload_n C 0 dX1_init_9 rfl rfl ?_
  refine V_iload_n C 2 dX1_init_10 rfl rfl ?_
  obtain ⟨s5, e6, h⟩ := h_b1_some h
  refine V_putFI C hnm ff_RX1_13 dX1_init_11 e6 ?_
  refine V_aload_n C 0 dX1_init_14 rfl rfl ?_
  refine V_iload_n C 3 dX1_init_15 rfl rfl ?_
  obtain ⟨s7, e8, h⟩ := h_b1_some h
  refine V_putFI C hnm ff_RX1_17 dX1_init_16 e8 ?_
  refine V_aload_n C 0 dX1_init_19 rfl rfl ?_
  refine V_iload C 4 dX1_init_20 rfl ?_
  refine V_bipush (v := 60) C dX1_init_22 (by decide) ?_
  refine V_iadd C dX1_init_24 ?_
  obtain ⟨s9, e10, h⟩ := h_b1_some h
  refine V_putFI C hnm ff_RX1_20 dX1_init_25 e10 ?_
  cases h
  exact V_vret C B dX1_init_28
/-! X1_isHole -/
theorem dX1_isHole_0 : decode cX1_isHole 0 = .ok (.aload_n 0, 1) := by decide +kernel
theorem dX1_isHole_1 : decode cX1_isHole 1 = .ok (.getfield 13, 3) := by decide +kernel
theorem dX1_isHole_4 : decode cX1_isHole 4 = .ok (.iconst (-1), 1) := by decide +kernel
theorem dX1_isHole_5 : decode cX1_isHole 5 = .ok (.if_icmp .ne 7, 3) := by decide +kernel
theorem dX1_isHole_8 : decode cX1_isHole 8 = .ok (.iconst 1, 1) := by decide +kernel
theorem dX1_isHole_9 : decode cX1_isHole 9 = .ok (.goto 4, 3) := by decide +kernel
theorem dX1_isHole_12 : decode cX1_isHole 12 = .ok (.iconst 0, 1) := by decide +kernel
theorem dX1_isHole_13 : decode cX1_isHole 13 = .ok (.ireturn, 1) := by decide +kernel
def f_X1_isHole (σ : HS) (a0 : Option Nat) : Option (Int32 × HS) :=
  h_b1 (h_gI σ a0 2 1) fun x1 =>
  if x1 = (-1) then
    some (1, σ)
  else
    some (0, σ)
set_option maxHeartbeats 4000000 in
set_option maxRecDepth 100000 in
theorem m_X1_isHole (l : Launch) (D : va_G) (dA : Nat → ClassId) (bs : Nat) {σ σ' : HS} {a0 : Option Nat} {r : Int32} (h : f_X1_isHole σ a0 = some (r, σ')) : MetC l yX1_isHole cX1_isHole 1 (some .boolean) 0 0 D dA bs [va_rf a0] (some (.int r)) σ σ' := by
  refine MetC.of (by decide) (h_avR h_av0) (Nat.le_of_ble_eq_true rfl) ?_
  intro p e R s m args below meth c C B hnm
  unfold f_X1_isHole at h
  refine V_sub (lv' := [(0, va_rf a0)]) [0] rfl ?_
  refine V_aload_n C 0 dX1_isHole_0 rfl rfl ?_
  obtain ⟨x1, e2, h⟩ := h_b1_some h
  refine V_getI C fl_RX1_13 dX1_isHole_1 e2 ?_
  refine V_iconst (v := (-1)) C dX1_isHole_4 (by decide) ?_
  refine V_icmp_ne (tgt := 12) C dX1_isHole_5 (by decide) (fun c3 => ?_) (fun c3 => ?_)
  · rw [if_neg c3] at h
    refine V_iconst (v := 0) C dX1_isHole_12 (by decide) ?_
    cases h
    exact V_zret C B dX1_isHole_13 (Or.inl rfl)
  · rw [if_pos c3] at h
    refine V_iconst (v := 1) C dX1_isHole_8 (by decide) ?_
    refine V_goto (tgt := 13) C dX1_isHole_9 (by decide) ?_
    cases h
    exact V_zret C B dX1_isHole_13 (Or.inr rfl)
/-! X1_isThere -/
theorem dX1_isThere_0 : decode cX1_isThere 0 = .ok (.iload_n 1, 1) := by decide +kernel
theorem dX1_isThere_1 : decode cX1_isThere 1 = .ok (.aload_n 0, 1) := by decide +kernel
theorem dX1_isThere_2 : decode cX1_isThere 2 = .ok (.getfield 20, 3) := by decide +kernel
theorem dX1_isThere_5 : decode cX1_isThere 5 = .ok (.if_icmp .ge 7, 3) := by decide +kernel
theorem dX1_isThere_8 : decode cX1_isThere 8 = .ok (.iconst 1, 1) := by decide +kernel
theorem dX1_isThere_9 : decode cX1_isThere 9 = .ok (.goto 4, 3) := by decide +kernel
theorem dX1_isThere_12 : decode cX1_isThere 12 = .ok (.iconst 0, 1) := by decide +kernel
theorem dX1_isThere_13 : decode cX1_isThere 13 = .ok (.ireturn, 1) := by decide +kernel
def f_X1_isThere (σ : HS) (a0 : Option Nat) (a1 : Int32) : Option (Int32 × HS) :=
  h_b1 (h_gI σ a0 2 3) fun x1 =>
  if x1 ≤ a1 then
    some (0, σ)
  else
    some (1, σ)
set_option maxHeartbeats 4000000 in
set_option maxRecDepth 100000 in
theorem m_X1_isThere (l : Launch) (D : va_G) (dA : Nat → ClassId) (bs : Nat) {σ σ' : HS} {a0 : Option Nat} {a1 : Int32} {r : Int32} (h : f_X1_isThere σ a0 a1 = some (r, σ')) : MetC l yX1_isThere cX1_isThere 2 (some .boolean) 0 0 D dA bs [va_rf a0, .int a1] (some (.int r)) σ σ' := by
  refine MetC.of (by decide) (h_avR (h_avI h_av0)) (Nat.le_of_ble_eq_true rfl) ?_
  intro p e R s m args below meth c C B hnm
  unfold f_X1_isThere at h
  refine V_sub (lv' := [(0, va_rf a0), (1, .int a1)]) [0, 1] rfl ?_
  refine V_iload_n C 1 dX1_isThere_0 rfl rfl ?_
  refine V_aload_n C 0 dX1_isThere_1 rfl rfl ?_
  obtain ⟨x1, e2, h⟩ := h_b1_some h
  refine V_getI C fl_RX1_20 dX1_isThere_2 e2 ?_
  refine V_icmp_ge (tgt := 12) C dX1_isThere_5 (by decide) (fun c3 => ?_) (fun c3 => ?_)
  · rw [if_pos c3] at h
    refine V_iconst (v := 0) C dX1_isThere_12 (by decide) ?_
    cases h
    exact V_zret C B dX1_isThere_13 (Or.inl rfl)
  · rw [if_neg c3] at h
    refine V_iconst (v := 1) C dX1_isThere_8 (by decide) ?_
    refine V_goto (tgt := 13) C dX1_isThere_9 (by decide) ?_
    cases h
    exact V_zret C B dX1_isThere_13 (Or.inr rfl)
/-! X2_init -/
theorem dX2_init_0 : decode cX2_init 0 = .ok (.aload_n 0, 1) := by decide +kernel
theorem dX2_init_1 : decode cX2_init 1 = .ok (.invokespecial 1, 3) := by decide +kernel
theorem dX2_init_4 : decode cX2_init 4 = .ok (.aload_n 0, 1) := by decide +kernel
theorem dX2_init_5 : decode cX2_init 5 = .ok (.bipush 6, 2) := by decide +kernel
theorem dX2_init_7 : decode cX2_init 7 = .ok (.anewarray 9, 3) := by decide +kernel
theorem dX2_init_10 : decode cX2_init 10 = .ok (.putfield 11, 3) := by decide +kernel
theorem dX2_init_13 : decode cX2_init 13 = .ok (.return_, 1) := by decide +kernel
def f_X2_init (σ : HS) (a0 : Option Nat) : Option (Unit × HS) :=
  h_b1 a0 fun y1 =>
  h_bd (h_mkA σ 104 6) fun x3 s4 =>
  h_b1 (h_pR s4 a0 3 0 x3) fun s6 =>
  some ((), s6)
set_option maxHeartbeats 4000000 in
set_option maxRecDepth 100000 in
theorem m_X2_init (l : Launch) (D : va_G) (dA : Nat → ClassId) (bs : Nat) {σ σ' : HS} {a0 : Option Nat} (h : f_X2_init σ a0 = some ((), σ')) : MetC l yX2_init cX2_init 1 none 1 12 D dA bs [va_rf a0] none σ σ' := by
  refine MetC.of (by decide) (h_avR h_av0) (Nat.le_of_ble_eq_true rfl) ?_
  intro p e R s m args below meth c C B hnm
  unfold f_X2_init at h
  refine V_sub (lv' := [(0, va_rf a0)]) [0] rfl ?_
  refine V_aload_n C 0 dX2_init_0 rfl rfl ?_
  obtain ⟨y1, e2, h⟩ := h_b1_some h
  refine V_objInit C ob_RX2 ob_i ob_c dX2_init_1 e2 (h_fr B (by decide)) (h_lo B (by decide)) ?_
  refine V_aload_n C 0 dX2_init_4 rfl rfl ?_
  refine V_bipush (v := 6) C dX2_init_5 (by decide) ?_
  obtain ⟨x3, s4, e5, h⟩ := h_bd_some h
  refine V_anew (u := 2) C (by decide) rfl rfl lk_RX2_9 ao_1 dX2_init_7 e5 ?_
  obtain ⟨s6, e7, h⟩ := h_b1_some h
  refine V_putFR C hnm ff_RX2_11 dX2_init_10 e7 ?_
  cases h
  exact V_vret C B dX2_init_13
/-! X4_mask -/
theorem dX4_mask_0 : decode cX4_mask 0 = .ok (.iload_n 0, 1) := by decide +kernel
theorem dX4_mask_1 : decode cX4_mask 1 = .ok (.ifCond .gt 7, 3) := by decide +kernel
theorem dX4_mask_4 : decode cX4_mask 4 = .ok (.iconst 0, 1) := by decide +kernel
theorem dX4_mask_5 : decode cX4_mask 5 = .ok (.goto 9, 3) := by decide +kernel
theorem dX4_mask_8 : decode cX4_mask 8 = .ok (.iconst (-1), 1) := by decide +kernel
theorem dX4_mask_9 : decode cX4_mask 9 = .ok (.bipush 32, 2) := by decide +kernel
theorem dX4_mask_11 : decode cX4_mask 11 = .ok (.iload_n 0, 1) := by decide +kernel
theorem dX4_mask_12 : decode cX4_mask 12 = .ok (.isub, 1) := by decide +kernel
theorem dX4_mask_13 : decode cX4_mask 13 = .ok (.ishl, 1) := by decide +kernel
theorem dX4_mask_14 : decode cX4_mask 14 = .ok (.ireturn, 1) := by decide +kernel
def f_X4_mask (σ : HS) (a0 : Int32) : Option (Int32 × HS) :=
  if 0 < a0 then
    some (((-1) <<< ((32 - a0) &&& 31)), σ)
  else
    some (0, σ)
set_option maxHeartbeats 4000000 in
set_option maxRecDepth 100000 in
theorem m_X4_mask (l : Launch) (D : va_G) (dA : Nat → ClassId) (bs : Nat) {σ σ' : HS} {a0 : Int32} {r : Int32} (h : f_X4_mask σ a0 = some (r, σ')) : MetC l yX4_mask cX4_mask 1 (some .int) 0 0 D dA bs [.int a0] (some (.int r)) σ σ' := by
  refine MetC.of (by decide) (h_avI h_av0) (Nat.le_of_ble_eq_true rfl) ?_
  intro p e R s m args below meth c C B hnm
  unfold f_X4_mask at h
  refine V_sub (lv' := [(0, .int a0)]) [0] rfl ?_
  refine V_iload_n C 0 dX4_mask_0 rfl rfl ?_
  refine V_if_gt (tgt := 8) C dX4_mask_1 (by decide) (fun c1 => ?_) (fun c1 => ?_)
  · rw [if_pos c1] at h
    refine V_iconst (v := (-1)) C dX4_mask_8 (by decide) ?_
    refine V_bipush (v := 32) C dX4_mask_9 (by decide) ?_
    refine V_iload_n C 0 dX4_mask_11 rfl rfl ?_
    refine V_isub C dX4_mask_12 ?_
    refine V_ishl C dX4_mask_13 ?_
    cases h
    exact V_iret C B dX4_mask_14
  · rw [if_neg c1] at h
    refine V_iconst (v := 0) C dX4_mask_4 (by decide) ?_
    refine V_goto (tgt := 14) C dX4_mask_5 (by decide) ?_
    cases h
    exact V_iret C B dX4_mask_14
/-! X4_has -/
theorem dX4_has_0 : decode cX4_has 0 = .ok (.iload_n 1, 1) := by decide +kernel
theorem dX4_has_1 : decode cX4_has 1 = .ok (.aload_n 0, 1) := by decide +kernel
theorem dX4_has_2 : decode cX4_has 2 = .ok (.getfield 13, 3) := by decide +kernel
theorem dX4_has_5 : decode cX4_has 5 = .ok (.invokestatic 16, 3) := by decide +kernel
theorem dX4_has_8 : decode cX4_has 8 = .ok (.iand, 1) := by decide +kernel
theorem dX4_has_9 : decode cX4_has 9 = .ok (.aload_n 0, 1) := by decide +kernel
theorem dX4_has_10 : decode cX4_has 10 = .ok (.getfield 7, 3) := by decide +kernel
theorem dX4_has_13 : decode cX4_has 13 = .ok (.if_icmp .ne 7, 3) := by decide +kernel
theorem dX4_has_16 : decode cX4_has 16 = .ok (.iconst 1, 1) := by decide +kernel
theorem dX4_has_17 : decode cX4_has 17 = .ok (.goto 4, 3) := by decide +kernel
theorem dX4_has_20 : decode cX4_has 20 = .ok (.iconst 0, 1) := by decide +kernel
theorem dX4_has_21 : decode cX4_has 21 = .ok (.ireturn, 1) := by decide +kernel
def f_X4_has (σ : HS) (a0 : Option Nat) (a1 : Int32) : Option (Int32 × HS) :=
  h_b1 (h_gI σ a0 5 1) fun x1 =>
  h_bd (f_X4_mask σ x1) fun r3 s4 =>
  h_b1 (h_gI s4 a0 5 0) fun x6 =>
  if (a1 &&& r3) = x6 then
    some (1, s4)
  else
    some (0, s4)
set_option maxHeartbeats 4000000 in
set_option maxRecDepth 100000 in
theorem m_X4_has (l : Launch) (D : va_G) (dA : Nat → ClassId) (bs : Nat) {σ σ' : HS} {a0 : Option Nat} {a1 : Int32} {r : Int32} (h : f_X4_has σ a0 a1 = some (r, σ')) : MetC l yX4_has cX4_has 2 (some .boolean) 1 20 D dA bs [va_rf a0, .int a1] (some (.int r)) σ σ' := by
  refine MetC.of (by decide) (h_avR (h_avI h_av0)) (Nat.le_of_ble_eq_true rfl) ?_
  intro p e R s m args below meth c C B hnm
  unfold f_X4_has at h
  refine V_sub (lv' := [(0, va_rf a0), (1, .int a1)]) [0, 1] rfl ?_
  refine V_iload_n C 1 dX4_has_0 rfl rfl ?_
  refine V_aload_n C 0 dX4_has_1 rfl rfl ?_
  obtain ⟨x1, e2, h⟩ := h_b1_some h
  refine V_getI C fl_RX4_13 dX4_has_2 e2 ?_
  obtain ⟨r3, s4, e5, h⟩ := h_bd_some h
  refine V_cS (As := [.int x1]) (rest := [.int a1]) C ms_RX4_16 (m_X4_mask l D dA bs e5) rfl rfl (Nat.le_trans (h_wI h_w0) (by decide)) (h_fr B (by decide)) (h_lo B (by decide)) dX4_has_5 ?_
  refine V_iand C dX4_has_8 ?_
  refine V_aload_n C 0 dX4_has_9 rfl rfl ?_
  obtain ⟨x6, e7, h⟩ := h_b1_some h
  refine V_getI C fl_RX4_7 dX4_has_10 e7 ?_
  refine V_icmp_ne (tgt := 20) C dX4_has_13 (by decide) (fun c8 => ?_) (fun c8 => ?_)
  · rw [if_neg c8] at h
    refine V_iconst (v := 0) C dX4_has_20 (by decide) ?_
    cases h
    exact V_zret C B dX4_has_21 (Or.inl rfl)
  · rw [if_pos c8] at h
    refine V_iconst (v := 1) C dX4_has_16 (by decide) ?_
    refine V_goto (tgt := 21) C dX4_has_17 (by decide) ?_
    cases h
    exact V_zret C B dX4_has_21 (Or.inr rfl)
/-! X2_find -/
theorem dX2_find_0 : decode cX2_find 0 = .ok (.iconst 0, 1) := by decide +kernel
theorem dX2_find_1 : decode cX2_find 1 = .ok (.istore_n 3, 1) := by decide +kernel
theorem dX2_find_2 : decode cX2_find 2 = .ok (.iload_n 3, 1) := by decide +kernel
theorem dX2_find_3 : decode cX2_find 3 = .ok (.aload_n 0, 1) := by decide +kernel
theorem dX2_find_4 : decode cX2_find 4 = .ok (.getfield 15, 3) := by decide +kernel
theorem dX2_find_7 : decode cX2_find 7 = .ok (.if_icmp .ge 45, 3) := by decide +kernel
theorem dX2_find_10 : decode cX2_find 10 = .ok (.aload_n 0, 1) := by decide +kernel
theorem dX2_find_11 : decode cX2_find 11 = .ok (.getfield 11, 3) := by decide +kernel
theorem dX2_find_14 : decode cX2_find 14 = .ok (.iload_n 3, 1) := by decide +kernel
theorem dX2_find_15 : decode cX2_find 15 = .ok (.aaload, 1) := by decide +kernel
theorem dX2_find_16 : decode cX2_find 16 = .ok (.iload_n 2, 1) := by decide +kernel
theorem dX2_find_17 : decode cX2_find 17 = .ok (.invokevirtual 19, 3) := by decide +kernel
theorem dX2_find_20 : decode cX2_find 20 = .ok (.ifCond .eq 26, 3) := by decide +kernel
theorem dX2_find_23 : decode cX2_find 23 = .ok (.aload_n 0, 1) := by decide +kernel
theorem dX2_find_24 : decode cX2_find 24 = .ok (.getfield 11, 3) := by decide +kernel
theorem dX2_find_27 : decode cX2_find 27 = .ok (.iload_n 3, 1) := by decide +kernel
theorem dX2_find_28 : decode cX2_find 28 = .ok (.aaload, 1) := by decide +kernel
theorem dX2_find_29 : decode cX2_find 29 = .ok (.getfield 23, 3) := by decide +kernel
theorem dX2_find_32 : decode cX2_find 32 = .ok (.iload_n 1, 1) := by decide +kernel
theorem dX2_find_33 : decode cX2_find 33 = .ok (.invokevirtual 27, 3) := by decide +kernel
theorem dX2_find_36 : decode cX2_find 36 = .ok (.ifCond .eq 10, 3) := by decide +kernel
theorem dX2_find_39 : decode cX2_find 39 = .ok (.aload_n 0, 1) := by decide +kernel
theorem dX2_find_40 : decode cX2_find 40 = .ok (.getfield 11, 3) := by decide +kernel
theorem dX2_find_43 : decode cX2_find 43 = .ok (.iload_n 3, 1) := by decide +kernel
theorem dX2_find_44 : decode cX2_find 44 = .ok (.aaload, 1) := by decide +kernel
theorem dX2_find_45 : decode cX2_find 45 = .ok (.areturn, 1) := by decide +kernel
theorem dX2_find_46 : decode cX2_find 46 = .ok (.iinc 3 1, 3) := by decide +kernel
theorem dX2_find_49 : decode cX2_find 49 = .ok (.goto (-47), 3) := by decide +kernel
theorem dX2_find_52 : decode cX2_find 52 = .ok (.aconst_null, 1) := by decide +kernel
theorem dX2_find_53 : decode cX2_find 53 = .ok (.areturn, 1) := by decide +kernel
def g_X2_find_2 : Nat → HS → Option Nat → Int32 → Int32 → Int32 → Option (Option Nat × HS)
  | 0, _, _, _, _, _ => none
  | n + 1, σ, l0, l1, l2, l3 =>
    h_b1 (h_gI σ l0 3 1) fun x1 =>
    if x1 ≤ l3 then
      some ((none : Option Nat), σ)
    else
      h_b1 (h_gR σ l0 3 0) fun x4 =>
      h_b1 (h_aR σ x4 104 l3) fun x6 =>
      h_b1 (h_rcv σ x6 2) fun y11 =>
      h_bd (f_X1_isThere σ x6 l2) fun r8 s9 =>
      if r8 = 0 then
        g_X2_find_2 n s9 l0 l1 l2 (l3 + 1)
      else
        h_b1 (h_gR s9 l0 3 0) fun x14 =>
        h_b1 (h_aR s9 x14 104 l3) fun x16 =>
        h_b1 (h_gR s9 x16 2 0) fun x18 =>
        h_b1 (h_rcv s9 x18 5) fun y23 =>
        h_bd (f_X4_has s9 x18 l1) fun r20 s21 =>
        if r20 = 0 then
          g_X2_find_2 n s21 l0 l1 l2 (l3 + 1)
        else
          h_b1 (h_gR s21 l0 3 0) fun x26 =>
          h_b1 (h_aR s21 x26 104 l3) fun x28 =>
          some (x28, s21)
def f_X2_find (σ : HS) (a0 : Option Nat) (a1 : Int32) (a2 : Int32) : Option (Option Nat × HS) :=
  g_X2_find_2 h_hN σ a0 a1 a2 0
set_option maxHeartbeats 4000000 in
set_option maxRecDepth 100000 in
theorem w_X2_find_2 {p : Program} {l : Launch} {e : Env} {R : Room} {s : State} {m : MethodId} {args : Array Value} {below : List Frame} {meth : Method} {c : Code} {D : va_G} {dA : Nat → ClassId} {bs : Nat} (C : h_C p m c cX2_find 4 s args RX2 D dA) {σ0 : HS} (B : h_B R s meth σ0 (some (.object RX1)) 2 41) {σ' : HS} {r : Option Nat} : ∀ (n : Nat) (σ : HS) (l0 : Option Nat) (l1 : Int32) (l2 : Int32) (l3 : Int32), g_X2_find_2 n σ l0 l1 l2 l3 = some (r, σ') → V p l e R s m args below meth c D dA bs 4 (MQ below (h_Q D dA bs (some (va_rf r)) σ0 σ') args s R.cells R.slots (fun q => bs ≤ q)) σ 2 [(0, va_rf l0), (1, .int l1), (2, .int l2), (3, .int l3)] [] := by
  intro n
  induction n with
  | zero =>
    intro σ l0 l1 l2 l3 h
    rw [g_X2_find_2] at h
    cases h
  | succ n ih =>
    intro σ l0 l1 l2 l3 h
    rw [g_X2_find_2] at h
    refine V_iload_n C 3 dX2_find_2 rfl rfl ?_
    refine V_aload_n C 0 dX2_find_3 rfl rfl ?_
    obtain ⟨x1, e2, h⟩ := h_b1_some h
    refine V_getI C fl_RX2_15 dX2_find_4 e2 ?_
    refine V_icmp_ge (tgt := 52) C dX2_find_7 (by decide) (fun c3 => ?_) (fun c3 => ?_)
    · rw [if_pos c3] at h
      refine V_null C dX2_find_52 ?_
      cases h
      exact V_aret C B dX2_find_53
    · rw [if_neg c3] at h
      refine V_aload_n C 0 dX2_find_10 rfl rfl ?_
      obtain ⟨x4, e5, h⟩ := h_b1_some h
      refine V_getR C fl_RX2_11 dX2_find_11 e5 ?_
      refine V_iload_n C 3 dX2_find_14 rfl rfl ?_
      obtain ⟨x6, e7, h⟩ := h_b1_some h
      refine V_aald C h_at104 dX2_find_15 e7 ?_
      refine V_iload_n C 2 dX2_find_16 rfl rfl ?_
      obtain ⟨y11, e12, h⟩ := h_b1_some h
      obtain ⟨r8, s9, e10, h⟩ := h_bd_some h
      refine V_cV (As := [.int l2]) (rest := []) C mv_RX2_19 (m_X1_isThere l D dA bs e10) e12 rfl rfl (Nat.le_trans h_w0 (by decide)) (h_fr B (by decide)) (h_lo B (by decide)) dX2_find_17 ?_
      refine V_if_eq (tgt := 46) C dX2_find_20 (by decide) (fun c13 => ?_) (fun c13 => ?_)
      · rw [if_pos c13] at h
        refine V_iinc (v := (l3 + 1)) (lv' := [(3, .int (l3 + 1)), (0, va_rf l0), (1, .int l1), (2, .int l2)]) C 3 dX2_find_46 rfl rfl (by decide) rfl ?_
        refine V_goto (tgt := 2) C dX2_find_49 (by decide) ?_
        exact V_sub [1, 2, 3, 0] rfl (ih s9 l0 l1 l2 (l3 + 1) h)
      · rw [if_neg c13] at h
        refine V_aload_n C 0 dX2_find_23 rfl rfl ?_
        obtain ⟨x14, e15, h⟩ := h_b1_some h
        refine V_getR C fl_RX2_11 dX2_find_24 e15 ?_
        refine V_iload_n C 3 dX2_find_27 rfl rfl ?_
        obtain ⟨x16, e17, h⟩ := h_b1_some h
        refine V_aald C h_at104 dX2_find_28 e17 ?_
        obtain ⟨x18, e19, h⟩ := h_b1_some h
        refine V_getR C fl_RX2_23 dX2_find_29 e19 ?_
        refine V_iload_n C 1 dX2_find_32 rfl rfl ?_
        obtain ⟨y23, e24, h⟩ := h_b1_some h
        obtain ⟨r20, s21, e22, h⟩ := h_bd_some h
        refine V_cV (As := [.int l1]) (rest := []) C mv_RX2_27 (m_X4_has l D dA bs e22) e24 rfl rfl (Nat.le_trans h_w0 (by decide)) (h_fr B (by decide)) (h_lo B (by decide)) dX2_find_33 ?_
        refine V_if_eq (tgt := 46) C dX2_find_36 (by decide) (fun c25 => ?_) (fun c25 => ?_)
        · rw [if_pos c25] at h
          refine V_iinc (v := (l3 + 1)) (lv' := [(3, .int (l3 + 1)), (0, va_rf l0), (1, .int l1), (2, .int l2)]) C 3 dX2_find_46 rfl rfl (by decide) rfl ?_
          refine V_goto (tgt := 2) C dX2_find_49 (by decide) ?_
          exact V_sub [1, 2, 3, 0] rfl (ih s21 l0 l1 l2 (l3 + 1) h)
        · rw [if_neg c25] at h
          refine V_aload_n C 0 dX2_find_39 rfl rfl ?_
          obtain ⟨x26, e27, h⟩ := h_b1_some h
          refine V_getR C fl_RX2_11 dX2_find_40 e27 ?_
          refine V_iload_n C 3 dX2_find_43 rfl rfl ?_
          obtain ⟨x28, e29, h⟩ := h_b1_some h
          refine V_aald C h_at104 dX2_find_44 e29 ?_
          cases h
          exact V_aret C B dX2_find_45
set_option maxHeartbeats 4000000 in
set_option maxRecDepth 100000 in
theorem m_X2_find (l : Launch) (D : va_G) (dA : Nat → ClassId) (bs : Nat) {σ σ' : HS} {a0 : Option Nat} {a1 : Int32} {a2 : Int32} {r : Option Nat} (h : f_X2_find σ a0 a1 a2 = some (r, σ')) : MetC l yX2_find cX2_find 4 (some (.object RX1)) 2 41 D dA bs [va_rf a0, .int a1, .int a2] (some (va_rf r)) σ σ' := by
  refine MetC.of (by decide) (h_avR (h_avI (h_avI h_av0))) (Nat.le_of_ble_eq_true rfl) ?_
  intro p e R s m args below meth c C B hnm
  unfold f_X2_find at h
  refine V_sub (lv' := [(0, va_rf a0), (1, .int a1), (2, .int a2)]) [0, 1, 2] rfl ?_
  refine V_iconst (v := 0) C dX2_find_0 (by decide) ?_
  refine V_istore_n (lv' := [(3, .int 0), (0, va_rf a0), (1, .int a1), (2, .int a2)]) C dX2_find_1 rfl (by decide) rfl ?_
  exact V_sub [1, 2, 3, 0] rfl (w_X2_find_2 C B h_hN σ a0 a1 a2 0 h)
/-! X2_remove -/
theorem dX2_remove_0 : decode cX2_remove 0 = .ok (.iload_n 1, 1) := by decide +kernel
theorem dX2_remove_1 : decode cX2_remove 1 = .ok (.istore_n 2, 1) := by decide +kernel
theorem dX2_remove_2 : decode cX2_remove 2 = .ok (.iload_n 2, 1) := by decide +kernel
theorem dX2_remove_3 : decode cX2_remove 3 = .ok (.aload_n 0, 1) := by decide +kernel
theorem dX2_remove_4 : decode cX2_remove 4 = .ok (.getfield 15, 3) := by decide +kernel
theorem dX2_remove_7 : decode cX2_remove 7 = .ok (.iconst 1, 1) := by decide +kernel
theorem dX2_remove_8 : decode cX2_remove 8 = .ok (.isub, 1) := by decide +kernel
theorem dX2_remove_9 : decode cX2_remove 9 = .ok (.if_icmp .ge 23, 3) := by decide +kernel
theorem dX2_remove_12 : decode cX2_remove 12 = .ok (.aload_n 0, 1) := by decide +kernel
theorem dX2_remove_13 : decode cX2_remove 13 = .ok (.getfield 11, 3) := by decide +kernel
theorem dX2_remove_16 : decode cX2_remove 16 = .ok (.iload_n 2, 1) := by decide +kernel
theorem dX2_remove_17 : decode cX2_remove 17 = .ok (.aload_n 0, 1) := by decide +kernel
theorem dX2_remove_18 : decode cX2_remove 18 = .ok (.getfield 11, 3) := by decide +kernel
theorem dX2_remove_21 : decode cX2_remove 21 = .ok (.iload_n 2, 1) := by decide +kernel
theorem dX2_remove_22 : decode cX2_remove 22 = .ok (.iconst 1, 1) := by decide +kernel
theorem dX2_remove_23 : decode cX2_remove 23 = .ok (.iadd, 1) := by decide +kernel
theorem dX2_remove_24 : decode cX2_remove 24 = .ok (.aaload, 1) := by decide +kernel
theorem dX2_remove_25 : decode cX2_remove 25 = .ok (.aastore, 1) := by decide +kernel
theorem dX2_remove_26 : decode cX2_remove 26 = .ok (.iinc 2 1, 3) := by decide +kernel
theorem dX2_remove_29 : decode cX2_remove 29 = .ok (.goto (-27), 3) := by decide +kernel
theorem dX2_remove_32 : decode cX2_remove 32 = .ok (.aload_n 0, 1) := by decide +kernel
theorem dX2_remove_33 : decode cX2_remove 33 = .ok (.dup, 1) := by decide +kernel
theorem dX2_remove_34 : decode cX2_remove 34 = .ok (.getfield 15, 3) := by decide +kernel
theorem dX2_remove_37 : decode cX2_remove 37 = .ok (.iconst 1, 1) := by decide +kernel
theorem dX2_remove_38 : decode cX2_remove 38 = .ok (.isub, 1) := by decide +kernel
theorem dX2_remove_39 : decode cX2_remove 39 = .ok (.putfield 15, 3) := by decide +kernel
theorem dX2_remove_42 : decode cX2_remove 42 = .ok (.return_, 1) := by decide +kernel
def g_X2_remove_2 : Nat → HS → Option Nat → Int32 → Option (Unit × HS)
  | 0, _, _, _ => none
  | n + 1, σ, l0, l2 =>
    h_b1 (h_gI σ l0 3 1) fun x1 =>
    if (x1 - 1) ≤ l2 then
      h_b1 (h_gI σ l0 3 1) fun x4 =>
      h_b1 (h_pI σ l0 3 1 (x4 - 1)) fun s6 =>
      some ((), s6)
    else
      h_b1 (h_gR σ l0 3 0) fun x8 =>
      h_b1 (h_gR σ l0 3 0) fun x10 =>
      h_b1 (h_aR σ x10 104 (l2 + 1)) fun x12 =>
      h_b1 (h_sR σ x8 104 2 l2 x12) fun s14 =>
      g_X2_remove_2 n s14 l0 (l2 + 1)
def f_X2_remove (σ : HS) (a0 : Option Nat) (a1 : Int32) : Option (Unit × HS) :=
  g_X2_remove_2 h_hN σ a0 a1
set_option maxHeartbeats 4000000 in
set_option maxRecDepth 100000 in
theorem w_X2_remove_2 {p : Program} {l : Launch} {e : Env} {R : Room} {s : State} {m : MethodId} {args : Array Value} {below : List Frame} {meth : Method} {c : Code} {D : va_G} {dA : Nat → ClassId} {bs : Nat} (C : h_C p m c cX2_remove 3 s args RX2 D dA) {σ0 : HS} (B : h_B R s meth σ0 none 0 0) {σ' : HS} : ∀ (n : Nat) (σ : HS) (l0 : Option Nat) (l2 : Int32), g_X2_remove_2 n σ l0 l2 = some ((), σ') → V p l e R s m args below meth c D dA bs 3 (MQ below (h_Q D dA bs none σ0 σ') args s R.cells R.slots (fun q => bs ≤ q)) σ 2 [(0, va_rf l0), (2, .int l2)] [] := by
  intro n
  induction n with
  | zero =>
    intro σ l0 l2 h
    rw [g_X2_remove_2] at h
    cases h
  | succ n ih =>
    intro σ l0 l2 h
    rw [g_X2_remove_2] at h
    refine V_iload_n C 1 dX2_remove_2 rfl rfl ?_
    refine V_aload_n C 0 dX2_remove_3 rfl rfl ?_
    obtain ⟨x1, e2, h⟩ := h_b1_some h
    refine V_getI C fl_RX2_15 dX2_remove_4 e2 ?_
    refine V_iconst (v := 1) C dX2_remove_7 (by decide) ?_
    refine V_isub C dX2_remove_8 ?_
    refine V_icmp_ge (tgt := 32) C dX2_remove_9 (by decide) (fun c3 => ?_) (fun c3 => ?_)
    · rw [if_pos c3] at h
      refine V_aload_n C 0 dX2_remove_32 rfl rfl ?_
      refine V_dupR C dX2_remove_33 ?_
      obtain ⟨x4, e5, h⟩ := h_b1_some h
      refine V_getI C fl_RX2_15 dX2_remove_34 e5 ?_
      refine V_iconst (v := 1) C dX2_remove_37 (by decide) ?_
      refine V_isub C dX2_remove_38 ?_
      obtain ⟨s6, e7, h⟩ := h_b1_some h
      refine V_putI C fw_RX2_15 dX2_remove_39 e7 ?_
      cases h
      exact V_vret C B dX2_remove_42
    · rw [if_neg c3] at h
      refine V_aload_n C 0 dX2_remove_12 rfl rfl ?_
      obtain ⟨x8, e9, h⟩ := h_b1_some h
      refine V_getR C fl_RX2_11 dX2_remove_13 e9 ?_
      refine V_iload_n C 1 dX2_remove_16 rfl rfl ?_
      refine V_aload_n C 0 dX2_remove_17 rfl rfl ?_
      obtain ⟨x10, e11, h⟩ := h_b1_some h
      refine V_getR C fl_RX2_11 dX2_remove_18 e11 ?_
      refine V_iload_n C 1 dX2_remove_21 rfl rfl ?_
      refine V_iconst (v := 1) C dX2_remove_22 (by decide) ?_
      refine V_iadd C dX2_remove_23 ?_
      obtain ⟨x12, e13, h⟩ := h_b1_some h
      refine V_aald C h_at104 dX2_remove_24 e13 ?_
      obtain ⟨s14, e15, h⟩ := h_b1_some h
      refine V_aast C h_at104 dX2_remove_25 e15 ?_
      refine V_iinc (v := (l2 + 1)) (lv' := [(2, .int (l2 + 1)), (0, va_rf l0)]) C 1 dX2_remove_26 rfl rfl (by decide) rfl ?_
      refine V_goto (tgt := 2) C dX2_remove_29 (by decide) ?_
      exact V_sub [1, 0] rfl (ih s14 l0 (l2 + 1) h)
set_option maxHeartbeats 4000000 in
set_option maxRecDepth 100000 in
theorem m_X2_remove (l : Launch) (D : va_G) (dA : Nat → ClassId) (bs : Nat) {σ σ' : HS} {a0 : Option Nat} {a1 : Int32} (h : f_X2_remove σ a0 a1 = some ((), σ')) : MetC l yX2_remove cX2_remove 3 none 0 0 D dA bs [va_rf a0, .int a1] none σ σ' := by
  refine MetC.of (by decide) (h_avR (h_avI h_av0)) (Nat.le_of_ble_eq_true rfl) ?_
  intro p e R s m args below meth c C B hnm
  unfold f_X2_remove at h
  refine V_sub (lv' := [(0, va_rf a0), (1, .int a1)]) [0, 1] rfl ?_
  refine V_iload_n C 1 dX2_remove_0 rfl rfl ?_
  refine V_istore_n (lv' := [(2, .int a1), (0, va_rf a0), (1, .int a1)]) C dX2_remove_1 rfl (by decide) rfl ?_
  exact V_sub [1, 0] rfl (w_X2_remove_2 C B h_hN σ a0 a1 h)
/-! X4_liesIn -/
theorem dX4_liesIn_0 : decode cX4_liesIn 0 = .ok (.aload_n 0, 1) := by decide +kernel
theorem dX4_liesIn_1 : decode cX4_liesIn 1 = .ok (.getfield 13, 3) := by decide +kernel
theorem dX4_liesIn_4 : decode cX4_liesIn 4 = .ok (.aload_n 1, 1) := by decide +kernel
theorem dX4_liesIn_5 : decode cX4_liesIn 5 = .ok (.getfield 13, 3) := by decide +kernel
theorem dX4_liesIn_8 : decode cX4_liesIn 8 = .ok (.if_icmp .lt 26, 3) := by decide +kernel
theorem dX4_liesIn_11 : decode cX4_liesIn 11 = .ok (.aload_n 0, 1) := by decide +kernel
theorem dX4_liesIn_12 : decode cX4_liesIn 12 = .ok (.getfield 7, 3) := by decide +kernel
theorem dX4_liesIn_15 : decode cX4_liesIn 15 = .ok (.aload_n 1, 1) := by decide +kernel
theorem dX4_liesIn_16 : decode cX4_liesIn 16 = .ok (.getfield 13, 3) := by decide +kernel
theorem dX4_liesIn_19 : decode cX4_liesIn 19 = .ok (.invokestatic 16, 3) := by decide +kernel
theorem dX4_liesIn_22 : decode cX4_liesIn 22 = .ok (.iand, 1) := by decide +kernel
theorem dX4_liesIn_23 : decode cX4_liesIn 23 = .ok (.aload_n 1, 1) := by decide +kernel
theorem dX4_liesIn_24 : decode cX4_liesIn 24 = .ok (.getfield 7, 3) := by decide +kernel
theorem dX4_liesIn_27 : decode cX4_liesIn 27 = .ok (.if_icmp .ne 7, 3) := by decide +kernel
theorem dX4_liesIn_30 : decode cX4_liesIn 30 = .ok (.iconst 1, 1) := by decide +kernel
theorem dX4_liesIn_31 : decode cX4_liesIn 31 = .ok (.goto 4, 3) := by decide +kernel
theorem dX4_liesIn_34 : decode cX4_liesIn 34 = .ok (.iconst 0, 1) := by decide +kernel
theorem dX4_liesIn_35 : decode cX4_liesIn 35 = .ok (.ireturn, 1) := by decide +kernel
def f_X4_liesIn (σ : HS) (a0 : Option Nat) (a1 : Option Nat) : Option (Int32 × HS) :=
  h_b1 (h_gI σ a0 5 1) fun x1 =>
  h_b1 (h_gI σ a1 5 1) fun x3 =>
  if x1 < x3 then
    some (0, σ)
  else
    h_b1 (h_gI σ a0 5 0) fun x6 =>
    h_b1 (h_gI σ a1 5 1) fun x8 =>
    h_bd (f_X4_mask σ x8) fun r10 s11 =>
    h_b1 (h_gI s11 a1 5 0) fun x13 =>
    if (x6 &&& r10) = x13 then
      some (1, s11)
    else
      some (0, s11)
set_option maxHeartbeats 4000000 in
set_option maxRecDepth 100000 in
theorem m_X4_liesIn (l : Launch) (D : va_G) (dA : Nat → ClassId) (bs : Nat) {σ σ' : HS} {a0 : Option Nat} {a1 : Option Nat} {r : Int32} (h : f_X4_liesIn σ a0 a1 = some (r, σ')) : MetC l yX4_liesIn cX4_liesIn 2 (some .boolean) 1 20 D dA bs [va_rf a0, va_rf a1] (some (.int r)) σ σ' := by
  refine MetC.of (by decide) (h_avR (h_avR h_av0)) (Nat.le_of_ble_eq_true rfl) ?_
  intro p e R s m args below meth c C B hnm
  unfold f_X4_liesIn at h
  refine V_sub (lv' := [(0, va_rf a0), (1, va_rf a1)]) [0, 1] rfl ?_
  refine V_aload_n C 0 dX4_liesIn_0 rfl rfl ?_
  obtain ⟨x1, e2, h⟩ := h_b1_some h
  refine V_getI C fl_RX4_13 dX4_liesIn_1 e2 ?_
  refine V_aload_n C 1 dX4_liesIn_4 rfl rfl ?_
  obtain ⟨x3, e4, h⟩ := h_b1_some h
  refine V_getI C fl_RX4_13 dX4_liesIn_5 e4 ?_
  refine V_icmp_lt (tgt := 34) C dX4_liesIn_8 (by decide) (fun c5 => ?_) (fun c5 => ?_)
  · rw [if_pos c5] at h
    refine V_iconst (v := 0) C dX4_liesIn_34 (by decide) ?_
    cases h
    exact V_zret C B dX4_liesIn_35 (Or.inl rfl)
  · rw [if_neg c5] at h
    refine V_aload_n C 0 dX4_liesIn_11 rfl rfl ?_
    obtain ⟨x6, e7, h⟩ := h_b1_some h
    refine V_getI C fl_RX4_7 dX4_liesIn_12 e7 ?_
    refine V_aload_n C 1 dX4_liesIn_15 rfl rfl ?_
    obtain ⟨x8, e9, h⟩ := h_b1_some h
    refine V_getI C fl_RX4_13 dX4_liesIn_16 e9 ?_
    obtain ⟨r10, s11, e12, h⟩ := h_bd_some h
    refine V_cS (As := [.int x8]) (rest := [.int x6]) C ms_RX4_16 (m_X4_mask l D dA bs e12) rfl rfl (Nat.le_trans (h_wI h_w0) (by decide)) (h_fr B (by decide)) (h_lo B (by decide)) dX4_liesIn_19 ?_
    refine V_iand C dX4_liesIn_22 ?_
    refine V_aload_n C 1 dX4_liesIn_23 rfl rfl ?_
    obtain ⟨x13, e14, h⟩ := h_b1_some h
    refine V_getI C fl_RX4_7 dX4_liesIn_24 e14 ?_
    refine V_icmp_ne (tgt := 34) C dX4_liesIn_27 (by decide) (fun c15 => ?_) (fun c15 => ?_)
    · rw [if_neg c15] at h
      refine V_iconst (v := 0) C dX4_liesIn_34 (by decide) ?_
      cases h
      exact V_zret C B dX4_liesIn_35 (Or.inl rfl)
    · rw [if_pos c15] at h
      refine V_iconst (v := 1) C dX4_liesIn_30 (by decide) ?_
      refine V_goto (tgt := 35) C dX4_liesIn_31 (by decide) ?_
      cases h
      exact V_zret C B dX4_liesIn_35 (Or.inr rfl)
/-! X4_meets -/
theorem dX4_meets_0 : decode cX4_meets 0 = .ok (.aload_n 0, 1) := by decide +kernel
theorem dX4_meets_1 : decode cX4_meets 1 = .ok (.aload_n 1, 1) := by decide +kernel
theorem dX4_meets_2 : decode cX4_meets 2 = .ok (.invokevirtual 23, 3) := by decide +kernel
theorem dX4_meets_5 : decode cX4_meets 5 = .ok (.ifCond .ne 11, 3) := by decide +kernel
theorem dX4_meets_8 : decode cX4_meets 8 = .ok (.aload_n 1, 1) := by decide +kernel
theorem dX4_meets_9 : decode cX4_meets 9 = .ok (.aload_n 0, 1) := by decide +kernel
theorem dX4_meets_10 : decode cX4_meets 10 = .ok (.invokevirtual 23, 3) := by decide +kernel
theorem dX4_meets_13 : decode cX4_meets 13 = .ok (.ifCond .eq 7, 3) := by decide +kernel
theorem dX4_meets_16 : decode cX4_meets 16 = .ok (.iconst 1, 1) := by decide +kernel
theorem dX4_meets_17 : decode cX4_meets 17 = .ok (.goto 4, 3) := by decide +kernel
theorem dX4_meets_20 : decode cX4_meets 20 = .ok (.iconst 0, 1) := by decide +kernel
theorem dX4_meets_21 : decode cX4_meets 21 = .ok (.ireturn, 1) := by decide +kernel
def f_X4_meets (σ : HS) (a0 : Option Nat) (a1 : Option Nat) : Option (Int32 × HS) :=
  h_b1 (h_rcv σ a0 5) fun y4 =>
  h_bd (f_X4_liesIn σ a0 a1) fun r1 s2 =>
  if r1 = 0 then
    h_b1 (h_rcv s2 a1 5) fun y10 =>
    h_bd (f_X4_liesIn s2 a1 a0) fun r7 s8 =>
    if r7 = 0 then
      some (0, s8)
    else
      some (1, s8)
  else
    some (1, s2)
set_option maxHeartbeats 4000000 in
set_option maxRecDepth 100000 in
theorem m_X4_meets (l : Launch) (D : va_G) (dA : Nat → ClassId) (bs : Nat) {σ σ' : HS} {a0 : Option Nat} {a1 : Option Nat} {r : Int32} (h : f_X4_meets σ a0 a1 = some (r, σ')) : MetC l yX4_meets cX4_meets 2 (some .boolean) 2 41 D dA bs [va_rf a0, va_rf a1] (some (.int r)) σ σ' := by
  refine MetC.of (by decide) (h_avR (h_avR h_av0)) (Nat.le_of_ble_eq_true rfl) ?_
  intro p e R s m args below meth c C B hnm
  unfold f_X4_meets at h
  refine V_sub (lv' := [(0, va_rf a0), (1, va_rf a1)]) [0, 1] rfl ?_
  refine V_aload_n C 0 dX4_meets_0 rfl rfl ?_
  refine V_aload_n C 1 dX4_meets_1 rfl rfl ?_
  obtain ⟨y4, e5, h⟩ := h_b1_some h
  obtain ⟨r1, s2, e3, h⟩ := h_bd_some h
  refine V_cV (As := [va_rf a1]) (rest := []) C mv_RX4_23 (m_X4_liesIn l D dA bs e3) e5 rfl rfl (Nat.le_trans h_w0 (by decide)) (h_fr B (by decide)) (h_lo B (by decide)) dX4_meets_2 ?_
  refine V_if_ne (tgt := 16) C dX4_meets_5 (by decide) (fun c6 => ?_) (fun c6 => ?_)
  · rw [if_neg c6] at h
    refine V_iconst (v := 1) C dX4_meets_16 (by decide) ?_
    refine V_goto (tgt := 21) C dX4_meets_17 (by decide) ?_
    cases h
    exact V_zret C B dX4_meets_21 (Or.inr rfl)
  · rw [if_pos c6] at h
    refine V_aload_n C 1 dX4_meets_8 rfl rfl ?_
    refine V_aload_n C 0 dX4_meets_9 rfl rfl ?_
    obtain ⟨y10, e11, h⟩ := h_b1_some h
    obtain ⟨r7, s8, e9, h⟩ := h_bd_some h
    refine V_cV (As := [va_rf a0]) (rest := []) C mv_RX4_23 (m_X4_liesIn l D dA bs e9) e11 rfl rfl (Nat.le_trans h_w0 (by decide)) (h_fr B (by decide)) (h_lo B (by decide)) dX4_meets_10 ?_
    refine V_if_eq (tgt := 20) C dX4_meets_13 (by decide) (fun c12 => ?_) (fun c12 => ?_)
    · rw [if_pos c12] at h
      refine V_iconst (v := 0) C dX4_meets_20 (by decide) ?_
      cases h
      exact V_zret C B dX4_meets_21 (Or.inl rfl)
    · rw [if_neg c12] at h
      refine V_iconst (v := 1) C dX4_meets_16 (by decide) ?_
      refine V_goto (tgt := 21) C dX4_meets_17 (by decide) ?_
      cases h
      exact V_zret C B dX4_meets_21 (Or.inr rfl)
/-! X2_make -/
theorem dX2_make_0 : decode cX2_make 0 = .ok (.aload_n 0, 1) := by decide +kernel
theorem dX2_make_1 : decode cX2_make 1 = .ok (.getfield 15, 3) := by decide +kernel
theorem dX2_make_4 : decode cX2_make 4 = .ok (.iconst 1, 1) := by decide +kernel
theorem dX2_make_5 : decode cX2_make 5 = .ok (.isub, 1) := by decide +kernel
theorem dX2_make_6 : decode cX2_make 6 = .ok (.istore_n 3, 1) := by decide +kernel
theorem dX2_make_7 : decode cX2_make 7 = .ok (.iload_n 3, 1) := by decide +kernel
theorem dX2_make_8 : decode cX2_make 8 = .ok (.ifCond .lt 46, 3) := by decide +kernel
theorem dX2_make_11 : decode cX2_make 11 = .ok (.aload_n 0, 1) := by decide +kernel
theorem dX2_make_12 : decode cX2_make 12 = .ok (.getfield 11, 3) := by decide +kernel
theorem dX2_make_15 : decode cX2_make 15 = .ok (.iload_n 3, 1) := by decide +kernel
theorem dX2_make_16 : decode cX2_make 16 = .ok (.aaload, 1) := by decide +kernel
theorem dX2_make_17 : decode cX2_make 17 = .ok (.iload_n 2, 1) := by decide +kernel
theorem dX2_make_18 : decode cX2_make 18 = .ok (.invokevirtual 19, 3) := by decide +kernel
theorem dX2_make_21 : decode cX2_make 21 = .ok (.ifCond .eq 22, 3) := by decide +kernel
theorem dX2_make_24 : decode cX2_make 24 = .ok (.aload_n 0, 1) := by decide +kernel
theorem dX2_make_25 : decode cX2_make 25 = .ok (.getfield 11, 3) := by decide +kernel
theorem dX2_make_28 : decode cX2_make 28 = .ok (.iload_n 3, 1) := by decide +kernel
theorem dX2_make_29 : decode cX2_make 29 = .ok (.aaload, 1) := by decide +kernel
theorem dX2_make_30 : decode cX2_make 30 = .ok (.getfield 23, 3) := by decide +kernel
theorem dX2_make_33 : decode cX2_make 33 = .ok (.aload_n 1, 1) := by decide +kernel
theorem dX2_make_34 : decode cX2_make 34 = .ok (.getfield 23, 3) := by decide +kernel
theorem dX2_make_37 : decode cX2_make 37 = .ok (.invokevirtual 32, 3) := by decide +kernel
theorem dX2_make_40 : decode cX2_make 40 = .ok (.ifCond .eq 8, 3) := by decide +kernel
theorem dX2_make_43 : decode cX2_make 43 = .ok (.aload_n 0, 1) := by decide +kernel
theorem dX2_make_44 : decode cX2_make 44 = .ok (.iload_n 3, 1) := by decide +kernel
theorem dX2_make_45 : decode cX2_make 45 = .ok (.invokevirtual 36, 3) := by decide +kernel
theorem dX2_make_48 : decode cX2_make 48 = .ok (.iinc 3 (-1), 3) := by decide +kernel
theorem dX2_make_51 : decode cX2_make 51 = .ok (.goto (-44), 3) := by decide +kernel
theorem dX2_make_54 : decode cX2_make 54 = .ok (.aload_n 0, 1) := by decide +kernel
theorem dX2_make_55 : decode cX2_make 55 = .ok (.getfield 15, 3) := by decide +kernel
theorem dX2_make_58 : decode cX2_make 58 = .ok (.bipush 6, 2) := by decide +kernel
theorem dX2_make_60 : decode cX2_make 60 = .ok (.if_icmp .lt 8, 3) := by decide +kernel
theorem dX2_make_63 : decode cX2_make 63 = .ok (.aload_n 0, 1) := by decide +kernel
theorem dX2_make_64 : decode cX2_make 64 = .ok (.iconst 0, 1) := by decide +kernel
theorem dX2_make_65 : decode cX2_make 65 = .ok (.invokevirtual 36, 3) := by decide +kernel
theorem dX2_make_68 : decode cX2_make 68 = .ok (.aload_n 0, 1) := by decide +kernel
theorem dX2_make_69 : decode cX2_make 69 = .ok (.getfield 11, 3) := by decide +kernel
theorem dX2_make_72 : decode cX2_make 72 = .ok (.aload_n 0, 1) := by decide +kernel
theorem dX2_make_73 : decode cX2_make 73 = .ok (.getfield 15, 3) := by decide +kernel
theorem dX2_make_76 : decode cX2_make 76 = .ok (.aload_n 1, 1) := by decide +kernel
theorem dX2_make_77 : decode cX2_make 77 = .ok (.aastore, 1) := by decide +kernel
theorem dX2_make_78 : decode cX2_make 78 = .ok (.aload_n 0, 1) := by decide +kernel
theorem dX2_make_79 : decode cX2_make 79 = .ok (.dup, 1) := by decide +kernel
theorem dX2_make_80 : decode cX2_make 80 = .ok (.getfield 15, 3) := by decide +kernel
theorem dX2_make_83 : decode cX2_make 83 = .ok (.iconst 1, 1) := by decide +kernel
theorem dX2_make_84 : decode cX2_make 84 = .ok (.iadd, 1) := by decide +kernel
theorem dX2_make_85 : decode cX2_make 85 = .ok (.putfield 15, 3) := by decide +kernel
theorem dX2_make_88 : decode cX2_make 88 = .ok (.return_, 1) := by decide +kernel
def j_X2_make_68 (σ : HS) (l0 : Option Nat) (l1 : Option Nat) : Option (Unit × HS) :=
  h_b1 (h_gR σ l0 3 0) fun x7 =>
  h_b1 (h_gI σ l0 3 1) fun x9 =>
  h_b1 (h_sR σ x7 104 2 x9 l1) fun s11 =>
  h_b1 (h_gI s11 l0 3 1) fun x13 =>
  h_b1 (h_pI s11 l0 3 1 (x13 + 1)) fun s15 =>
  some ((), s15)
def g_X2_make_7 : Nat → HS → Option Nat → Option Nat → Int32 → Int32 → Option (Unit × HS)
  | 0, _, _, _, _, _ => none
  | n + 1, σ, l0, l1, l2, l3 =>
    if l3 < 0 then
      h_b1 (h_gI σ l0 3 1) fun x4 =>
      if x4 < 6 then
        j_X2_make_68 σ l0 l1 
      else
        h_b1 (h_rcv σ l0 3) fun y20 =>
        h_bd (f_X2_remove σ l0 0) fun _ s18 =>
        j_X2_make_68 s18 l0 l1 
    else
      h_b1 (h_gR σ l0 3 0) fun x22 =>
      h_b1 (h_aR σ x22 104 l3) fun x24 =>
      h_b1 (h_rcv σ x24 2) fun y29 =>
      h_bd (f_X1_isThere σ x24 l2) fun r26 s27 =>
      if r26 = 0 then
        h_b1 (h_rcv s27 l0 3) fun y35 =>
        h_bd (f_X2_remove s27 l0 l3) fun _ s33 =>
        g_X2_make_7 n s33 l0 l1 l2 (l3 + (-1))
      else
        h_b1 (h_gR s27 l0 3 0) fun x37 =>
        h_b1 (h_aR s27 x37 104 l3) fun x39 =>
        h_b1 (h_gR s27 x39 2 0) fun x41 =>
        h_b1 (h_gR s27 l1 2 0) fun x43 =>
        h_b1 (h_rcv s27 x41 5) fun y48 =>
        h_bd (f_X4_meets s27 x41 x43) fun r45 s46 =>
        if r45 = 0 then
          g_X2_make_7 n s46 l0 l1 l2 (l3 + (-1))
        else
          h_b1 (h_rcv s46 l0 3) fun y54 =>
          h_bd (f_X2_remove s46 l0 l3) fun _ s52 =>
          g_X2_make_7 n s52 l0 l1 l2 (l3 + (-1))
def f_X2_make (σ : HS) (a0 : Option Nat) (a1 : Option Nat) (a2 : Int32) : Option (Unit × HS) :=
  h_b1 (h_gI σ a0 3 1) fun x1 =>
  g_X2_make_7 h_hN σ a0 a1 a2 (x1 - 1)
set_option maxHeartbeats 4000000 in
set_option maxRecDepth 100000 in
theorem jw_X2_make_68 {p : Program} {l : Launch} {e : Env} {R : Room} {s : State} {m : MethodId} {args : Array Value} {below : List Frame} {meth : Method} {c : Code} {D : va_G} {dA : Nat → ClassId} {bs : Nat} (C : h_C p m c cX2_make 4 s args RX2 D dA) {σ0 : HS} (B : h_B R s meth σ0 none 3 62) {σ' : HS} : ∀ (σ : HS) (l0 : Option Nat) (l1 : Option Nat), j_X2_make_68 σ l0 l1 = some ((), σ') → V p l e R s m args below meth c D dA bs 4 (MQ below (h_Q D dA bs none σ0 σ') args s R.cells R.slots (fun q => bs ≤ q)) σ 68 [(0, va_rf l0), (1, va_rf l1)] [] := by
  intro σ l0 l1 h
  unfold j_X2_make_68 at h
  refine V_aload_n C 0 dX2_make_68 rfl rfl ?_
  obtain ⟨x7, e8, h⟩ := h_b1_some h
  refine V_getR C fl_RX2_11 dX2_make_69 e8 ?_
  refine V_aload_n C 0 dX2_make_72 rfl rfl ?_
  obtain ⟨x9, e10, h⟩ := h_b1_some h
  refine V_getI C fl_RX2_15 dX2_make_73 e10 ?_
  refine V_aload_n C 1 dX2_make_76 rfl rfl ?_
  obtain ⟨s11, e12, h⟩ := h_b1_some h
  refine V_aast C h_at104 dX2_make_77 e12 ?_
  refine V_aload_n C 0 dX2_make_78 rfl rfl ?_
  refine V_dupR C dX2_make_79 ?_
  obtain ⟨x13, e14, h⟩ := h_b1_some h
  refine V_getI C fl_RX2_15 dX2_make_80 e14 ?_
  refine V_iconst (v := 1) C dX2_make_83 (by decide) ?_
  refine V_iadd C dX2_make_84 ?_
  obtain ⟨s15, e16, h⟩ := h_b1_some h
  refine V_putI C fw_RX2_15 dX2_make_85 e16 ?_
  cases h
  exact V_vret C B dX2_make_88
set_option maxHeartbeats 4000000 in
set_option maxRecDepth 100000 in
theorem w_X2_make_7 {p : Program} {l : Launch} {e : Env} {R : Room} {s : State} {m : MethodId} {args : Array Value} {below : List Frame} {meth : Method} {c : Code} {D : va_G} {dA : Nat → ClassId} {bs : Nat} (C : h_C p m c cX2_make 4 s args RX2 D dA) {σ0 : HS} (B : h_B R s meth σ0 none 3 62) {σ' : HS} : ∀ (n : Nat) (σ : HS) (l0 : Option Nat) (l1 : Option Nat) (l2 : Int32) (l3 : Int32), g_X2_make_7 n σ l0 l1 l2 l3 = some ((), σ') → V p l e R s m args below meth c D dA bs 4 (MQ below (h_Q D dA bs none σ0 σ') args s R.cells R.slots (fun q => bs ≤ q)) σ 7 [(0, va_rf l0), (1, va_rf l1), (2, .int l2), (3, .int l3)] [] := by
  intro n
  induction n with
  | zero =>
    intro σ l0 l1 l2 l3 h
    rw [g_X2_make_7] at h
    cases h
  | succ n ih =>
    intro σ l0 l1 l2 l3 h
    rw [g_X2_make_7] at h
    refine V_iload_n C 3 dX2_make_7 rfl rfl ?_
    refine V_if_lt (tgt := 54) C dX2_make_8 (by decide) (fun c3 => ?_) (fun c3 => ?_)
    · rw [if_pos c3] at h
      refine V_aload_n C 0 dX2_make_54 rfl rfl ?_
      obtain ⟨x4, e5, h⟩ := h_b1_some h
      refine V_getI C fl_RX2_15 dX2_make_55 e5 ?_
      refine V_bipush (v := 6) C dX2_make_58 (by decide) ?_
      refine V_icmp_lt (tgt := 68) C dX2_make_60 (by decide) (fun c6 => ?_) (fun c6 => ?_)
      · rw [if_pos c6] at h
        exact V_sub [0, 1] rfl (jw_X2_make_68 C B σ l0 l1  h)
      · rw [if_neg c6] at h
        refine V_aload_n C 0 dX2_make_63 rfl rfl ?_
        refine V_iconst (v := 0) C dX2_make_64 (by decide) ?_
        obtain ⟨y20, e21, h⟩ := h_b1_some h
        obtain ⟨r17, s18, e19, h⟩ := h_bd_some h
        refine V_cV (As := [.int 0]) (rest := []) C mv_RX2_36 (m_X2_remove l D dA bs e19) e21 rfl rfl (Nat.le_trans h_w0 (by decide)) (h_fr B (by decide)) (h_lo B (by decide)) dX2_make_65 ?_
        exact V_sub [0, 1] rfl (jw_X2_make_68 C B s18 l0 l1  h)
    · rw [if_neg c3] at h
      refine V_aload_n C 0 dX2_make_11 rfl rfl ?_
      obtain ⟨x22, e23, h⟩ := h_b1_some h
      refine V_getR C fl_RX2_11 dX2_make_12 e23 ?_
      refine V_iload_n C 3 dX2_make_15 rfl rfl ?_
      obtain ⟨x24, e25, h⟩ := h_b1_some h
      refine V_aald C h_at104 dX2_make_16 e25 ?_
      refine V_iload_n C 2 dX2_make_17 rfl rfl ?_
      obtain ⟨y29, e30, h⟩ := h_b1_some h
      obtain ⟨r26, s27, e28, h⟩ := h_bd_some h
      refine V_cV (As := [.int l2]) (rest := []) C mv_RX2_19 (m_X1_isThere l D dA bs e28) e30 rfl rfl (Nat.le_trans h_w0 (by decide)) (h_fr B (by decide)) (h_lo B (by decide)) dX2_make_18 ?_
      refine V_if_eq (tgt := 43) C dX2_make_21 (by decide) (fun c31 => ?_) (fun c31 => ?_)
      · rw [if_pos c31] at h
        refine V_aload_n C 0 dX2_make_43 rfl rfl ?_
        refine V_iload_n C 3 dX2_make_44 rfl rfl ?_
        obtain ⟨y35, e36, h⟩ := h_b1_some h
        obtain ⟨r32, s33, e34, h⟩ := h_bd_some h
        refine V_cV (As := [.int l3]) (rest := []) C mv_RX2_36 (m_X2_remove l D dA bs e34) e36 rfl rfl (Nat.le_trans h_w0 (by decide)) (h_fr B (by decide)) (h_lo B (by decide)) dX2_make_45 ?_
        refine V_iinc (v := (l3 + (-1))) (lv' := [(3, .int (l3 + (-1))), (0, va_rf l0), (1, va_rf l1), (2, .int l2)]) C 3 dX2_make_48 rfl rfl (by decide) rfl ?_
        refine V_goto (tgt := 7) C dX2_make_51 (by decide) ?_
        exact V_sub [1, 2, 3, 0] rfl (ih s33 l0 l1 l2 (l3 + (-1)) h)
      · rw [if_neg c31] at h
        refine V_aload_n C 0 dX2_make_24 rfl rfl ?_
        obtain ⟨x37, e38, h⟩ := h_b1_some h
        refine V_getR C fl_RX2_11 dX2_make_25 e38 ?_
        refine V_iload_n C 3 dX2_make_28 rfl rfl ?_
        obtain ⟨x39, e40, h⟩ := h_b1_some h
        refine V_aald C h_at104 dX2_make_29 e40 ?_
        obtain ⟨x41, e42, h⟩ := h_b1_some h
        refine V_getR C fl_RX2_23 dX2_make_30 e42 ?_
        refine V_aload_n C 1 dX2_make_33 rfl rfl ?_
        obtain ⟨x43, e44, h⟩ := h_b1_some h
        refine V_getR C fl_RX2_23 dX2_make_34 e44 ?_
        obtain ⟨y48, e49, h⟩ := h_b1_some h
        obtain ⟨r45, s46, e47, h⟩ := h_bd_some h
        refine V_cV (As := [va_rf x43]) (rest := []) C mv_RX2_32 (m_X4_meets l D dA bs e47) e49 rfl rfl (Nat.le_trans h_w0 (by decide)) (h_fr B (by decide)) (h_lo B (by decide)) dX2_make_37 ?_
        refine V_if_eq (tgt := 48) C dX2_make_40 (by decide) (fun c50 => ?_) (fun c50 => ?_)
        · rw [if_pos c50] at h
          refine V_iinc (v := (l3 + (-1))) (lv' := [(3, .int (l3 + (-1))), (0, va_rf l0), (1, va_rf l1), (2, .int l2)]) C 3 dX2_make_48 rfl rfl (by decide) rfl ?_
          refine V_goto (tgt := 7) C dX2_make_51 (by decide) ?_
          exact V_sub [1, 2, 3, 0] rfl (ih s46 l0 l1 l2 (l3 + (-1)) h)
        · rw [if_neg c50] at h
          refine V_aload_n C 0 dX2_make_43 rfl rfl ?_
          refine V_iload_n C 3 dX2_make_44 rfl rfl ?_
          obtain ⟨y54, e55, h⟩ := h_b1_some h
          obtain ⟨r51, s52, e53, h⟩ := h_bd_some h
          refine V_cV (As := [.int l3]) (rest := []) C mv_RX2_36 (m_X2_remove l D dA bs e53) e55 rfl rfl (Nat.le_trans h_w0 (by decide)) (h_fr B (by decide)) (h_lo B (by decide)) dX2_make_45 ?_
          refine V_iinc (v := (l3 + (-1))) (lv' := [(3, .int (l3 + (-1))), (0, va_rf l0), (1, va_rf l1), (2, .int l2)]) C 3 dX2_make_48 rfl rfl (by decide) rfl ?_
          refine V_goto (tgt := 7) C dX2_make_51 (by decide) ?_
          exact V_sub [1, 2, 3, 0] rfl (ih s52 l0 l1 l2 (l3 + (-1)) h)
set_option maxHeartbeats 4000000 in
set_option maxRecDepth 100000 in
theorem m_X2_make (l : Launch) (D : va_G) (dA : Nat → ClassId) (bs : Nat) {σ σ' : HS} {a0 : Option Nat} {a1 : Option Nat} {a2 : Int32} (h : f_X2_make σ a0 a1 a2 = some ((), σ')) : MetC l yX2_make cX2_make 4 none 3 62 D dA bs [va_rf a0, va_rf a1, .int a2] none σ σ' := by
  refine MetC.of (by decide) (h_avR (h_avR (h_avI h_av0))) (Nat.le_of_ble_eq_true rfl) ?_
  intro p e R s m args below meth c C B hnm
  unfold f_X2_make at h
  refine V_sub (lv' := [(0, va_rf a0), (1, va_rf a1), (2, .int a2)]) [0, 1, 2] rfl ?_
  refine V_aload_n C 0 dX2_make_0 rfl rfl ?_
  obtain ⟨x1, e2, h⟩ := h_b1_some h
  refine V_getI C fl_RX2_15 dX2_make_1 e2 ?_
  refine V_iconst (v := 1) C dX2_make_4 (by decide) ?_
  refine V_isub C dX2_make_5 ?_
  refine V_istore_n (lv' := [(3, .int (x1 - 1)), (0, va_rf a0), (1, va_rf a1), (2, .int a2)]) C dX2_make_6 rfl (by decide) rfl ?_
  exact V_sub [1, 2, 3, 0] rfl (w_X2_make_7 C B h_hN σ a0 a1 a2 (x1 - 1) h)
/-! X2_lose -/
theorem dX2_lose_0 : decode cX2_lose 0 = .ok (.aload_n 0, 1) := by decide +kernel
theorem dX2_lose_1 : decode cX2_lose 1 = .ok (.getfield 15, 3) := by decide +kernel
theorem dX2_lose_4 : decode cX2_lose 4 = .ok (.iconst 1, 1) := by decide +kernel
theorem dX2_lose_5 : decode cX2_lose 5 = .ok (.isub, 1) := by decide +kernel
theorem dX2_lose_6 : decode cX2_lose 6 = .ok (.istore 4, 2) := by decide +kernel
theorem dX2_lose_8 : decode cX2_lose 8 = .ok (.iload 4, 2) := by decide +kernel
theorem dX2_lose_10 : decode cX2_lose 10 = .ok (.ifCond .lt 60, 3) := by decide +kernel
theorem dX2_lose_13 : decode cX2_lose 13 = .ok (.aload_n 0, 1) := by decide +kernel
theorem dX2_lose_14 : decode cX2_lose 14 = .ok (.getfield 11, 3) := by decide +kernel
theorem dX2_lose_17 : decode cX2_lose 17 = .ok (.iload 4, 2) := by decide +kernel
theorem dX2_lose_19 : decode cX2_lose 19 = .ok (.aaload, 1) := by decide +kernel
theorem dX2_lose_20 : decode cX2_lose 20 = .ok (.iload_n 3, 1) := by decide +kernel
theorem dX2_lose_21 : decode cX2_lose 21 = .ok (.invokevirtual 19, 3) := by decide +kernel
theorem dX2_lose_24 : decode cX2_lose 24 = .ok (.ifCond .eq 34, 3) := by decide +kernel
theorem dX2_lose_27 : decode cX2_lose 27 = .ok (.aload_n 0, 1) := by decide +kernel
theorem dX2_lose_28 : decode cX2_lose 28 = .ok (.getfield 11, 3) := by decide +kernel
theorem dX2_lose_31 : decode cX2_lose 31 = .ok (.iload 4, 2) := by decide +kernel
theorem dX2_lose_33 : decode cX2_lose 33 = .ok (.aaload, 1) := by decide +kernel
theorem dX2_lose_34 : decode cX2_lose 34 = .ok (.getfield 23, 3) := by decide +kernel
theorem dX2_lose_37 : decode cX2_lose 37 = .ok (.iload_n 1, 1) := by decide +kernel
theorem dX2_lose_38 : decode cX2_lose 38 = .ok (.invokevirtual 27, 3) := by decide +kernel
theorem dX2_lose_41 : decode cX2_lose 41 = .ok (.ifCond .eq 23, 3) := by decide +kernel
theorem dX2_lose_44 : decode cX2_lose 44 = .ok (.aload_n 0, 1) := by decide +kernel
theorem dX2_lose_45 : decode cX2_lose 45 = .ok (.getfield 11, 3) := by decide +kernel
theorem dX2_lose_48 : decode cX2_lose 48 = .ok (.iload 4, 2) := by decide +kernel
theorem dX2_lose_50 : decode cX2_lose 50 = .ok (.aaload, 1) := by decide +kernel
theorem dX2_lose_51 : decode cX2_lose 51 = .ok (.getfield 40, 3) := by decide +kernel
theorem dX2_lose_54 : decode cX2_lose 54 = .ok (.iload_n 2, 1) := by decide +kernel
theorem dX2_lose_55 : decode cX2_lose 55 = .ok (.if_icmp .ne 9, 3) := by decide +kernel
theorem dX2_lose_58 : decode cX2_lose 58 = .ok (.aload_n 0, 1) := by decide +kernel
theorem dX2_lose_59 : decode cX2_lose 59 = .ok (.iload 4, 2) := by decide +kernel
theorem dX2_lose_61 : decode cX2_lose 61 = .ok (.invokevirtual 36, 3) := by decide +kernel
theorem dX2_lose_64 : decode cX2_lose 64 = .ok (.iinc 4 (-1), 3) := by decide +kernel
theorem dX2_lose_67 : decode cX2_lose 67 = .ok (.goto (-59), 3) := by decide +kernel
theorem dX2_lose_70 : decode cX2_lose 70 = .ok (.return_, 1) := by decide +kernel
def g_X2_lose_8 : Nat → HS → Option Nat → Int32 → Int32 → Int32 → Int32 → Option (Unit × HS)
  | 0, _, _, _, _, _, _ => none
  | n + 1, σ, l0, l1, l2, l3, l4 =>
    if l4 < 0 then
      some ((), σ)
    else
      h_b1 (h_gR σ l0 3 0) fun x4 =>
      h_b1 (h_aR σ x4 104 l4) fun x6 =>
      h_b1 (h_rcv σ x6 2) fun y11 =>
      h_bd (f_X1_isThere σ x6 l3) fun r8 s9 =>
      if r8 = 0 then
        h_b1 (h_rcv s9 l0 3) fun y17 =>
        h_bd (f_X2_remove s9 l0 l4) fun _ s15 =>
        g_X2_lose_8 n s15 l0 l1 l2 l3 (l4 + (-1))
      else
        h_b1 (h_gR s9 l0 3 0) fun x19 =>
        h_b1 (h_aR s9 x19 104 l4) fun x21 =>
        h_b1 (h_gR s9 x21 2 0) fun x23 =>
        h_b1 (h_rcv s9 x23 5) fun y28 =>
        h_bd (f_X4_has s9 x23 l1) fun r25 s26 =>
        if r25 = 0 then
          g_X2_lose_8 n s26 l0 l1 l2 l3 (l4 + (-1))
        else
          h_b1 (h_gR s26 l0 3 0) fun x31 =>
          h_b1 (h_aR s26 x31 104 l4) fun x33 =>
          h_b1 (h_gI s26 x33 2 1) fun x35 =>
          if x35 = l2 then
            h_b1 (h_rcv s26 l0 3) fun y41 =>
            h_bd (f_X2_remove s26 l0 l4) fun _ s39 =>
            g_X2_lose_8 n s39 l0 l1 l2 l3 (l4 + (-1))
          else
            g_X2_lose_8 n s26 l0 l1 l2 l3 (l4 + (-1))
def f_X2_lose (σ : HS) (a0 : Option Nat) (a1 : Int32) (a2 : Int32) (a3 : Int32) : Option (Unit × HS) :=
  h_b1 (h_gI σ a0 3 1) fun x1 =>
  g_X2_lose_8 h_hN σ a0 a1 a2 a3 (x1 - 1)
set_option maxHeartbeats 4000000 in
set_option maxRecDepth 100000 in
theorem w_X2_lose_8 {p : Program} {l : Launch} {e : Env} {R : Room} {s : State} {m : MethodId} {args : Array Value} {below : List Frame} {meth : Method} {c : Code} {D : va_G} {dA : Nat → ClassId} {bs : Nat} (C : h_C p m c cX2_lose 5 s args RX2 D dA) {σ0 : HS} (B : h_B R s meth σ0 none 2 41) {σ' : HS} : ∀ (n : Nat) (σ : HS) (l0 : Option Nat) (l1 : Int32) (l2 : Int32) (l3 : Int32) (l4 : Int32), g_X2_lose_8 n σ l0 l1 l2 l3 l4 = some ((), σ') → V p l e R s m args below meth c D dA bs 5 (MQ below (h_Q D dA bs none σ0 σ') args s R.cells R.slots (fun q => bs ≤ q)) σ 8 [(0, va_rf l0), (1, .int l1), (2, .int l2), (3, .int l3), (4, .int l4)] [] := by
  intro n
  induction n with
  | zero =>
    intro σ l0 l1 l2 l3 l4 h
    rw [g_X2_lose_8] at h
    cases h
  | succ n ih =>
    intro σ l0 l1 l2 l3 l4 h
    rw [g_X2_lose_8] at h
    refine V_iload C 4 dX2_lose_8 rfl ?_
    refine V_if_lt (tgt := 70) C dX2_lose_10 (by decide) (fun c3 => ?_) (fun c3 => ?_)
    · rw [if_pos c3] at h
      cases h
      exact V_vret C B dX2_lose_70
    · rw [if_neg c3] at h
      refine V_aload_n C 0 dX2_lose_13 rfl rfl ?_
      obtain ⟨x4, e5, h⟩ := h_b1_some h
      refine V_getR C fl_RX2_11 dX2_lose_14 e5 ?_
      refine V_iload C 4 dX2_lose_17 rfl ?_
      obtain ⟨x6, e7, h⟩ := h_b1_some h
      refine V_aald C h_at104 dX2_lose_19 e7 ?_
      refine V_iload_n C 3 dX2_lose_20 rfl rfl ?_
      obtain ⟨y11, e12, h⟩ := h_b1_some h
      obtain ⟨r8, s9, e10, h⟩ := h_bd_some h
      refine V_cV (As := [.int l3]) (rest := []) C mv_RX2_19 (m_X1_isThere l D dA bs e10) e12 rfl rfl (Nat.le_trans h_w0 (by decide)) (h_fr B (by decide)) (h_lo B (by decide)) dX2_lose_21 ?_
      refine V_if_eq (tgt := 58) C dX2_lose_24 (by decide) (fun c13 => ?_) (fun c13 => ?_)
      · rw [if_pos c13] at h
        refine V_aload_n C 0 dX2_lose_58 rfl rfl ?_
        refine V_iload C 4 dX2_lose_59 rfl ?_
        obtain ⟨y17, e18, h⟩ := h_b1_some h
        obtain ⟨r14, s15, e16, h⟩ := h_bd_some h
        refine V_cV (As := [.int l4]) (rest := []) C mv_RX2_36 (m_X2_remove l D dA bs e16) e18 rfl rfl (Nat.le_trans h_w0 (by decide)) (h_fr B (by decide)) (h_lo B (by decide)) dX2_lose_61 ?_
        refine V_iinc (v := (l4 + (-1))) (lv' := [(4, .int (l4 + (-1))), (0, va_rf l0), (1, .int l1), (2, .int l2), (3, .int l3)]) C 4 dX2_lose_64 rfl rfl (by decide) rfl ?_
        refine V_goto (tgt := 8) C dX2_lose_67 (by decide) ?_
        exact V_sub [1, 2, 3, 4, 0] rfl (ih s15 l0 l1 l2 l3 (l4 + (-1)) h)
      · rw [if_neg c13] at h
        refine V_aload_n C 0 dX2_lose_27 rfl rfl ?_
        obtain ⟨x19, e20, h⟩ := h_b1_some h
        refine V_getR C fl_RX2_11 dX2_lose_28 e20 ?_
        refine V_iload C 4 dX2_lose_31 rfl ?_
        obtain ⟨x21, e22, h⟩ := h_b1_some h
        refine V_aald C h_at104 dX2_lose_33 e22 ?_
        obtain ⟨x23, e24, h⟩ := h_b1_some h
        refine V_getR C fl_RX2_23 dX2_lose_34 e24 ?_
        refine V_iload_n C 1 dX2_lose_37 rfl rfl ?_
        obtain ⟨y28, e29, h⟩ := h_b1_some h
        obtain ⟨r25, s26, e27, h⟩ := h_bd_some h
        refine V_cV (As := [.int l1]) (rest := []) C mv_RX2_27 (m_X4_has l D dA bs e27) e29 rfl rfl (Nat.le_trans h_w0 (by decide)) (h_fr B (by decide)) (h_lo B (by decide)) dX2_lose_38 ?_
        refine V_if_eq (tgt := 64) C dX2_lose_41 (by decide) (fun c30 => ?_) (fun c30 => ?_)
        · rw [if_pos c30] at h
          refine V_iinc (v := (l4 + (-1))) (lv' := [(4, .int (l4 + (-1))), (0, va_rf l0), (1, .int l1), (2, .int l2), (3, .int l3)]) C 4 dX2_lose_64 rfl rfl (by decide) rfl ?_
          refine V_goto (tgt := 8) C dX2_lose_67 (by decide) ?_
          exact V_sub [1, 2, 3, 4, 0] rfl (ih s26 l0 l1 l2 l3 (l4 + (-1)) h)
        · rw [if_neg c30] at h
          refine V_aload_n C 0 dX2_lose_44 rfl rfl ?_
          obtain ⟨x31, e32, h⟩ := h_b1_some h
          refine V_getR C fl_RX2_11 dX2_lose_45 e32 ?_
          refine V_iload C 4 dX2_lose_48 rfl ?_
          obtain ⟨x33, e34, h⟩ := h_b1_some h
          refine V_aald C h_at104 dX2_lose_50 e34 ?_
          obtain ⟨x35, e36, h⟩ := h_b1_some h
          refine V_getI C fl_RX2_40 dX2_lose_51 e36 ?_
          refine V_iload_n C 2 dX2_lose_54 rfl rfl ?_
          refine V_icmp_ne (tgt := 64) C dX2_lose_55 (by decide) (fun c37 => ?_) (fun c37 => ?_)
          · rw [if_neg c37] at h
            refine V_iinc (v := (l4 + (-1))) (lv' := [(4, .int (l4 + (-1))), (0, va_rf l0), (1, .int l1), (2, .int l2), (3, .int l3)]) C 4 dX2_lose_64 rfl rfl (by decide) rfl ?_
            refine V_goto (tgt := 8) C dX2_lose_67 (by decide) ?_
            exact V_sub [1, 2, 3, 4, 0] rfl (ih s26 l0 l1 l2 l3 (l4 + (-1)) h)
          · rw [if_pos c37] at h
            refine V_aload_n C 0 dX2_lose_58 rfl rfl ?_
            refine V_iload C 4 dX2_lose_59 rfl ?_
            obtain ⟨y41, e42, h⟩ := h_b1_some h
            obtain ⟨r38, s39, e40, h⟩ := h_bd_some h
            refine V_cV (As := [.int l4]) (rest := []) C mv_RX2_36 (m_X2_remove l D dA bs e40) e42 rfl rfl (Nat.le_trans h_w0 (by decide)) (h_fr B (by decide)) (h_lo B (by decide)) dX2_lose_61 ?_
            refine V_iinc (v := (l4 + (-1))) (lv' := [(4, .int (l4 + (-1))), (0, va_rf l0), (1, .int l1), (2, .int l2), (3, .int l3)]) C 4 dX2_lose_64 rfl rfl (by decide) rfl ?_
            refine V_goto (tgt := 8) C dX2_lose_67 (by decide) ?_
            exact V_sub [1, 2, 3, 4, 0] rfl (ih s39 l0 l1 l2 l3 (l4 + (-1)) h)
set_option maxHeartbeats 4000000 in
set_option maxRecDepth 100000 in
theorem m_X2_lose (l : Launch) (D : va_G) (dA : Nat → ClassId) (bs : Nat) {σ σ' : HS} {a0 : Option Nat} {a1 : Int32} {a2 : Int32} {a3 : Int32} (h : f_X2_lose σ a0 a1 a2 a3 = some ((), σ')) : MetC l yX2_lose cX2_lose 5 none 2 41 D dA bs [va_rf a0, .int a1, .int a2, .int a3] none σ σ' := by
  refine MetC.of (by decide) (h_avR (h_avI (h_avI (h_avI h_av0)))) (Nat.le_of_ble_eq_true rfl) ?_
  intro p e R s m args below meth c C B hnm
  unfold f_X2_lose at h
  refine V_sub (lv' := [(0, va_rf a0), (1, .int a1), (2, .int a2), (3, .int a3)]) [0, 1, 2, 3] rfl ?_
  refine V_aload_n C 0 dX2_lose_0 rfl rfl ?_
  obtain ⟨x1, e2, h⟩ := h_b1_some h
  refine V_getI C fl_RX2_15 dX2_lose_1 e2 ?_
  refine V_iconst (v := 1) C dX2_lose_4 (by decide) ?_
  refine V_isub C dX2_lose_5 ?_
  refine V_istore (lv' := [(4, .int (x1 - 1)), (0, va_rf a0), (1, .int a1), (2, .int a2), (3, .int a3)]) C dX2_lose_6 (by decide) rfl ?_
  exact V_sub [1, 2, 3, 4, 0] rfl (w_X2_lose_8 C B h_hN σ a0 a1 a2 a3 (x1 - 1) h)
/-! X2_countThere -/
theorem dX2_countThere_0 : decode cX2_countThere 0 = .ok (.iconst 0, 1) := by decide +kernel
theorem dX2_countThere_1 : decode cX2_countThere 1 = .ok (.istore_n 2, 1) := by decide +kernel
theorem dX2_countThere_2 : decode cX2_countThere 2 = .ok (.iconst 0, 1) := by decide +kernel
theorem dX2_countThere_3 : decode cX2_countThere 3 = .ok (.istore_n 3, 1) := by decide +kernel
theorem dX2_countThere_4 : decode cX2_countThere 4 = .ok (.iload_n 3, 1) := by decide +kernel
theorem dX2_countThere_5 : decode cX2_countThere 5 = .ok (.aload_n 0, 1) := by decide +kernel
theorem dX2_countThere_6 : decode cX2_countThere 6 = .ok (.getfield 15, 3) := by decide +kernel
theorem dX2_countThere_9 : decode cX2_countThere 9 = .ok (.if_icmp .ge 25, 3) := by decide +kernel
theorem dX2_countThere_12 : decode cX2_countThere 12 = .ok (.aload_n 0, 1) := by decide +kernel
theorem dX2_countThere_13 : decode cX2_countThere 13 = .ok (.getfield 11, 3) := by decide +kernel
theorem dX2_countThere_16 : decode cX2_countThere 16 = .ok (.iload_n 3, 1) := by decide +kernel
theorem dX2_countThere_17 : decode cX2_countThere 17 = .ok (.aaload, 1) := by decide +kernel
theorem dX2_countThere_18 : decode cX2_countThere 18 = .ok (.iload_n 1, 1) := by decide +kernel
theorem dX2_countThere_19 : decode cX2_countThere 19 = .ok (.invokevirtual 19, 3) := by decide +kernel
theorem dX2_countThere_22 : decode cX2_countThere 22 = .ok (.ifCond .eq 6, 3) := by decide +kernel
theorem dX2_countThere_25 : decode cX2_countThere 25 = .ok (.iinc 2 1, 3) := by decide +kernel
theorem dX2_countThere_28 : decode cX2_countThere 28 = .ok (.iinc 3 1, 3) := by decide +kernel
theorem dX2_countThere_31 : decode cX2_countThere 31 = .ok (.goto (-27), 3) := by decide +kernel
theorem dX2_countThere_34 : decode cX2_countThere 34 = .ok (.iload_n 2, 1) := by decide +kernel
theorem dX2_countThere_35 : decode cX2_countThere 35 = .ok (.ireturn, 1) := by decide +kernel
def g_X2_countThere_4 : Nat → HS → Option Nat → Int32 → Int32 → Int32 → Option (Int32 × HS)
  | 0, _, _, _, _, _ => none
  | n + 1, σ, l0, l1, l2, l3 =>
    h_b1 (h_gI σ l0 3 1) fun x1 =>
    if x1 ≤ l3 then
      some (l2, σ)
    else
      h_b1 (h_gR σ l0 3 0) fun x4 =>
      h_b1 (h_aR σ x4 104 l3) fun x6 =>
      h_b1 (h_rcv σ x6 2) fun y11 =>
      h_bd (f_X1_isThere σ x6 l1) fun r8 s9 =>
      if r8 = 0 then
        g_X2_countThere_4 n s9 l0 l1 l2 (l3 + 1)
      else
        g_X2_countThere_4 n s9 l0 l1 (l2 + 1) (l3 + 1)
def f_X2_countThere (σ : HS) (a0 : Option Nat) (a1 : Int32) : Option (Int32 × HS) :=
  g_X2_countThere_4 h_hN σ a0 a1 0 0
set_option maxHeartbeats 4000000 in
set_option maxRecDepth 100000 in
theorem w_X2_countThere_4 {p : Program} {l : Launch} {e : Env} {R : Room} {s : State} {m : MethodId} {args : Array Value} {below : List Frame} {meth : Method} {c : Code} {D : va_G} {dA : Nat → ClassId} {bs : Nat} (C : h_C p m c cX2_countThere 4 s args RX2 D dA) {σ0 : HS} (B : h_B R s meth σ0 (some .int) 1 21) {σ' : HS} {r : Int32} : ∀ (n : Nat) (σ : HS) (l0 : Option Nat) (l1 : Int32) (l2 : Int32) (l3 : Int32), g_X2_countThere_4 n σ l0 l1 l2 l3 = some (r, σ') → V p l e R s m args below meth c D dA bs 4 (MQ below (h_Q D dA bs (some (.int r)) σ0 σ') args s R.cells R.slots (fun q => bs ≤ q)) σ 4 [(0, va_rf l0), (1, .int l1), (2, .int l2), (3, .int l3)] [] := by
  intro n
  induction n with
  | zero =>
    intro σ l0 l1 l2 l3 h
    rw [g_X2_countThere_4] at h
    cases h
  | succ n ih =>
    intro σ l0 l1 l2 l3 h
    rw [g_X2_countThere_4] at h
    refine V_iload_n C 3 dX2_countThere_4 rfl rfl ?_
    refine V_aload_n C 0 dX2_countThere_5 rfl rfl ?_
    obtain ⟨x1, e2, h⟩ := h_b1_some h
    refine V_getI C fl_RX2_15 dX2_countThere_6 e2 ?_
    refine V_icmp_ge (tgt := 34) C dX2_countThere_9 (by decide) (fun c3 => ?_) (fun c3 => ?_)
    · rw [if_pos c3] at h
      refine V_iload_n C 2 dX2_countThere_34 rfl rfl ?_
      cases h
      exact V_iret C B dX2_countThere_35
    · rw [if_neg c3] at h
      refine V_aload_n C 0 dX2_countThere_12 rfl rfl ?_
      obtain ⟨x4, e5, h⟩ := h_b1_some h
      refine V_getR C fl_RX2_11 dX2_countThere_13 e5 ?_
      refine V_iload_n C 3 dX2_countThere_16 rfl rfl ?_
      obtain ⟨x6, e7, h⟩ := h_b1_some h
      refine V_aald C h_at104 dX2_countThere_17 e7 ?_
      refine V_iload_n C 1 dX2_countThere_18 rfl rfl ?_
      obtain ⟨y11, e12, h⟩ := h_b1_some h
      obtain ⟨r8, s9, e10, h⟩ := h_bd_some h
      refine V_cV (As := [.int l1]) (rest := []) C mv_RX2_19 (m_X1_isThere l D dA bs e10) e12 rfl rfl (Nat.le_trans h_w0 (by decide)) (h_fr B (by decide)) (h_lo B (by decide)) dX2_countThere_19 ?_
      refine V_if_eq (tgt := 28) C dX2_countThere_22 (by decide) (fun c13 => ?_) (fun c13 => ?_)
      · rw [if_pos c13] at h
        refine V_iinc (v := (l3 + 1)) (lv' := [(3, .int (l3 + 1)), (0, va_rf l0), (1, .int l1), (2, .int l2)]) C 3 dX2_countThere_28 rfl rfl (by decide) rfl ?_
        refine V_goto (tgt := 4) C dX2_countThere_31 (by decide) ?_
        exact V_sub [1, 2, 3, 0] rfl (ih s9 l0 l1 l2 (l3 + 1) h)
      · rw [if_neg c13] at h
        refine V_iinc (v := (l2 + 1)) (lv' := [(2, .int (l2 + 1)), (0, va_rf l0), (1, .int l1), (3, .int l3)]) C 2 dX2_countThere_25 rfl rfl (by decide) rfl ?_
        refine V_iinc (v := (l3 + 1)) (lv' := [(3, .int (l3 + 1)), (2, .int (l2 + 1)), (0, va_rf l0), (1, .int l1)]) C 3 dX2_countThere_28 rfl rfl (by decide) rfl ?_
        refine V_goto (tgt := 4) C dX2_countThere_31 (by decide) ?_
        exact V_sub [2, 3, 1, 0] rfl (ih s9 l0 l1 (l2 + 1) (l3 + 1) h)
set_option maxHeartbeats 4000000 in
set_option maxRecDepth 100000 in
theorem m_X2_countThere (l : Launch) (D : va_G) (dA : Nat → ClassId) (bs : Nat) {σ σ' : HS} {a0 : Option Nat} {a1 : Int32} {r : Int32} (h : f_X2_countThere σ a0 a1 = some (r, σ')) : MetC l yX2_countThere cX2_countThere 4 (some .int) 1 21 D dA bs [va_rf a0, .int a1] (some (.int r)) σ σ' := by
  refine MetC.of (by decide) (h_avR (h_avI h_av0)) (Nat.le_of_ble_eq_true rfl) ?_
  intro p e R s m args below meth c C B hnm
  unfold f_X2_countThere at h
  refine V_sub (lv' := [(0, va_rf a0), (1, .int a1)]) [0, 1] rfl ?_
  refine V_iconst (v := 0) C dX2_countThere_0 (by decide) ?_
  refine V_istore_n (lv' := [(2, .int 0), (0, va_rf a0), (1, .int a1)]) C dX2_countThere_1 rfl (by decide) rfl ?_
  refine V_iconst (v := 0) C dX2_countThere_2 (by decide) ?_
  refine V_istore_n (lv' := [(3, .int 0), (2, .int 0), (0, va_rf a0), (1, .int a1)]) C dX2_countThere_3 rfl (by decide) rfl ?_
  exact V_sub [2, 3, 1, 0] rfl (w_X2_countThere_4 C B h_hN σ a0 a1 0 0 h)
/-! X3_init -/
theorem dX3_init_0 : decode cX3_init 0 = .ok (.aload_n 0, 1) := by decide +kernel
theorem dX3_init_1 : decode cX3_init 1 = .ok (.invokespecial 3, 3) := by decide +kernel
theorem dX3_init_4 : decode cX3_init 4 = .ok (.aload_n 0, 1) := by decide +kernel
theorem dX3_init_5 : decode cX3_init 5 = .ok (.iload_n 1, 1) := by decide +kernel
theorem dX3_init_6 : decode cX3_init 6 = .ok (.putfield 9, 3) := by decide +kernel
theorem dX3_init_9 : decode cX3_init 9 = .ok (.aload_n 0, 1) := by decide +kernel
theorem dX3_init_10 : decode cX3_init 10 = .ok (.iload_n 2, 1) := by decide +kernel
theorem dX3_init_11 : decode cX3_init 11 = .ok (.putfield 15, 3) := by decide +kernel
theorem dX3_init_14 : decode cX3_init 14 = .ok (.aload_n 0, 1) := by decide +kernel
theorem dX3_init_15 : decode cX3_init 15 = .ok (.iload_n 3, 1) := by decide +kernel
theorem dX3_init_16 : decode cX3_init 16 = .ok (.putfield 18, 3) := by decide +kernel
theorem dX3_init_19 : decode cX3_init 19 = .ok (.aload_n 0, 1) := by decide +kernel
theorem dX3_init_20 : decode cX3_init 20 = .ok (.iconst (-1), 1) := by decide +kernel
theorem dX3_init_21 : decode cX3_init 21 = .ok (.putfield 21, 3) := by decide +kernel
theorem dX3_init_24 : decode cX3_init 24 = .ok (.return_, 1) := by decide +kernel
def f_X3_init (σ : HS) (a0 : Option Nat) (a1 : Int32) (a2 : Int32) (a3 : Int32) : Option (Unit × HS) :=
  h_b1 a0 fun y1 =>
  h_b1 (h_pI σ a0 4 0 a1) fun s3 =>
  h_b1 (h_pI s3 a0 4 1 a2) fun s5 =>
  h_b1 (h_pI s5 a0 4 2 a3) fun s7 =>
  h_b1 (h_pI s7 a0 4 5 (-1)) fun s9 =>
  some ((), s9)
set_option maxHeartbeats 4000000 in
set_option maxRecDepth 100000 in
theorem m_X3_init (l : Launch) (D : va_G) (dA : Nat → ClassId) (bs : Nat) {σ σ' : HS} {a0 : Option Nat} {a1 : Int32} {a2 : Int32} {a3 : Int32} (h : f_X3_init σ a0 a1 a2 a3 = some ((), σ')) : MetC l yX3_init cX3_init 4 none 1 12 D dA bs [va_rf a0, .int a1, .int a2, .int a3] none σ σ' := by
  refine MetC.of (by decide) (h_avR (h_avI (h_avI (h_avI h_av0)))) (Nat.le_of_ble_eq_true rfl) ?_
  intro p e R s m args below meth c C B hnm
  unfold f_X3_init at h
  refine V_sub (lv' := [(0, va_rf a0), (1, .int a1), (2, .int a2), (3, .int a3)]) [0, 1, 2, 3] rfl ?_
  refine V_aload_n C 0 dX3_init_0 rfl rfl ?_
  obtain ⟨y1, e2, h⟩ := h_b1_some h
  refine V_objInit C ob_RX3 ob_i ob_c dX3_init_1 e2 (h_fr B (by decide)) (h_lo B (by decide)) ?_
  refine V_aload_n C 0 dX3_init_4 rfl rfl ?_
  refine V_iload_n C 1 dX3_init_5 rfl rfl ?_
  obtain ⟨s3, e4, h⟩ := h_b1_some h
  refine V_putFI C hnm ff_RX3_9 dX3_init_6 e4 ?_
  refine V_aload_n C 0 dX3_init_9 rfl rfl ?_
  refine V_iload_n C 2 dX3_init_10 rfl rfl ?_
  obtain ⟨s5, e6, h⟩ := h_b1_some h
  refine V_putFI C hnm ff_RX3_15 dX3_init_11 e6 ?_
  refine V_aload_n C 0 dX3_init_14 rfl rfl ?_
  refine V_iload_n C 3 dX3_init_15 rfl rfl ?_
  obtain ⟨s7, e8, h⟩ := h_b1_some h
  refine V_putFI C hnm ff_RX3_18 dX3_init_16 e8 ?_
  refine V_aload_n C 0 dX3_init_19 rfl rfl ?_
  refine V_iconst (v := (-1)) C dX3_init_20 (by decide) ?_
  obtain ⟨s9, e10, h⟩ := h_b1_some h
  refine V_putI C fw_RX3_21 dX3_init_21 e10 ?_
  cases h
  exact V_vret C B dX3_init_24
/-! X3_arriveAt -/
theorem dX3_arriveAt_0 : decode cX3_arriveAt 0 = .ok (.aload_n 0, 1) := by decide +kernel
theorem dX3_arriveAt_1 : decode cX3_arriveAt 1 = .ok (.iconst 2, 1) := by decide +kernel
theorem dX3_arriveAt_2 : decode cX3_arriveAt 2 = .ok (.putfield 24, 3) := by decide +kernel
theorem dX3_arriveAt_5 : decode cX3_arriveAt 5 = .ok (.aload_n 0, 1) := by decide +kernel
theorem dX3_arriveAt_6 : decode cX3_arriveAt 6 = .ok (.getfield 27, 3) := by decide +kernel
theorem dX3_arriveAt_9 : decode cX3_arriveAt 9 = .ok (.ifCond .ne 8, 3) := by decide +kernel
theorem dX3_arriveAt_12 : decode cX3_arriveAt 12 = .ok (.aload_n 0, 1) := by decide +kernel
theorem dX3_arriveAt_13 : decode cX3_arriveAt 13 = .ok (.iload_n 1, 1) := by decide +kernel
theorem dX3_arriveAt_14 : decode cX3_arriveAt 14 = .ok (.putfield 21, 3) := by decide +kernel
theorem dX3_arriveAt_17 : decode cX3_arriveAt 17 = .ok (.aload_n 0, 1) := by decide +kernel
theorem dX3_arriveAt_18 : decode cX3_arriveAt 18 = .ok (.dup, 1) := by decide +kernel
theorem dX3_arriveAt_19 : decode cX3_arriveAt 19 = .ok (.getfield 27, 3) := by decide +kernel
theorem dX3_arriveAt_22 : decode cX3_arriveAt 22 = .ok (.iconst 1, 1) := by decide +kernel
theorem dX3_arriveAt_23 : decode cX3_arriveAt 23 = .ok (.iadd, 1) := by decide +kernel
theorem dX3_arriveAt_24 : decode cX3_arriveAt 24 = .ok (.putfield 27, 3) := by decide +kernel
theorem dX3_arriveAt_27 : decode cX3_arriveAt 27 = .ok (.return_, 1) := by decide +kernel
def f_X3_arriveAt (σ : HS) (a0 : Option Nat) (a1 : Int32) : Option (Unit × HS) :=
  h_b1 (h_pI σ a0 4 3 2) fun s1 =>
  h_b1 (h_gI s1 a0 4 7) fun x3 =>
  if x3 = 0 then
    h_b1 (h_pI s1 a0 4 5 a1) fun s10 =>
    h_b1 (h_gI s10 a0 4 7) fun x12 =>
    h_b1 (h_pI s10 a0 4 7 (x12 + 1)) fun s14 =>
    some ((), s14)
  else
    h_b1 (h_gI s1 a0 4 7) fun x6 =>
    h_b1 (h_pI s1 a0 4 7 (x6 + 1)) fun s8 =>
    some ((), s8)
set_option maxHeartbeats 4000000 in
set_option maxRecDepth 100000 in
theorem m_X3_arriveAt (l : Launch) (D : va_G) (dA : Nat → ClassId) (bs : Nat) {σ σ' : HS} {a0 : Option Nat} {a1 : Int32} (h : f_X3_arriveAt σ a0 a1 = some ((), σ')) : MetC l yX3_arriveAt cX3_arriveAt 2 none 0 0 D dA bs [va_rf a0, .int a1] none σ σ' := by
  refine MetC.of (by decide) (h_avR (h_avI h_av0)) (Nat.le_of_ble_eq_true rfl) ?_
  intro p e R s m args below meth c C B hnm
  unfold f_X3_arriveAt at h
  refine V_sub (lv' := [(0, va_rf a0), (1, .int a1)]) [0, 1] rfl ?_
  refine V_aload_n C 0 dX3_arriveAt_0 rfl rfl ?_
  refine V_iconst (v := 2) C dX3_arriveAt_1 (by decide) ?_
  obtain ⟨s1, e2, h⟩ := h_b1_some h
  refine V_putI C fw_RX3_24 dX3_arriveAt_2 e2 ?_
  refine V_aload_n C 0 dX3_arriveAt_5 rfl rfl ?_
  obtain ⟨x3, e4, h⟩ := h_b1_some h
  refine V_getI C fl_RX3_27 dX3_arriveAt_6 e4 ?_
  refine V_if_ne (tgt := 17) C dX3_arriveAt_9 (by decide) (fun c5 => ?_) (fun c5 => ?_)
  · rw [if_neg c5] at h
    refine V_aload_n C 0 dX3_arriveAt_17 rfl rfl ?_
    refine V_dupR C dX3_arriveAt_18 ?_
    obtain ⟨x6, e7, h⟩ := h_b1_some h
    refine V_getI C fl_RX3_27 dX3_arriveAt_19 e7 ?_
    refine V_iconst (v := 1) C dX3_arriveAt_22 (by decide) ?_
    refine V_iadd C dX3_arriveAt_23 ?_
    obtain ⟨s8, e9, h⟩ := h_b1_some h
    refine V_putI C fw_RX3_27 dX3_arriveAt_24 e9 ?_
    cases h
    exact V_vret C B dX3_arriveAt_27
  · rw [if_pos c5] at h
    refine V_aload_n C 0 dX3_arriveAt_12 rfl rfl ?_
    refine V_iload_n C 1 dX3_arriveAt_13 rfl rfl ?_
    obtain ⟨s10, e11, h⟩ := h_b1_some h
    refine V_putI C fw_RX3_21 dX3_arriveAt_14 e11 ?_
    refine V_aload_n C 0 dX3_arriveAt_17 rfl rfl ?_
    refine V_dupR C dX3_arriveAt_18 ?_
    obtain ⟨x12, e13, h⟩ := h_b1_some h
    refine V_getI C fl_RX3_27 dX3_arriveAt_19 e13 ?_
    refine V_iconst (v := 1) C dX3_arriveAt_22 (by decide) ?_
    refine V_iadd C dX3_arriveAt_23 ?_
    obtain ⟨s14, e15, h⟩ := h_b1_some h
    refine V_putI C fw_RX3_27 dX3_arriveAt_24 e15 ?_
    cases h
    exact V_vret C B dX3_arriveAt_27
/-! X3_lose -/
theorem dX3_lose_0 : decode cX3_lose 0 = .ok (.aload_n 0, 1) := by decide +kernel
theorem dX3_lose_1 : decode cX3_lose 1 = .ok (.getfield 24, 3) := by decide +kernel
theorem dX3_lose_4 : decode cX3_lose 4 = .ok (.iconst 1, 1) := by decide +kernel
theorem dX3_lose_5 : decode cX3_lose 5 = .ok (.if_icmp .ne 8, 3) := by decide +kernel
theorem dX3_lose_8 : decode cX3_lose 8 = .ok (.aload_n 0, 1) := by decide +kernel
theorem dX3_lose_9 : decode cX3_lose 9 = .ok (.iconst 4, 1) := by decide +kernel
theorem dX3_lose_10 : decode cX3_lose 10 = .ok (.putfield 24, 3) := by decide +kernel
theorem dX3_lose_13 : decode cX3_lose 13 = .ok (.return_, 1) := by decide +kernel
def f_X3_lose (σ : HS) (a0 : Option Nat) : Option (Unit × HS) :=
  h_b1 (h_gI σ a0 4 3) fun x1 =>
  if x1 = 1 then
    h_b1 (h_pI σ a0 4 3 4) fun s4 =>
    some ((), s4)
  else
    some ((), σ)
set_option maxHeartbeats 4000000 in
set_option maxRecDepth 100000 in
theorem m_X3_lose (l : Launch) (D : va_G) (dA : Nat → ClassId) (bs : Nat) {σ σ' : HS} {a0 : Option Nat} (h : f_X3_lose σ a0 = some ((), σ')) : MetC l yX3_lose cX3_lose 1 none 0 0 D dA bs [va_rf a0] none σ σ' := by
  refine MetC.of (by decide) (h_avR h_av0) (Nat.le_of_ble_eq_true rfl) ?_
  intro p e R s m args below meth c C B hnm
  unfold f_X3_lose at h
  refine V_sub (lv' := [(0, va_rf a0)]) [0] rfl ?_
  refine V_aload_n C 0 dX3_lose_0 rfl rfl ?_
  obtain ⟨x1, e2, h⟩ := h_b1_some h
  refine V_getI C fl_RX3_24 dX3_lose_1 e2 ?_
  refine V_iconst (v := 1) C dX3_lose_4 (by decide) ?_
  refine V_icmp_ne (tgt := 13) C dX3_lose_5 (by decide) (fun c3 => ?_) (fun c3 => ?_)
  · rw [if_neg c3] at h
    cases h
    exact V_vret C B dX3_lose_13
  · rw [if_pos c3] at h
    refine V_aload_n C 0 dX3_lose_8 rfl rfl ?_
    refine V_iconst (v := 4) C dX3_lose_9 (by decide) ?_
    obtain ⟨s4, e5, h⟩ := h_b1_some h
    refine V_putI C fw_RX3_24 dX3_lose_10 e5 ?_
    cases h
    exact V_vret C B dX3_lose_13
/-! X4_init -/
theorem dX4_init_0 : decode cX4_init 0 = .ok (.aload_n 0, 1) := by decide +kernel
theorem dX4_init_1 : decode cX4_init 1 = .ok (.invokespecial 1, 3) := by decide +kernel
theorem dX4_init_4 : decode cX4_init 4 = .ok (.aload_n 0, 1) := by decide +kernel
theorem dX4_init_5 : decode cX4_init 5 = .ok (.iload_n 1, 1) := by decide +kernel
theorem dX4_init_6 : decode cX4_init 6 = .ok (.putfield 7, 3) := by decide +kernel
theorem dX4_init_9 : decode cX4_init 9 = .ok (.aload_n 0, 1) := by decide +kernel
theorem dX4_init_10 : decode cX4_init 10 = .ok (.iload_n 2, 1) := by decide +kernel
theorem dX4_init_11 : decode cX4_init 11 = .ok (.putfield 13, 3) := by decide +kernel
theorem dX4_init_14 : decode cX4_init 14 = .ok (.return_, 1) := by decide +kernel
def f_X4_init (σ : HS) (a0 : Option Nat) (a1 : Int32) (a2 : Int32) : Option (Unit × HS) :=
  h_b1 a0 fun y1 =>
  h_b1 (h_pI σ a0 5 0 a1) fun s3 =>
  h_b1 (h_pI s3 a0 5 1 a2) fun s5 =>
  some ((), s5)
set_option maxHeartbeats 4000000 in
set_option maxRecDepth 100000 in
theorem m_X4_init (l : Launch) (D : va_G) (dA : Nat → ClassId) (bs : Nat) {σ σ' : HS} {a0 : Option Nat} {a1 : Int32} {a2 : Int32} (h : f_X4_init σ a0 a1 a2 = some ((), σ')) : MetC l yX4_init cX4_init 3 none 1 12 D dA bs [va_rf a0, .int a1, .int a2] none σ σ' := by
  refine MetC.of (by decide) (h_avR (h_avI (h_avI h_av0))) (Nat.le_of_ble_eq_true rfl) ?_
  intro p e R s m args below meth c C B hnm
  unfold f_X4_init at h
  refine V_sub (lv' := [(0, va_rf a0), (1, .int a1), (2, .int a2)]) [0, 1, 2] rfl ?_
  refine V_aload_n C 0 dX4_init_0 rfl rfl ?_
  obtain ⟨y1, e2, h⟩ := h_b1_some h
  refine V_objInit C ob_RX4 ob_i ob_c dX4_init_1 e2 (h_fr B (by decide)) (h_lo B (by decide)) ?_
  refine V_aload_n C 0 dX4_init_4 rfl rfl ?_
  refine V_iload_n C 1 dX4_init_5 rfl rfl ?_
  obtain ⟨s3, e4, h⟩ := h_b1_some h
  refine V_putFI C hnm ff_RX4_7 dX4_init_6 e4 ?_
  refine V_aload_n C 0 dX4_init_9 rfl rfl ?_
  refine V_iload_n C 2 dX4_init_10 rfl rfl ?_
  obtain ⟨s5, e6, h⟩ := h_b1_some h
  refine V_putFI C hnm ff_RX4_13 dX4_init_11 e6 ?_
  cases h
  exact V_vret C B dX4_init_14
/-! X4_of -/
theorem dX4_of_0 : decode cX4_of 0 = .ok (.iload_n 1, 1) := by decide +kernel
theorem dX4_of_1 : decode cX4_of 1 = .ok (.ifCond .lt 20, 3) := by decide +kernel
theorem dX4_of_4 : decode cX4_of 4 = .ok (.iload_n 1, 1) := by decide +kernel
theorem dX4_of_5 : decode cX4_of 5 = .ok (.bipush 32, 2) := by decide +kernel
theorem dX4_of_7 : decode cX4_of 7 = .ok (.if_icmp .gt 14, 3) := by decide +kernel
theorem dX4_of_10 : decode cX4_of 10 = .ok (.iload_n 0, 1) := by decide +kernel
theorem dX4_of_11 : decode cX4_of 11 = .ok (.iload_n 1, 1) := by decide +kernel
theorem dX4_of_12 : decode cX4_of 12 = .ok (.invokestatic 16, 3) := by decide +kernel
theorem dX4_of_15 : decode cX4_of 15 = .ok (.iconst (-1), 1) := by decide +kernel
theorem dX4_of_16 : decode cX4_of 16 = .ok (.ixor, 1) := by decide +kernel
theorem dX4_of_17 : decode cX4_of 17 = .ok (.iand, 1) := by decide +kernel
theorem dX4_of_18 : decode cX4_of 18 = .ok (.ifCond .eq 5, 3) := by decide +kernel
theorem dX4_of_21 : decode cX4_of 21 = .ok (.aconst_null, 1) := by decide +kernel
theorem dX4_of_22 : decode cX4_of 22 = .ok (.areturn, 1) := by decide +kernel
theorem dX4_of_23 : decode cX4_of 23 = .ok (.new 8, 3) := by decide +kernel
theorem dX4_of_26 : decode cX4_of 26 = .ok (.dup, 1) := by decide +kernel
theorem dX4_of_27 : decode cX4_of 27 = .ok (.iload_n 0, 1) := by decide +kernel
theorem dX4_of_28 : decode cX4_of 28 = .ok (.iload_n 1, 1) := by decide +kernel
theorem dX4_of_29 : decode cX4_of 29 = .ok (.invokespecial 20, 3) := by decide +kernel
theorem dX4_of_32 : decode cX4_of 32 = .ok (.areturn, 1) := by decide +kernel
def f_X4_of (σ : HS) (a0 : Int32) (a1 : Int32) : Option (Option Nat × HS) :=
  if a1 < 0 then
    some ((none : Option Nat), σ)
  else
    if 32 < a1 then
      some ((none : Option Nat), σ)
    else
      h_bd (f_X4_mask σ a1) fun r3 s4 =>
      if (a0 &&& (r3 ^^^ (-1))) = 0 then
        h_bd (h_mk s4 5 2) fun x7 s8 =>
        h_b1 (h_rcv s8 x7 5) fun y13 =>
        h_bd (f_X4_init s8 x7 a0 a1) fun _ s11 =>
        some (x7, s11)
      else
        some ((none : Option Nat), s4)
set_option maxHeartbeats 4000000 in
set_option maxRecDepth 100000 in
theorem m_X4_of (l : Launch) (D : va_G) (dA : Nat → ClassId) (bs : Nat) {σ σ' : HS} {a0 : Int32} {a1 : Int32} {r : Option Nat} (h : f_X4_of σ a0 a1 = some (r, σ')) : MetC l yX4_of cX4_of 2 (some (.object RX4)) 2 34 D dA bs [.int a0, .int a1] (some (va_rf r)) σ σ' := by
  refine MetC.of (by decide) (h_avI (h_avI h_av0)) (Nat.le_of_ble_eq_true rfl) ?_
  intro p e R s m args below meth c C B hnm
  unfold f_X4_of at h
  refine V_sub (lv' := [(0, .int a0), (1, .int a1)]) [0, 1] rfl ?_
  refine V_iload_n C 1 dX4_of_0 rfl rfl ?_
  refine V_if_lt (tgt := 21) C dX4_of_1 (by decide) (fun c1 => ?_) (fun c1 => ?_)
  · rw [if_pos c1] at h
    refine V_null C dX4_of_21 ?_
    cases h
    exact V_aret C B dX4_of_22
  · rw [if_neg c1] at h
    refine V_iload_n C 1 dX4_of_4 rfl rfl ?_
    refine V_bipush (v := 32) C dX4_of_5 (by decide) ?_
    refine V_icmp_gt (tgt := 21) C dX4_of_7 (by decide) (fun c2 => ?_) (fun c2 => ?_)
    · rw [if_pos c2] at h
      refine V_null C dX4_of_21 ?_
      cases h
      exact V_aret C B dX4_of_22
    · rw [if_neg c2] at h
      refine V_iload_n C 0 dX4_of_10 rfl rfl ?_
      refine V_iload_n C 1 dX4_of_11 rfl rfl ?_
      obtain ⟨r3, s4, e5, h⟩ := h_bd_some h
      refine V_cS (As := [.int a1]) (rest := [.int a0]) C ms_RX4_16 (m_X4_mask l D dA bs e5) rfl rfl (Nat.le_trans (h_wI h_w0) (by decide)) (h_fr B (by decide)) (h_lo B (by decide)) dX4_of_12 ?_
      refine V_iconst (v := (-1)) C dX4_of_15 (by decide) ?_
      refine V_ixor C dX4_of_16 ?_
      refine V_iand C dX4_of_17 ?_
      refine V_if_eq (tgt := 23) C dX4_of_18 (by decide) (fun c6 => ?_) (fun c6 => ?_)
      · rw [if_pos c6] at h
        obtain ⟨x7, s8, e9, h⟩ := h_bd_some h
        refine V_new C hcl_4 lk_RX4_8 dX4_of_23 e9 ?_
        refine V_dupR C dX4_of_26 ?_
        refine V_iload_n C 0 dX4_of_27 rfl rfl ?_
        refine V_iload_n C 1 dX4_of_28 rfl rfl ?_
        obtain ⟨y13, e14, h⟩ := h_b1_some h
        obtain ⟨r10, s11, e12, h⟩ := h_bd_some h
        refine V_cI (As := [.int a0, .int a1]) (rest := [va_rf x7]) C mi_RX4_20 (m_X4_init l D dA bs e12) e14 rfl rfl (Nat.le_trans (h_wR h_w0) (by decide)) (h_fr B (by decide)) (h_lo B (by decide)) dX4_of_29 ?_
        cases h
        exact V_aret C B dX4_of_32
      · rw [if_neg c6] at h
        refine V_null C dX4_of_21 ?_
        cases h
        exact V_aret C B dX4_of_22
/-! X4_round -/
theorem dX4_round_0 : decode cX4_round 0 = .ok (.new 8, 3) := by decide +kernel
theorem dX4_round_3 : decode cX4_round 3 = .ok (.dup, 1) := by decide +kernel
theorem dX4_round_4 : decode cX4_round 4 = .ok (.iload_n 0, 1) := by decide +kernel
theorem dX4_round_5 : decode cX4_round 5 = .ok (.iload_n 1, 1) := by decide +kernel
theorem dX4_round_6 : decode cX4_round 6 = .ok (.invokestatic 16, 3) := by decide +kernel
theorem dX4_round_9 : decode cX4_round 9 = .ok (.iand, 1) := by decide +kernel
theorem dX4_round_10 : decode cX4_round 10 = .ok (.iload_n 1, 1) := by decide +kernel
theorem dX4_round_11 : decode cX4_round 11 = .ok (.invokespecial 20, 3) := by decide +kernel
theorem dX4_round_14 : decode cX4_round 14 = .ok (.areturn, 1) := by decide +kernel
def f_X4_round (σ : HS) (a0 : Int32) (a1 : Int32) : Option (Option Nat × HS) :=
  h_bd (h_mk σ 5 2) fun x1 s2 =>
  h_bd (f_X4_mask s2 a1) fun r4 s5 =>
  h_b1 (h_rcv s5 x1 5) fun y10 =>
  h_bd (f_X4_init s5 x1 (a0 &&& r4) a1) fun _ s8 =>
  some (x1, s8)
set_option maxHeartbeats 4000000 in
set_option maxRecDepth 100000 in
theorem m_X4_round (l : Launch) (D : va_G) (dA : Nat → ClassId) (bs : Nat) {σ σ' : HS} {a0 : Int32} {a1 : Int32} {r : Option Nat} (h : f_X4_round σ a0 a1 = some (r, σ')) : MetC l yX4_round cX4_round 2 (some (.object RX4)) 2 34 D dA bs [.int a0, .int a1] (some (va_rf r)) σ σ' := by
  refine MetC.of (by decide) (h_avI (h_avI h_av0)) (Nat.le_of_ble_eq_true rfl) ?_
  intro p e R s m args below meth c C B hnm
  unfold f_X4_round at h
  refine V_sub (lv' := [(0, .int a0), (1, .int a1)]) [0, 1] rfl ?_
  obtain ⟨x1, s2, e3, h⟩ := h_bd_some h
  refine V_new C hcl_4 lk_RX4_8 dX4_round_0 e3 ?_
  refine V_dupR C dX4_round_3 ?_
  refine V_iload_n C 0 dX4_round_4 rfl rfl ?_
  refine V_iload_n C 1 dX4_round_5 rfl rfl ?_
  obtain ⟨r4, s5, e6, h⟩ := h_bd_some h
  refine V_cS (As := [.int a1]) (rest := [.int a0, va_rf x1, va_rf x1]) C ms_RX4_16 (m_X4_mask l D dA bs e6) rfl rfl (Nat.le_trans (h_wI (h_wR (h_wR h_w0))) (by decide)) (h_fr B (by decide)) (h_lo B (by decide)) dX4_round_6 ?_
  refine V_iand C dX4_round_9 ?_
  refine V_iload_n C 1 dX4_round_10 rfl rfl ?_
  obtain ⟨y10, e11, h⟩ := h_b1_some h
  obtain ⟨r7, s8, e9, h⟩ := h_bd_some h
  refine V_cI (As := [.int (a0 &&& r4), .int a1]) (rest := [va_rf x1]) C mi_RX4_20 (m_X4_init l D dA bs e9) e11 rfl rfl (Nat.le_trans (h_wR h_w0) (by decide)) (h_fr B (by decide)) (h_lo B (by decide)) dX4_round_11 ?_
  cases h
  exact V_aret C B dX4_round_14
/-! X4_same -/
theorem dX4_same_0 : decode cX4_same 0 = .ok (.aload_n 0, 1) := by decide +kernel
theorem dX4_same_1 : decode cX4_same 1 = .ok (.getfield 7, 3) := by decide +kernel
theorem dX4_same_4 : decode cX4_same 4 = .ok (.aload_n 1, 1) := by decide +kernel
theorem dX4_same_5 : decode cX4_same 5 = .ok (.getfield 7, 3) := by decide +kernel
theorem dX4_same_8 : decode cX4_same 8 = .ok (.if_icmp .ne 18, 3) := by decide +kernel
theorem dX4_same_11 : decode cX4_same 11 = .ok (.aload_n 0, 1) := by decide +kernel
theorem dX4_same_12 : decode cX4_same 12 = .ok (.getfield 13, 3) := by decide +kernel
theorem dX4_same_15 : decode cX4_same 15 = .ok (.aload_n 1, 1) := by decide +kernel
theorem dX4_same_16 : decode cX4_same 16 = .ok (.getfield 13, 3) := by decide +kernel
theorem dX4_same_19 : decode cX4_same 19 = .ok (.if_icmp .ne 7, 3) := by decide +kernel
theorem dX4_same_22 : decode cX4_same 22 = .ok (.iconst 1, 1) := by decide +kernel
theorem dX4_same_23 : decode cX4_same 23 = .ok (.goto 4, 3) := by decide +kernel
theorem dX4_same_26 : decode cX4_same 26 = .ok (.iconst 0, 1) := by decide +kernel
theorem dX4_same_27 : decode cX4_same 27 = .ok (.ireturn, 1) := by decide +kernel
def f_X4_same (σ : HS) (a0 : Option Nat) (a1 : Option Nat) : Option (Int32 × HS) :=
  h_b1 (h_gI σ a0 5 0) fun x1 =>
  h_b1 (h_gI σ a1 5 0) fun x3 =>
  if x1 = x3 then
    h_b1 (h_gI σ a0 5 1) fun x6 =>
    h_b1 (h_gI σ a1 5 1) fun x8 =>
    if x6 = x8 then
      some (1, σ)
    else
      some (0, σ)
  else
    some (0, σ)
set_option maxHeartbeats 4000000 in
set_option maxRecDepth 100000 in
theorem m_X4_same (l : Launch) (D : va_G) (dA : Nat → ClassId) (bs : Nat) {σ σ' : HS} {a0 : Option Nat} {a1 : Option Nat} {r : Int32} (h : f_X4_same σ a0 a1 = some (r, σ')) : MetC l yX4_same cX4_same 2 (some .boolean) 0 0 D dA bs [va_rf a0, va_rf a1] (some (.int r)) σ σ' := by
  refine MetC.of (by decide) (h_avR (h_avR h_av0)) (Nat.le_of_ble_eq_true rfl) ?_
  intro p e R s m args below meth c C B hnm
  unfold f_X4_same at h
  refine V_sub (lv' := [(0, va_rf a0), (1, va_rf a1)]) [0, 1] rfl ?_
  refine V_aload_n C 0 dX4_same_0 rfl rfl ?_
  obtain ⟨x1, e2, h⟩ := h_b1_some h
  refine V_getI C fl_RX4_7 dX4_same_1 e2 ?_
  refine V_aload_n C 1 dX4_same_4 rfl rfl ?_
  obtain ⟨x3, e4, h⟩ := h_b1_some h
  refine V_getI C fl_RX4_7 dX4_same_5 e4 ?_
  refine V_icmp_ne (tgt := 26) C dX4_same_8 (by decide) (fun c5 => ?_) (fun c5 => ?_)
  · rw [if_neg c5] at h
    refine V_iconst (v := 0) C dX4_same_26 (by decide) ?_
    cases h
    exact V_zret C B dX4_same_27 (Or.inl rfl)
  · rw [if_pos c5] at h
    refine V_aload_n C 0 dX4_same_11 rfl rfl ?_
    obtain ⟨x6, e7, h⟩ := h_b1_some h
    refine V_getI C fl_RX4_13 dX4_same_12 e7 ?_
    refine V_aload_n C 1 dX4_same_15 rfl rfl ?_
    obtain ⟨x8, e9, h⟩ := h_b1_some h
    refine V_getI C fl_RX4_13 dX4_same_16 e9 ?_
    refine V_icmp_ne (tgt := 26) C dX4_same_19 (by decide) (fun c10 => ?_) (fun c10 => ?_)
    · rw [if_neg c10] at h
      refine V_iconst (v := 0) C dX4_same_26 (by decide) ?_
      cases h
      exact V_zret C B dX4_same_27 (Or.inl rfl)
    · rw [if_pos c10] at h
      refine V_iconst (v := 1) C dX4_same_22 (by decide) ?_
      refine V_goto (tgt := 27) C dX4_same_23 (by decide) ?_
      cases h
      exact V_zret C B dX4_same_27 (Or.inr rfl)
/-! X4_liesRound -/
theorem dX4_liesRound_0 : decode cX4_liesRound 0 = .ok (.aload_n 0, 1) := by decide +kernel
theorem dX4_liesRound_1 : decode cX4_liesRound 1 = .ok (.getfield 13, 3) := by decide +kernel
theorem dX4_liesRound_4 : decode cX4_liesRound 4 = .ok (.iload_n 2, 1) := by decide +kernel
theorem dX4_liesRound_5 : decode cX4_liesRound 5 = .ok (.if_icmp .lt 21, 3) := by decide +kernel
theorem dX4_liesRound_8 : decode cX4_liesRound 8 = .ok (.aload_n 0, 1) := by decide +kernel
theorem dX4_liesRound_9 : decode cX4_liesRound 9 = .ok (.getfield 7, 3) := by decide +kernel
theorem dX4_liesRound_12 : decode cX4_liesRound 12 = .ok (.iload_n 1, 1) := by decide +kernel
theorem dX4_liesRound_13 : decode cX4_liesRound 13 = .ok (.ixor, 1) := by decide +kernel
theorem dX4_liesRound_14 : decode cX4_liesRound 14 = .ok (.iload_n 2, 1) := by decide +kernel
theorem dX4_liesRound_15 : decode cX4_liesRound 15 = .ok (.invokestatic 16, 3) := by decide +kernel
theorem dX4_liesRound_18 : decode cX4_liesRound 18 = .ok (.iand, 1) := by decide +kernel
theorem dX4_liesRound_19 : decode cX4_liesRound 19 = .ok (.ifCond .ne 7, 3) := by decide +kernel
theorem dX4_liesRound_22 : decode cX4_liesRound 22 = .ok (.iconst 1, 1) := by decide +kernel
theorem dX4_liesRound_23 : decode cX4_liesRound 23 = .ok (.goto 4, 3) := by decide +kernel
theorem dX4_liesRound_26 : decode cX4_liesRound 26 = .ok (.iconst 0, 1) := by decide +kernel
theorem dX4_liesRound_27 : decode cX4_liesRound 27 = .ok (.ireturn, 1) := by decide +kernel
def f_X4_liesRound (σ : HS) (a0 : Option Nat) (a1 : Int32) (a2 : Int32) : Option (Int32 × HS) :=
  h_b1 (h_gI σ a0 5 1) fun x1 =>
  if x1 < a2 then
    some (0, σ)
  else
    h_b1 (h_gI σ a0 5 0) fun x4 =>
    h_bd (f_X4_mask σ a2) fun r6 s7 =>
    if ((x4 ^^^ a1) &&& r6) = 0 then
      some (1, s7)
    else
      some (0, s7)
set_option maxHeartbeats 4000000 in
set_option maxRecDepth 100000 in
theorem m_X4_liesRound (l : Launch) (D : va_G) (dA : Nat → ClassId) (bs : Nat) {σ σ' : HS} {a0 : Option Nat} {a1 : Int32} {a2 : Int32} {r : Int32} (h : f_X4_liesRound σ a0 a1 a2 = some (r, σ')) : MetC l yX4_liesRound cX4_liesRound 3 (some .boolean) 1 20 D dA bs [va_rf a0, .int a1, .int a2] (some (.int r)) σ σ' := by
  refine MetC.of (by decide) (h_avR (h_avI (h_avI h_av0))) (Nat.le_of_ble_eq_true rfl) ?_
  intro p e R s m args below meth c C B hnm
  unfold f_X4_liesRound at h
  refine V_sub (lv' := [(0, va_rf a0), (1, .int a1), (2, .int a2)]) [0, 1, 2] rfl ?_
  refine V_aload_n C 0 dX4_liesRound_0 rfl rfl ?_
  obtain ⟨x1, e2, h⟩ := h_b1_some h
  refine V_getI C fl_RX4_13 dX4_liesRound_1 e2 ?_
  refine V_iload_n C 2 dX4_liesRound_4 rfl rfl ?_
  refine V_icmp_lt (tgt := 26) C dX4_liesRound_5 (by decide) (fun c3 => ?_) (fun c3 => ?_)
  · rw [if_pos c3] at h
    refine V_iconst (v := 0) C dX4_liesRound_26 (by decide) ?_
    cases h
    exact V_zret C B dX4_liesRound_27 (Or.inl rfl)
  · rw [if_neg c3] at h
    refine V_aload_n C 0 dX4_liesRound_8 rfl rfl ?_
    obtain ⟨x4, e5, h⟩ := h_b1_some h
    refine V_getI C fl_RX4_7 dX4_liesRound_9 e5 ?_
    refine V_iload_n C 1 dX4_liesRound_12 rfl rfl ?_
    refine V_ixor C dX4_liesRound_13 ?_
    refine V_iload_n C 2 dX4_liesRound_14 rfl rfl ?_
    obtain ⟨r6, s7, e8, h⟩ := h_bd_some h
    refine V_cS (As := [.int a2]) (rest := [.int (x4 ^^^ a1)]) C ms_RX4_16 (m_X4_mask l D dA bs e8) rfl rfl (Nat.le_trans (h_wI h_w0) (by decide)) (h_fr B (by decide)) (h_lo B (by decide)) dX4_liesRound_15 ?_
    refine V_iand C dX4_liesRound_18 ?_
    refine V_if_ne (tgt := 26) C dX4_liesRound_19 (by decide) (fun c9 => ?_) (fun c9 => ?_)
    · rw [if_neg c9] at h
      refine V_iconst (v := 0) C dX4_liesRound_26 (by decide) ?_
      cases h
      exact V_zret C B dX4_liesRound_27 (Or.inl rfl)
    · rw [if_pos c9] at h
      refine V_iconst (v := 1) C dX4_liesRound_22 (by decide) ?_
      refine V_goto (tgt := 27) C dX4_liesRound_23 (by decide) ?_
      cases h
      exact V_zret C B dX4_liesRound_27 (Or.inr rfl)
/-! X5_init -/
theorem dX5_init_0 : decode cX5_init 0 = .ok (.aload_n 0, 1) := by decide +kernel
theorem dX5_init_1 : decode cX5_init 1 = .ok (.invokespecial 3, 3) := by decide +kernel
theorem dX5_init_4 : decode cX5_init 4 = .ok (.aload_n 0, 1) := by decide +kernel
theorem dX5_init_5 : decode cX5_init 5 = .ok (.sipush 1600, 3) := by decide +kernel
theorem dX5_init_8 : decode cX5_init 8 = .ok (.newarray .int, 2) := by decide +kernel
theorem dX5_init_10 : decode cX5_init 10 = .ok (.putfield 11, 3) := by decide +kernel
theorem dX5_init_13 : decode cX5_init 13 = .ok (.return_, 1) := by decide +kernel
def f_X5_init (σ : HS) (a0 : Option Nat) : Option (Unit × HS) :=
  h_b1 a0 fun y1 =>
  h_bd (h_mkA σ 100 1600) fun x3 s4 =>
  h_b1 (h_pR s4 a0 6 0 x3) fun s6 =>
  some ((), s6)
set_option maxHeartbeats 4000000 in
set_option maxRecDepth 100000 in
theorem m_X5_init (l : Launch) (D : va_G) (dA : Nat → ClassId) (bs : Nat) {σ σ' : HS} {a0 : Option Nat} (h : f_X5_init σ a0 = some ((), σ')) : MetC l yX5_init cX5_init 1 none 1 12 D dA bs [va_rf a0] none σ σ' := by
  refine MetC.of (by decide) (h_avR h_av0) (Nat.le_of_ble_eq_true rfl) ?_
  intro p e R s m args below meth c C B hnm
  unfold f_X5_init at h
  refine V_sub (lv' := [(0, va_rf a0)]) [0] rfl ?_
  refine V_aload_n C 0 dX5_init_0 rfl rfl ?_
  obtain ⟨y1, e2, h⟩ := h_b1_some h
  refine V_objInit C ob_RX5 ob_i ob_c dX5_init_1 e2 (h_fr B (by decide)) (h_lo B (by decide)) ?_
  refine V_aload_n C 0 dX5_init_4 rfl rfl ?_
  refine V_sipush (v := 1600) C dX5_init_5 (by decide) ?_
  obtain ⟨x3, s4, e5, h⟩ := h_bd_some h
  refine V_newI C ac_int dX5_init_8 e5 ?_
  obtain ⟨s6, e7, h⟩ := h_b1_some h
  refine V_putFR C hnm ff_RX5_11 dX5_init_10 e7 ?_
  cases h
  exact V_vret C B dX5_init_13
/-! X5_has -/
theorem dX5_has_0 : decode cX5_has 0 = .ok (.iload_n 1, 1) := by decide +kernel
theorem dX5_has_1 : decode cX5_has 1 = .ok (.ifCond .lt 15, 3) := by decide +kernel
theorem dX5_has_4 : decode cX5_has 4 = .ok (.iload_n 1, 1) := by decide +kernel
theorem dX5_has_5 : decode cX5_has 5 = .ok (.aload_n 0, 1) := by decide +kernel
theorem dX5_has_6 : decode cX5_has 6 = .ok (.getfield 15, 3) := by decide +kernel
theorem dX5_has_9 : decode cX5_has 9 = .ok (.if_icmp .ge 7, 3) := by decide +kernel
theorem dX5_has_12 : decode cX5_has 12 = .ok (.iconst 1, 1) := by decide +kernel
theorem dX5_has_13 : decode cX5_has 13 = .ok (.goto 4, 3) := by decide +kernel
theorem dX5_has_16 : decode cX5_has 16 = .ok (.iconst 0, 1) := by decide +kernel
theorem dX5_has_17 : decode cX5_has 17 = .ok (.ireturn, 1) := by decide +kernel
def f_X5_has (σ : HS) (a0 : Option Nat) (a1 : Int32) : Option (Int32 × HS) :=
  if a1 < 0 then
    some (0, σ)
  else
    h_b1 (h_gI σ a0 6 2) fun x2 =>
    if x2 ≤ a1 then
      some (0, σ)
    else
      some (1, σ)
set_option maxHeartbeats 4000000 in
set_option maxRecDepth 100000 in
theorem m_X5_has (l : Launch) (D : va_G) (dA : Nat → ClassId) (bs : Nat) {σ σ' : HS} {a0 : Option Nat} {a1 : Int32} {r : Int32} (h : f_X5_has σ a0 a1 = some (r, σ')) : MetC l yX5_has cX5_has 2 (some .boolean) 0 0 D dA bs [va_rf a0, .int a1] (some (.int r)) σ σ' := by
  refine MetC.of (by decide) (h_avR (h_avI h_av0)) (Nat.le_of_ble_eq_true rfl) ?_
  intro p e R s m args below meth c C B hnm
  unfold f_X5_has at h
  refine V_sub (lv' := [(0, va_rf a0), (1, .int a1)]) [0, 1] rfl ?_
  refine V_iload_n C 1 dX5_has_0 rfl rfl ?_
  refine V_if_lt (tgt := 16) C dX5_has_1 (by decide) (fun c1 => ?_) (fun c1 => ?_)
  · rw [if_pos c1] at h
    refine V_iconst (v := 0) C dX5_has_16 (by decide) ?_
    cases h
    exact V_zret C B dX5_has_17 (Or.inl rfl)
  · rw [if_neg c1] at h
    refine V_iload_n C 1 dX5_has_4 rfl rfl ?_
    refine V_aload_n C 0 dX5_has_5 rfl rfl ?_
    obtain ⟨x2, e3, h⟩ := h_b1_some h
    refine V_getI C fl_RX5_15 dX5_has_6 e3 ?_
    refine V_icmp_ge (tgt := 16) C dX5_has_9 (by decide) (fun c4 => ?_) (fun c4 => ?_)
    · rw [if_pos c4] at h
      refine V_iconst (v := 0) C dX5_has_16 (by decide) ?_
      cases h
      exact V_zret C B dX5_has_17 (Or.inl rfl)
    · rw [if_neg c4] at h
      refine V_iconst (v := 1) C dX5_has_12 (by decide) ?_
      refine V_goto (tgt := 17) C dX5_has_13 (by decide) ?_
      cases h
      exact V_zret C B dX5_has_17 (Or.inr rfl)
/-! X5_cell -/
theorem dX5_cell_0 : decode cX5_cell 0 = .ok (.aload_n 0, 1) := by decide +kernel
theorem dX5_cell_1 : decode cX5_cell 1 = .ok (.getfield 32, 3) := by decide +kernel
theorem dX5_cell_4 : decode cX5_cell 4 = .ok (.iload_n 1, 1) := by decide +kernel
theorem dX5_cell_5 : decode cX5_cell 5 = .ok (.iadd, 1) := by decide +kernel
theorem dX5_cell_6 : decode cX5_cell 6 = .ok (.sipush 200, 3) := by decide +kernel
theorem dX5_cell_9 : decode cX5_cell 9 = .ok (.irem, 1) := by decide +kernel
theorem dX5_cell_10 : decode cX5_cell 10 = .ok (.bipush 8, 2) := by decide +kernel
theorem dX5_cell_12 : decode cX5_cell 12 = .ok (.imul, 1) := by decide +kernel
theorem dX5_cell_13 : decode cX5_cell 13 = .ok (.ireturn, 1) := by decide +kernel
def f_X5_cell (σ : HS) (a0 : Option Nat) (a1 : Int32) : Option (Int32 × HS) :=
  h_b1 (h_gI σ a0 6 1) fun x1 =>
  some ((((x1 + a1) - (x1 + a1) / 200 * 200) * 8), σ)
set_option maxHeartbeats 4000000 in
set_option maxRecDepth 100000 in
theorem m_X5_cell (l : Launch) (D : va_G) (dA : Nat → ClassId) (bs : Nat) {σ σ' : HS} {a0 : Option Nat} {a1 : Int32} {r : Int32} (h : f_X5_cell σ a0 a1 = some (r, σ')) : MetC l yX5_cell cX5_cell 2 (some .int) 0 0 D dA bs [va_rf a0, .int a1] (some (.int r)) σ σ' := by
  refine MetC.of (by decide) (h_avR (h_avI h_av0)) (Nat.le_of_ble_eq_true rfl) ?_
  intro p e R s m args below meth c C B hnm
  unfold f_X5_cell at h
  refine V_sub (lv' := [(0, va_rf a0), (1, .int a1)]) [0, 1] rfl ?_
  refine V_aload_n C 0 dX5_cell_0 rfl rfl ?_
  obtain ⟨x1, e2, h⟩ := h_b1_some h
  refine V_getI C fl_RX5_32 dX5_cell_1 e2 ?_
  refine V_iload_n C 1 dX5_cell_4 rfl rfl ?_
  refine V_iadd C dX5_cell_5 ?_
  refine V_sipush (v := 200) C dX5_cell_6 (by decide) ?_
  refine V_irem C dX5_cell_9 (by decide) ?_
  refine V_bipush (v := 8) C dX5_cell_10 (by decide) ?_
  refine V_imul C dX5_cell_12 ?_
  cases h
  exact V_iret C B dX5_cell_13
/-! X5_get -/
theorem dX5_get_0 : decode cX5_get 0 = .ok (.aload_n 0, 1) := by decide +kernel
theorem dX5_get_1 : decode cX5_get 1 = .ok (.getfield 11, 3) := by decide +kernel
theorem dX5_get_4 : decode cX5_get 4 = .ok (.aload_n 0, 1) := by decide +kernel
theorem dX5_get_5 : decode cX5_get 5 = .ok (.iload_n 1, 1) := by decide +kernel
theorem dX5_get_6 : decode cX5_get 6 = .ok (.invokevirtual 19, 3) := by decide +kernel
theorem dX5_get_9 : decode cX5_get 9 = .ok (.iload_n 2, 1) := by decide +kernel
theorem dX5_get_10 : decode cX5_get 10 = .ok (.iadd, 1) := by decide +kernel
theorem dX5_get_11 : decode cX5_get 11 = .ok (.iaload, 1) := by decide +kernel
theorem dX5_get_12 : decode cX5_get 12 = .ok (.ireturn, 1) := by decide +kernel
def f_X5_get (σ : HS) (a0 : Option Nat) (a1 : Int32) (a2 : Int32) : Option (Int32 × HS) :=
  h_b1 (h_gR σ a0 6 0) fun x1 =>
  h_b1 (h_rcv σ a0 6) fun y6 =>
  h_bd (f_X5_cell σ a0 a1) fun r3 s4 =>
  h_b1 (h_aI s4 x1 100 (r3 + a2)) fun x8 =>
  some (x8, s4)
set_option maxHeartbeats 4000000 in
set_option maxRecDepth 100000 in
theorem m_X5_get (l : Launch) (D : va_G) (dA : Nat → ClassId) (bs : Nat) {σ σ' : HS} {a0 : Option Nat} {a1 : Int32} {a2 : Int32} {r : Int32} (h : f_X5_get σ a0 a1 a2 = some (r, σ')) : MetC l yX5_get cX5_get 3 (some .int) 1 21 D dA bs [va_rf a0, .int a1, .int a2] (some (.int r)) σ σ' := by
  refine MetC.of (by decide) (h_avR (h_avI (h_avI h_av0))) (Nat.le_of_ble_eq_true rfl) ?_
  intro p e R s m args below meth c C B hnm
  unfold f_X5_get at h
  refine V_sub (lv' := [(0, va_rf a0), (1, .int a1), (2, .int a2)]) [0, 1, 2] rfl ?_
  refine V_aload_n C 0 dX5_get_0 rfl rfl ?_
  obtain ⟨x1, e2, h⟩ := h_b1_some h
  refine V_getR C fl_RX5_11 dX5_get_1 e2 ?_
  refine V_aload_n C 0 dX5_get_4 rfl rfl ?_
  refine V_iload_n C 1 dX5_get_5 rfl rfl ?_
  obtain ⟨y6, e7, h⟩ := h_b1_some h
  obtain ⟨r3, s4, e5, h⟩ := h_bd_some h
  refine V_cV (As := [.int a1]) (rest := [va_rf x1]) C mv_RX5_19 (m_X5_cell l D dA bs e5) e7 rfl rfl (Nat.le_trans (h_wR h_w0) (by decide)) (h_fr B (by decide)) (h_lo B (by decide)) dX5_get_6 ?_
  refine V_iload_n C 2 dX5_get_9 rfl rfl ?_
  refine V_iadd C dX5_get_10 ?_
  obtain ⟨x8, e9, h⟩ := h_b1_some h
  refine V_iald C dX5_get_11 e9 ?_
  cases h
  exact V_iret C B dX5_get_12
/-! X5_set -/
theorem dX5_set_0 : decode cX5_set 0 = .ok (.aload_n 0, 1) := by decide +kernel
theorem dX5_set_1 : decode cX5_set 1 = .ok (.getfield 11, 3) := by decide +kernel
theorem dX5_set_4 : decode cX5_set 4 = .ok (.aload_n 0, 1) := by decide +kernel
theorem dX5_set_5 : decode cX5_set 5 = .ok (.iload_n 1, 1) := by decide +kernel
theorem dX5_set_6 : decode cX5_set 6 = .ok (.invokevirtual 19, 3) := by decide +kernel
theorem dX5_set_9 : decode cX5_set 9 = .ok (.iload_n 2, 1) := by decide +kernel
theorem dX5_set_10 : decode cX5_set 10 = .ok (.iadd, 1) := by decide +kernel
theorem dX5_set_11 : decode cX5_set 11 = .ok (.iload_n 3, 1) := by decide +kernel
theorem dX5_set_12 : decode cX5_set 12 = .ok (.iastore, 1) := by decide +kernel
theorem dX5_set_13 : decode cX5_set 13 = .ok (.return_, 1) := by decide +kernel
def f_X5_set (σ : HS) (a0 : Option Nat) (a1 : Int32) (a2 : Int32) (a3 : Int32) : Option (Unit × HS) :=
  h_b1 (h_gR σ a0 6 0) fun x1 =>
  h_b1 (h_rcv σ a0 6) fun y6 =>
  h_bd (f_X5_cell σ a0 a1) fun r3 s4 =>
  h_b1 (h_sI s4 x1 100 (r3 + a2) a3) fun s8 =>
  some ((), s8)
set_option maxHeartbeats 4000000 in
set_option maxRecDepth 100000 in
theorem m_X5_set (l : Launch) (D : va_G) (dA : Nat → ClassId) (bs : Nat) {σ σ' : HS} {a0 : Option Nat} {a1 : Int32} {a2 : Int32} {a3 : Int32} (h : f_X5_set σ a0 a1 a2 a3 = some ((), σ')) : MetC l yX5_set cX5_set 4 none 1 21 D dA bs [va_rf a0, .int a1, .int a2, .int a3] none σ σ' := by
  refine MetC.of (by decide) (h_avR (h_avI (h_avI (h_avI h_av0)))) (Nat.le_of_ble_eq_true rfl) ?_
  intro p e R s m args below meth c C B hnm
  unfold f_X5_set at h
  refine V_sub (lv' := [(0, va_rf a0), (1, .int a1), (2, .int a2), (3, .int a3)]) [0, 1, 2, 3] rfl ?_
  refine V_aload_n C 0 dX5_set_0 rfl rfl ?_
  obtain ⟨x1, e2, h⟩ := h_b1_some h
  refine V_getR C fl_RX5_11 dX5_set_1 e2 ?_
  refine V_aload_n C 0 dX5_set_4 rfl rfl ?_
  refine V_iload_n C 1 dX5_set_5 rfl rfl ?_
  obtain ⟨y6, e7, h⟩ := h_b1_some h
  obtain ⟨r3, s4, e5, h⟩ := h_bd_some h
  refine V_cV (As := [.int a1]) (rest := [va_rf x1]) C mv_RX5_19 (m_X5_cell l D dA bs e5) e7 rfl rfl (Nat.le_trans (h_wR h_w0) (by decide)) (h_fr B (by decide)) (h_lo B (by decide)) dX5_set_6 ?_
  refine V_iload_n C 2 dX5_set_9 rfl rfl ?_
  refine V_iadd C dX5_set_10 ?_
  refine V_iload_n C 3 dX5_set_11 rfl rfl ?_
  obtain ⟨s8, e9, h⟩ := h_b1_some h
  refine V_iast C dX5_set_12 e9 ?_
  cases h
  exact V_vret C B dX5_set_13
