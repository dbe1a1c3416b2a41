/-! X8_at -/
theorem dX8_at_0 : decode cX8_at 0 = .ok (.iload_n 1, 1) := by decide +kernel
theorem dX8_at_1 : decode cX8_at 1 = .ok (.ifCond .lt 9, 3) := by decide +kernel
theorem dX8_at_4 : decode cX8_at 4 = .ok (.iload_n 1, 1) := by decide +kernel
theorem dX8_at_5 : decode cX8_at 5 = .ok (.bipush 8, 2) := by decide +kernel
theorem dX8_at_7 : decode cX8_at 7 = .ok (.if_icmp .lt 7, 3) := by decide +kernel
theorem dX8_at_10 : decode cX8_at 10 = .ok (.aconst_null, 1) := by decide +kernel
theorem dX8_at_11 : decode cX8_at 11 = .ok (.goto 9, 3) := by decide +kernel
theorem dX8_at_14 : decode cX8_at 14 = .ok (.aload_n 0, 1) := by decide +kernel
theorem dX8_at_15 : decode cX8_at 15 = .ok (.getfield 11, 3) := by decide +kernel
theorem dX8_at_18 : decode cX8_at 18 = .ok (.iload_n 1, 1) := by decide +kernel
theorem dX8_at_19 : decode cX8_at 19 = .ok (.aaload, 1) := by decide +kernel
theorem dX8_at_20 : decode cX8_at 20 = .ok (.areturn, 1) := by decide +kernel
def f_X8_at (σ : HS) (a0 : Option Nat) (a1 : Int32) : Option (Option Nat × HS) :=
  if a1 < 0 then
    some ((none : Option Nat), σ)
  else
    if a1 < 8 then
      h_b1 (h_gR σ a0 9 0) fun x3 =>
      h_b1 (h_aR σ x3 107 a1) fun x5 =>
      some (x5, σ)
    else
      some ((none : Option Nat), σ)
set_option maxHeartbeats 4000000 in
set_option maxRecDepth 100000 in
theorem m_X8_at (l : Launch) (D : va_G) (dA : Nat → ClassId) (bs : Nat) {σ σ' : HS} {a0 : Option Nat} {a1 : Int32} {r : Option Nat} (h : f_X8_at σ a0 a1 = some (r, σ')) : MetC l yX8_at cX8_at 2 (some (.object RX6)) 0 0 D dA bs [va_rf a0, .int a1] (some (va_rf r)) σ σ' := by
  refine MetC.of (by decide) (h_avR (h_avI h_av0)) (Nat.le_of_ble_eq_true rfl) ?_
  intro p e R s m args below meth c C B hnm
  unfold f_X8_at at h
  refine V_sub (lv' := [(0, va_rf a0), (1, .int a1)]) [0, 1] rfl ?_
  refine V_iload_n C 1 dX8_at_0 rfl rfl ?_
  refine V_if_lt (tgt := 10) C dX8_at_1 (by decide) (fun c1 => ?_) (fun c1 => ?_)
  · rw [if_pos c1] at h
    refine V_null C dX8_at_10 ?_
    refine V_goto (tgt := 20) C dX8_at_11 (by decide) ?_
    cases h
    exact V_aret C B dX8_at_20
  · rw [if_neg c1] at h
    refine V_iload_n C 1 dX8_at_4 rfl rfl ?_
    refine V_bipush (v := 8) C dX8_at_5 (by decide) ?_
    refine V_icmp_lt (tgt := 14) C dX8_at_7 (by decide) (fun c2 => ?_) (fun c2 => ?_)
    · rw [if_pos c2] at h
      refine V_aload_n C 0 dX8_at_14 rfl rfl ?_
      obtain ⟨x3, e4, h⟩ := h_b1_some h
      refine V_getR C fl_RX8_11 dX8_at_15 e4 ?_
      refine V_iload_n C 1 dX8_at_18 rfl rfl ?_
      obtain ⟨x5, e6, h⟩ := h_b1_some h
      refine V_aald C h_at107 dX8_at_19 e6 ?_
      cases h
      exact V_aret C B dX8_at_20
    · rw [if_neg c2] at h
      refine V_null C dX8_at_10 ?_
      refine V_goto (tgt := 20) C dX8_at_11 (by decide) ?_
      cases h
      exact V_aret C B dX8_at_20
/-! X8_plant -/
theorem dX8_plant_0 : decode cX8_plant 0 = .ok (.aload_n 1, 1) := by decide +kernel
theorem dX8_plant_1 : decode cX8_plant 1 = .ok (.getfield 25, 3) := by decide +kernel
theorem dX8_plant_4 : decode cX8_plant 4 = .ok (.ifCond .lt 22, 3) := by decide +kernel
theorem dX8_plant_7 : decode cX8_plant 7 = .ok (.aload_n 1, 1) := by decide +kernel
theorem dX8_plant_8 : decode cX8_plant 8 = .ok (.getfield 25, 3) := by decide +kernel
theorem dX8_plant_11 : decode cX8_plant 11 = .ok (.bipush 8, 2) := by decide +kernel
theorem dX8_plant_13 : decode cX8_plant 13 = .ok (.if_icmp .ge 13, 3) := by decide +kernel
theorem dX8_plant_16 : decode cX8_plant 16 = .ok (.aload_n 0, 1) := by decide +kernel
theorem dX8_plant_17 : decode cX8_plant 17 = .ok (.getfield 11, 3) := by decide +kernel
theorem dX8_plant_20 : decode cX8_plant 20 = .ok (.aload_n 1, 1) := by decide +kernel
theorem dX8_plant_21 : decode cX8_plant 21 = .ok (.getfield 25, 3) := by decide +kernel
theorem dX8_plant_24 : decode cX8_plant 24 = .ok (.aload_n 1, 1) := by decide +kernel
theorem dX8_plant_25 : decode cX8_plant 25 = .ok (.aastore, 1) := by decide +kernel
theorem dX8_plant_26 : decode cX8_plant 26 = .ok (.return_, 1) := by decide +kernel
def f_X8_plant (σ : HS) (a0 : Option Nat) (a1 : Option Nat) : Option (Unit × HS) :=
  h_b1 (h_gI σ a1 7 0) fun x1 =>
  if x1 < 0 then
    some ((), σ)
  else
    h_b1 (h_gI σ a1 7 0) fun x4 =>
    if 8 ≤ x4 then
      some ((), σ)
    else
      h_b1 (h_gR σ a0 9 0) fun x7 =>
      h_b1 (h_gI σ a1 7 0) fun x9 =>
      h_b1 (h_sR σ x7 107 7 x9 a1) fun s11 =>
      some ((), s11)
set_option maxHeartbeats 4000000 in
set_option maxRecDepth 100000 in
theorem m_X8_plant (l : Launch) (D : va_G) (dA : Nat → ClassId) (bs : Nat) {σ σ' : HS} {a0 : Option Nat} {a1 : Option Nat} (h : f_X8_plant σ a0 a1 = some ((), σ')) : MetC l yX8_plant cX8_plant 2 none 0 0 D dA bs [va_rf a0, va_rf a1] none σ σ' := by
  refine MetC.of (by decide) (h_avR (h_avR h_av0)) (Nat.le_of_ble_eq_true rfl) ?_
  intro p e R s m args below meth c C B hnm
  unfold f_X8_plant at h
  refine V_sub (lv' := [(0, va_rf a0), (1, va_rf a1)]) [0, 1] rfl ?_
  refine V_aload_n C 1 dX8_plant_0 rfl rfl ?_
  obtain ⟨x1, e2, h⟩ := h_b1_some h
  refine V_getI C fl_RX8_25 dX8_plant_1 e2 ?_
  refine V_if_lt (tgt := 26) C dX8_plant_4 (by decide) (fun c3 => ?_) (fun c3 => ?_)
  · rw [if_pos c3] at h
    cases h
    exact V_vret C B dX8_plant_26
  · rw [if_neg c3] at h
    refine V_aload_n C 1 dX8_plant_7 rfl rfl ?_
    obtain ⟨x4, e5, h⟩ := h_b1_some h
    refine V_getI C fl_RX8_25 dX8_plant_8 e5 ?_
    refine V_bipush (v := 8) C dX8_plant_11 (by decide) ?_
    refine V_icmp_ge (tgt := 26) C dX8_plant_13 (by decide) (fun c6 => ?_) (fun c6 => ?_)
    · rw [if_pos c6] at h
      cases h
      exact V_vret C B dX8_plant_26
    · rw [if_neg c6] at h
      refine V_aload_n C 0 dX8_plant_16 rfl rfl ?_
      obtain ⟨x7, e8, h⟩ := h_b1_some h
      refine V_getR C fl_RX8_11 dX8_plant_17 e8 ?_
      refine V_aload_n C 1 dX8_plant_20 rfl rfl ?_
      obtain ⟨x9, e10, h⟩ := h_b1_some h
      refine V_getI C fl_RX8_25 dX8_plant_21 e10 ?_
      refine V_aload_n C 1 dX8_plant_24 rfl rfl ?_
      obtain ⟨s11, e12, h⟩ := h_b1_some h
      refine V_aast C h_at107 dX8_plant_25 e12 ?_
      cases h
      exact V_vret C B dX8_plant_26
/-! X8_isChild -/
theorem dX8_isChild_0 : decode cX8_isChild 0 = .ok (.aload_n 0, 1) := by decide +kernel
theorem dX8_isChild_1 : decode cX8_isChild 1 = .ok (.getfield 11, 3) := by decide +kernel
theorem dX8_isChild_4 : decode cX8_isChild 4 = .ok (.iload_n 1, 1) := by decide +kernel
theorem dX8_isChild_5 : decode cX8_isChild 5 = .ok (.aaload, 1) := by decide +kernel
theorem dX8_isChild_6 : decode cX8_isChild 6 = .ok (.ifnull 23, 3) := by decide +kernel
theorem dX8_isChild_9 : decode cX8_isChild 9 = .ok (.aload_n 0, 1) := by decide +kernel
theorem dX8_isChild_10 : decode cX8_isChild 10 = .ok (.getfield 11, 3) := by decide +kernel
theorem dX8_isChild_13 : decode cX8_isChild 13 = .ok (.iload_n 1, 1) := by decide +kernel
theorem dX8_isChild_14 : decode cX8_isChild 14 = .ok (.aaload, 1) := by decide +kernel
theorem dX8_isChild_15 : decode cX8_isChild 15 = .ok (.getfield 80, 3) := by decide +kernel
theorem dX8_isChild_18 : decode cX8_isChild 18 = .ok (.aload_n 2, 1) := by decide +kernel
theorem dX8_isChild_19 : decode cX8_isChild 19 = .ok (.getfield 25, 3) := by decide +kernel
theorem dX8_isChild_22 : decode cX8_isChild 22 = .ok (.if_icmp .ne 7, 3) := by decide +kernel
theorem dX8_isChild_25 : decode cX8_isChild 25 = .ok (.iconst 1, 1) := by decide +kernel
theorem dX8_isChild_26 : decode cX8_isChild 26 = .ok (.goto 4, 3) := by decide +kernel
theorem dX8_isChild_29 : decode cX8_isChild 29 = .ok (.iconst 0, 1) := by decide +kernel
theorem dX8_isChild_30 : decode cX8_isChild 30 = .ok (.ireturn, 1) := by decide +kernel
def f_X8_isChild (σ : HS) (a0 : Option Nat) (a1 : Int32) (a2 : Option Nat) : Option (Int32 × HS) :=
  h_b1 (h_gR σ a0 9 0) fun x1 =>
  h_b1 (h_aR σ x1 107 a1) fun x3 =>
  if x3 = none then
    some (0, σ)
  else
    h_b1 (h_gR σ a0 9 0) fun x6 =>
    h_b1 (h_aR σ x6 107 a1) fun x8 =>
    h_b1 (h_gI σ x8 7 1) fun x10 =>
    h_b1 (h_gI σ a2 7 0) fun x12 =>
    if x10 = x12 then
      some (1, σ)
    else
      some (0, σ)
set_option maxHeartbeats 4000000 in
set_option maxRecDepth 100000 in
theorem m_X8_isChild (l : Launch) (D : va_G) (dA : Nat → ClassId) (bs : Nat) {σ σ' : HS} {a0 : Option Nat} {a1 : Int32} {a2 : Option Nat} {r : Int32} (h : f_X8_isChild σ a0 a1 a2 = some (r, σ')) : MetC l yX8_isChild cX8_isChild 3 (some .boolean) 0 0 D dA bs [va_rf a0, .int a1, va_rf a2] (some (.int r)) σ σ' := by
  refine MetC.of (by decide) (h_avR (h_avI (h_avR h_av0))) (Nat.le_of_ble_eq_true rfl) ?_
  intro p e R s m args below meth c C B hnm
  unfold f_X8_isChild at h
  refine V_sub (lv' := [(0, va_rf a0), (1, .int a1), (2, va_rf a2)]) [0, 1, 2] rfl ?_
  refine V_aload_n C 0 dX8_isChild_0 rfl rfl ?_
  obtain ⟨x1, e2, h⟩ := h_b1_some h
  refine V_getR C fl_RX8_11 dX8_isChild_1 e2 ?_
  refine V_iload_n C 1 dX8_isChild_4 rfl rfl ?_
  obtain ⟨x3, e4, h⟩ := h_b1_some h
  refine V_aald C h_at107 dX8_isChild_5 e4 ?_
  refine V_ifnull (tgt := 29) C dX8_isChild_6 (by decide) (fun c5 => ?_) (fun c5 => ?_)
  · rw [if_pos c5] at h
    refine V_iconst (v := 0) C dX8_isChild_29 (by decide) ?_
    cases h
    exact V_zret C B dX8_isChild_30 (Or.inl rfl)
  · rw [if_neg c5] at h
    refine V_aload_n C 0 dX8_isChild_9 rfl rfl ?_
    obtain ⟨x6, e7, h⟩ := h_b1_some h
    refine V_getR C fl_RX8_11 dX8_isChild_10 e7 ?_
    refine V_iload_n C 1 dX8_isChild_13 rfl rfl ?_
    obtain ⟨x8, e9, h⟩ := h_b1_some h
    refine V_aald C h_at107 dX8_isChild_14 e9 ?_
    obtain ⟨x10, e11, h⟩ := h_b1_some h
    refine V_getI C fl_RX8_80 dX8_isChild_15 e11 ?_
    refine V_aload_n C 2 dX8_isChild_18 rfl rfl ?_
    obtain ⟨x12, e13, h⟩ := h_b1_some h
    refine V_getI C fl_RX8_25 dX8_isChild_19 e13 ?_
    refine V_icmp_ne (tgt := 29) C dX8_isChild_22 (by decide) (fun c14 => ?_) (fun c14 => ?_)
    · rw [if_neg c14] at h
      refine V_iconst (v := 0) C dX8_isChild_29 (by decide) ?_
      cases h
      exact V_zret C B dX8_isChild_30 (Or.inl rfl)
    · rw [if_pos c14] at h
      refine V_iconst (v := 1) C dX8_isChild_25 (by decide) ?_
      refine V_goto (tgt := 30) C dX8_isChild_26 (by decide) ?_
      cases h
      exact V_zret C B dX8_isChild_30 (Or.inr rfl)
/-! X8_owns -/
theorem dX8_owns_0 : decode cX8_owns 0 = .ok (.aload_n 2, 1) := by decide +kernel
theorem dX8_owns_1 : decode cX8_owns 1 = .ok (.aload_n 1, 1) := by decide +kernel
theorem dX8_owns_2 : decode cX8_owns 2 = .ok (.getfield 29, 3) := by decide +kernel
theorem dX8_owns_5 : decode cX8_owns 5 = .ok (.invokevirtual 33, 3) := by decide +kernel
theorem dX8_owns_8 : decode cX8_owns 8 = .ok (.ifCond .ne 5, 3) := by decide +kernel
theorem dX8_owns_11 : decode cX8_owns 11 = .ok (.iconst 0, 1) := by decide +kernel
theorem dX8_owns_12 : decode cX8_owns 12 = .ok (.ireturn, 1) := by decide +kernel
theorem dX8_owns_13 : decode cX8_owns 13 = .ok (.iconst 0, 1) := by decide +kernel
theorem dX8_owns_14 : decode cX8_owns 14 = .ok (.istore_n 3, 1) := by decide +kernel
theorem dX8_owns_15 : decode cX8_owns 15 = .ok (.iload_n 3, 1) := by decide +kernel
theorem dX8_owns_16 : decode cX8_owns 16 = .ok (.bipush 8, 2) := by decide +kernel
theorem dX8_owns_18 : decode cX8_owns 18 = .ok (.if_icmp .ge 36, 3) := by decide +kernel
theorem dX8_owns_21 : decode cX8_owns 21 = .ok (.aload_n 0, 1) := by decide +kernel
theorem dX8_owns_22 : decode cX8_owns 22 = .ok (.iload_n 3, 1) := by decide +kernel
theorem dX8_owns_23 : decode cX8_owns 23 = .ok (.aload_n 1, 1) := by decide +kernel
theorem dX8_owns_24 : decode cX8_owns 24 = .ok (.invokevirtual 37, 3) := by decide +kernel
theorem dX8_owns_27 : decode cX8_owns 27 = .ok (.ifCond .eq 21, 3) := by decide +kernel
theorem dX8_owns_30 : decode cX8_owns 30 = .ok (.aload_n 0, 1) := by decide +kernel
theorem dX8_owns_31 : decode cX8_owns 31 = .ok (.getfield 11, 3) := by decide +kernel
theorem dX8_owns_34 : decode cX8_owns 34 = .ok (.iload_n 3, 1) := by decide +kernel
theorem dX8_owns_35 : decode cX8_owns 35 = .ok (.aaload, 1) := by decide +kernel
theorem dX8_owns_36 : decode cX8_owns 36 = .ok (.getfield 29, 3) := by decide +kernel
theorem dX8_owns_39 : decode cX8_owns 39 = .ok (.aload_n 2, 1) := by decide +kernel
theorem dX8_owns_40 : decode cX8_owns 40 = .ok (.invokevirtual 41, 3) := by decide +kernel
theorem dX8_owns_43 : decode cX8_owns 43 = .ok (.ifCond .eq 5, 3) := by decide +kernel
theorem dX8_owns_46 : decode cX8_owns 46 = .ok (.iconst 0, 1) := by decide +kernel
theorem dX8_owns_47 : decode cX8_owns 47 = .ok (.ireturn, 1) := by decide +kernel
theorem dX8_owns_48 : decode cX8_owns 48 = .ok (.iinc 3 1, 3) := by decide +kernel
theorem dX8_owns_51 : decode cX8_owns 51 = .ok (.goto (-36), 3) := by decide +kernel
theorem dX8_owns_54 : decode cX8_owns 54 = .ok (.iconst 1, 1) := by decide +kernel
theorem dX8_owns_55 : decode cX8_owns 55 = .ok (.ireturn, 1) := by decide +kernel
def g_X8_owns_15 : Nat → HS → Option Nat → Option Nat → Option Nat → Int32 → Option (Int32 × HS)
  | 0, _, _, _, _, _ => none
  | n + 1, σ, l0, l1, l2, l3 =>
    if 8 ≤ l3 then
      some (1, σ)
    else
      h_b1 (h_rcv σ l0 9) fun y13 =>
      h_bd (f_X8_isChild σ l0 l3 l1) fun r10 s11 =>
      if r10 = 0 then
        g_X8_owns_15 n s11 l0 l1 l2 (l3 + 1)
      else
        h_b1 (h_gR s11 l0 9 0) fun x16 =>
        h_b1 (h_aR s11 x16 107 l3) fun x18 =>
        h_b1 (h_gR s11 x18 7 2) fun x20 =>
        h_b1 (h_rcv s11 x20 5) fun y25 =>
        h_bd (f_X4_meets s11 x20 l2) fun r22 s23 =>
        if r22 = 0 then
          g_X8_owns_15 n s23 l0 l1 l2 (l3 + 1)
        else
          some (0, s23)
def f_X8_owns (σ : HS) (a0 : Option Nat) (a1 : Option Nat) (a2 : Option Nat) : Option (Int32 × HS) :=
  h_b1 (h_gR σ a1 7 2) fun x1 =>
  h_b1 (h_rcv σ a2 5) fun y6 =>
  h_bd (f_X4_liesIn σ a2 x1) fun r3 s4 =>
  if r3 = 0 then
    some (0, s4)
  else
    g_X8_owns_15 h_hN s4 a0 a1 a2 0
set_option maxHeartbeats 4000000 in
set_option maxRecDepth 100000 in
theorem w_X8_owns_15 {p : Program} {l : Launch} {e : Env} {R : Room} {s : State} {m : MethodId} {args : Array Value} {below : List Frame} {meth : Method} {c : Code} {D : va_G} {dA : Nat → ClassId} {bs : Nat} (C : h_C p m c cX8_owns 4 s args RX8 D dA) {σ0 : HS} (B : h_B R s meth σ0 (some .boolean) 3 62) {σ' : HS} {r : Int32} : ∀ (n : Nat) (σ : HS) (l0 : Option Nat) (l1 : Option Nat) (l2 : Option Nat) (l3 : Int32), g_X8_owns_15 n σ l0 l1 l2 l3 = some (r, σ') → V p l e R s m args below meth c D dA bs 4 (MQ below (h_Q D dA bs (some (.int r)) σ0 σ') args s R.cells R.slots (fun q => bs ≤ q)) σ 15 [(0, va_rf l0), (1, va_rf l1), (2, va_rf l2), (3, .int l3)] [] := by
  intro n
  induction n with
  | zero =>
    intro σ l0 l1 l2 l3 h
    rw [g_X8_owns_15] at h
    cases h
  | succ n ih =>
    intro σ l0 l1 l2 l3 h
    rw [g_X8_owns_15] at h
    refine V_iload_n C 3 dX8_owns_15 rfl rfl ?_
    refine V_bipush (v := 8) C dX8_owns_16 (by decide) ?_
    refine V_icmp_ge (tgt := 54) C dX8_owns_18 (by decide) (fun c9 => ?_) (fun c9 => ?_)
    · rw [if_pos c9] at h
      refine V_iconst (v := 1) C dX8_owns_54 (by decide) ?_
      cases h
      exact V_zret C B dX8_owns_55 (Or.inr rfl)
    · rw [if_neg c9] at h
      refine V_aload_n C 0 dX8_owns_21 rfl rfl ?_
      refine V_iload_n C 3 dX8_owns_22 rfl rfl ?_
      refine V_aload_n C 1 dX8_owns_23 rfl rfl ?_
      obtain ⟨y13, e14, h⟩ := h_b1_some h
      obtain ⟨r10, s11, e12, h⟩ := h_bd_some h
      refine V_cV (As := [.int l3, va_rf l1]) (rest := []) C mv_RX8_37 (m_X8_isChild l D dA bs e12) e14 rfl rfl (Nat.le_trans h_w0 (by decide)) (h_fr B (by decide)) (h_lo B (by decide)) dX8_owns_24 ?_
      refine V_if_eq (tgt := 48) C dX8_owns_27 (by decide) (fun c15 => ?_) (fun c15 => ?_)
      · rw [if_pos c15] at h
        refine V_iinc (v := (l3 + 1)) (lv' := [(3, .int (l3 + 1)), (0, va_rf l0), (1, va_rf l1), (2, va_rf l2)]) C 3 dX8_owns_48 rfl rfl (by decide) rfl ?_
        refine V_goto (tgt := 15) C dX8_owns_51 (by decide) ?_
        exact V_sub [1, 2, 3, 0] rfl (ih s11 l0 l1 l2 (l3 + 1) h)
      · rw [if_neg c15] at h
        refine V_aload_n C 0 dX8_owns_30 rfl rfl ?_
        obtain ⟨x16, e17, h⟩ := h_b1_some h
        refine V_getR C fl_RX8_11 dX8_owns_31 e17 ?_
        refine V_iload_n C 3 dX8_owns_34 rfl rfl ?_
        obtain ⟨x18, e19, h⟩ := h_b1_some h
        refine V_aald C h_at107 dX8_owns_35 e19 ?_
        obtain ⟨x20, e21, h⟩ := h_b1_some h
        refine V_getR C fl_RX8_29 dX8_owns_36 e21 ?_
        refine V_aload_n C 2 dX8_owns_39 rfl rfl ?_
        obtain ⟨y25, e26, h⟩ := h_b1_some h
        obtain ⟨r22, s23, e24, h⟩ := h_bd_some h
        refine V_cV (As := [va_rf l2]) (rest := []) C mv_RX8_41 (m_X4_meets l D dA bs e24) e26 rfl rfl (Nat.le_trans h_w0 (by decide)) (h_fr B (by decide)) (h_lo B (by decide)) dX8_owns_40 ?_
        refine V_if_eq (tgt := 48) C dX8_owns_43 (by decide) (fun c27 => ?_) (fun c27 => ?_)
        · rw [if_pos c27] at h
          refine V_iinc (v := (l3 + 1)) (lv' := [(3, .int (l3 + 1)), (0, va_rf l0), (1, va_rf l1), (2, va_rf l2)]) C 3 dX8_owns_48 rfl rfl (by decide) rfl ?_
          refine V_goto (tgt := 15) C dX8_owns_51 (by decide) ?_
          exact V_sub [1, 2, 3, 0] rfl (ih s23 l0 l1 l2 (l3 + 1) h)
        · rw [if_neg c27] at h
          refine V_iconst (v := 0) C dX8_owns_46 (by decide) ?_
          cases h
          exact V_zret C B dX8_owns_47 (Or.inl rfl)
set_option maxHeartbeats 4000000 in
set_option maxRecDepth 100000 in
theorem m_X8_owns (l : Launch) (D : va_G) (dA : Nat → ClassId) (bs : Nat) {σ σ' : HS} {a0 : Option Nat} {a1 : Option Nat} {a2 : Option Nat} {r : Int32} (h : f_X8_owns σ a0 a1 a2 = some (r, σ')) : MetC l yX8_owns cX8_owns 4 (some .boolean) 3 62 D dA bs [va_rf a0, va_rf a1, va_rf a2] (some (.int r)) σ σ' := by
  refine MetC.of (by decide) (h_avR (h_avR (h_avR h_av0))) (Nat.le_of_ble_eq_true rfl) ?_
  intro p e R s m args below meth c C B hnm
  unfold f_X8_owns at h
  refine V_sub (lv' := [(0, va_rf a0), (1, va_rf a1), (2, va_rf a2)]) [0, 1, 2] rfl ?_
  refine V_aload_n C 2 dX8_owns_0 rfl rfl ?_
  refine V_aload_n C 1 dX8_owns_1 rfl rfl ?_
  obtain ⟨x1, e2, h⟩ := h_b1_some h
  refine V_getR C fl_RX8_29 dX8_owns_2 e2 ?_
  obtain ⟨y6, e7, h⟩ := h_b1_some h
  obtain ⟨r3, s4, e5, h⟩ := h_bd_some h
  refine V_cV (As := [va_rf x1]) (rest := []) C mv_RX8_33 (m_X4_liesIn l D dA bs e5) e7 rfl rfl (Nat.le_trans h_w0 (by decide)) (h_fr B (by decide)) (h_lo B (by decide)) dX8_owns_5 ?_
  refine V_if_ne (tgt := 13) C dX8_owns_8 (by decide) (fun c8 => ?_) (fun c8 => ?_)
  · rw [if_neg c8] at h
    refine V_iconst (v := 0) C dX8_owns_13 (by decide) ?_
    refine V_istore_n (lv' := [(3, .int 0), (0, va_rf a0), (1, va_rf a1), (2, va_rf a2)]) C dX8_owns_14 rfl (by decide) rfl ?_
    exact V_sub [1, 2, 3, 0] rfl (w_X8_owns_15 C B h_hN s4 a0 a1 a2 0 h)
  · rw [if_pos c8] at h
    refine V_iconst (v := 0) C dX8_owns_11 (by decide) ?_
    cases h
    exact V_zret C B dX8_owns_12 (Or.inl rfl)
/-! X8_ownerOf -/
theorem dX8_ownerOf_0 : decode cX8_ownerOf 0 = .ok (.iconst 0, 1) := by decide +kernel
theorem dX8_ownerOf_1 : decode cX8_ownerOf 1 = .ok (.istore_n 2, 1) := by decide +kernel
theorem dX8_ownerOf_2 : decode cX8_ownerOf 2 = .ok (.iload_n 2, 1) := by decide +kernel
theorem dX8_ownerOf_3 : decode cX8_ownerOf 3 = .ok (.bipush 8, 2) := by decide +kernel
theorem dX8_ownerOf_5 : decode cX8_ownerOf 5 = .ok (.if_icmp .ge 39, 3) := by decide +kernel
theorem dX8_ownerOf_8 : decode cX8_ownerOf 8 = .ok (.aload_n 0, 1) := by decide +kernel
theorem dX8_ownerOf_9 : decode cX8_ownerOf 9 = .ok (.getfield 11, 3) := by decide +kernel
theorem dX8_ownerOf_12 : decode cX8_ownerOf 12 = .ok (.iload_n 2, 1) := by decide +kernel
theorem dX8_ownerOf_13 : decode cX8_ownerOf 13 = .ok (.aaload, 1) := by decide +kernel
theorem dX8_ownerOf_14 : decode cX8_ownerOf 14 = .ok (.ifnull 24, 3) := by decide +kernel
theorem dX8_ownerOf_17 : decode cX8_ownerOf 17 = .ok (.aload_n 0, 1) := by decide +kernel
theorem dX8_ownerOf_18 : decode cX8_ownerOf 18 = .ok (.aload_n 0, 1) := by decide +kernel
theorem dX8_ownerOf_19 : decode cX8_ownerOf 19 = .ok (.getfield 11, 3) := by decide +kernel
theorem dX8_ownerOf_22 : decode cX8_ownerOf 22 = .ok (.iload_n 2, 1) := by decide +kernel
theorem dX8_ownerOf_23 : decode cX8_ownerOf 23 = .ok (.aaload, 1) := by decide +kernel
theorem dX8_ownerOf_24 : decode cX8_ownerOf 24 = .ok (.aload_n 1, 1) := by decide +kernel
theorem dX8_ownerOf_25 : decode cX8_ownerOf 25 = .ok (.invokevirtual 44, 3) := by decide +kernel
theorem dX8_ownerOf_28 : decode cX8_ownerOf 28 = .ok (.ifCond .eq 10, 3) := by decide +kernel
theorem dX8_ownerOf_31 : decode cX8_ownerOf 31 = .ok (.aload_n 0, 1) := by decide +kernel
theorem dX8_ownerOf_32 : decode cX8_ownerOf 32 = .ok (.getfield 11, 3) := by decide +kernel
theorem dX8_ownerOf_35 : decode cX8_ownerOf 35 = .ok (.iload_n 2, 1) := by decide +kernel
theorem dX8_ownerOf_36 : decode cX8_ownerOf 36 = .ok (.aaload, 1) := by decide +kernel
theorem dX8_ownerOf_37 : decode cX8_ownerOf 37 = .ok (.areturn, 1) := by decide +kernel
theorem dX8_ownerOf_38 : decode cX8_ownerOf 38 = .ok (.iinc 2 1, 3) := by decide +kernel
theorem dX8_ownerOf_41 : decode cX8_ownerOf 41 = .ok (.goto (-39), 3) := by decide +kernel
theorem dX8_ownerOf_44 : decode cX8_ownerOf 44 = .ok (.aconst_null, 1) := by decide +kernel
theorem dX8_ownerOf_45 : decode cX8_ownerOf 45 = .ok (.areturn, 1) := by decide +kernel
def g_X8_ownerOf_2 : Nat → HS → Option Nat → Option Nat → Int32 → Option (Option Nat × HS)
  | 0, _, _, _, _ => none
  | n + 1, σ, l0, l1, l2 =>
    if 8 ≤ l2 then
      some ((none : Option Nat), σ)
    else
      h_b1 (h_gR σ l0 9 0) fun x2 =>
      h_b1 (h_aR σ x2 107 l2) fun x4 =>
      if x4 = none then
        g_X8_ownerOf_2 n σ l0 l1 (l2 + 1)
      else
        h_b1 (h_gR σ l0 9 0) fun x7 =>
        h_b1 (h_aR σ x7 107 l2) fun x9 =>
        h_b1 (h_rcv σ l0 9) fun y14 =>
        h_bd (f_X8_owns σ l0 x9 l1) fun r11 s12 =>
        if r11 = 0 then
          g_X8_ownerOf_2 n s12 l0 l1 (l2 + 1)
        else
          h_b1 (h_gR s12 l0 9 0) fun x17 =>
          h_b1 (h_aR s12 x17 107 l2) fun x19 =>
          some (x19, s12)
def f_X8_ownerOf (σ : HS) (a0 : Option Nat) (a1 : Option Nat) : Option (Option Nat × HS) :=
  g_X8_ownerOf_2 h_hN σ a0 a1 0
set_option maxHeartbeats 4000000 in
set_option maxRecDepth 100000 in
theorem w_X8_ownerOf_2 {p : Program} {l : Launch} {e : Env} {R : Room} {s : State} {m : MethodId} {args : Array Value} {below : List Frame} {meth : Method} {c : Code} {D : va_G} {dA : Nat → ClassId} {bs : Nat} (C : h_C p m c cX8_ownerOf 3 s args RX8 D dA) {σ0 : HS} (B : h_B R s meth σ0 (some (.object RX6)) 4 85) {σ' : HS} {r : Option Nat} : ∀ (n : Nat) (σ : HS) (l0 : Option Nat) (l1 : Option Nat) (l2 : Int32), g_X8_ownerOf_2 n σ l0 l1 l2 = some (r, σ') → V p l e R s m args below meth c D dA bs 3 (MQ below (h_Q D dA bs (some (va_rf r)) σ0 σ') args s R.cells R.slots (fun q => bs ≤ q)) σ 2 [(0, va_rf l0), (1, va_rf l1), (2, .int l2)] [] := by
  intro n
  induction n with
  | zero =>
    intro σ l0 l1 l2 h
    rw [g_X8_ownerOf_2] at h
    cases h
  | succ n ih =>
    intro σ l0 l1 l2 h
    rw [g_X8_ownerOf_2] at h
    refine V_iload_n C 2 dX8_ownerOf_2 rfl rfl ?_
    refine V_bipush (v := 8) C dX8_ownerOf_3 (by decide) ?_
    refine V_icmp_ge (tgt := 44) C dX8_ownerOf_5 (by decide) (fun c1 => ?_) (fun c1 => ?_)
    · rw [if_pos c1] at h
      refine V_null C dX8_ownerOf_44 ?_
      cases h
      exact V_aret C B dX8_ownerOf_45
    · rw [if_neg c1] at h
      refine V_aload_n C 0 dX8_ownerOf_8 rfl rfl ?_
      obtain ⟨x2, e3, h⟩ := h_b1_some h
      refine V_getR C fl_RX8_11 dX8_ownerOf_9 e3 ?_
      refine V_iload_n C 2 dX8_ownerOf_12 rfl rfl ?_
      obtain ⟨x4, e5, h⟩ := h_b1_some h
      refine V_aald C h_at107 dX8_ownerOf_13 e5 ?_
      refine V_ifnull (tgt := 38) C dX8_ownerOf_14 (by decide) (fun c6 => ?_) (fun c6 => ?_)
      · rw [if_pos c6] at h
        refine V_iinc (v := (l2 + 1)) (lv' := [(2, .int (l2 + 1)), (0, va_rf l0), (1, va_rf l1)]) C 2 dX8_ownerOf_38 rfl rfl (by decide) rfl ?_
        refine V_goto (tgt := 2) C dX8_ownerOf_41 (by decide) ?_
        exact V_sub [1, 2, 0] rfl (ih σ l0 l1 (l2 + 1) h)
      · rw [if_neg c6] at h
        refine V_aload_n C 0 dX8_ownerOf_17 rfl rfl ?_
        refine V_aload_n C 0 dX8_ownerOf_18 rfl rfl ?_
        obtain ⟨x7, e8, h⟩ := h_b1_some h
        refine V_getR C fl_RX8_11 dX8_ownerOf_19 e8 ?_
        refine V_iload_n C 2 dX8_ownerOf_22 rfl rfl ?_
        obtain ⟨x9, e10, h⟩ := h_b1_some h
        refine V_aald C h_at107 dX8_ownerOf_23 e10 ?_
        refine V_aload_n C 1 dX8_ownerOf_24 rfl rfl ?_
        obtain ⟨y14, e15, h⟩ := h_b1_some h
        obtain ⟨r11, s12, e13, h⟩ := h_bd_some h
        refine V_cV (As := [va_rf x9, va_rf l1]) (rest := []) C mv_RX8_44 (m_X8_owns l D dA bs e13) e15 rfl rfl (Nat.le_trans h_w0 (by decide)) (h_fr B (by decide)) (h_lo B (by decide)) dX8_ownerOf_25 ?_
        refine V_if_eq (tgt := 38) C dX8_ownerOf_28 (by decide) (fun c16 => ?_) (fun c16 => ?_)
        · rw [if_pos c16] at h
          refine V_iinc (v := (l2 + 1)) (lv' := [(2, .int (l2 + 1)), (0, va_rf l0), (1, va_rf l1)]) C 2 dX8_ownerOf_38 rfl rfl (by decide) rfl ?_
          refine V_goto (tgt := 2) C dX8_ownerOf_41 (by decide) ?_
          exact V_sub [1, 2, 0] rfl (ih s12 l0 l1 (l2 + 1) h)
        · rw [if_neg c16] at h
          refine V_aload_n C 0 dX8_ownerOf_31 rfl rfl ?_
          obtain ⟨x17, e18, h⟩ := h_b1_some h
          refine V_getR C fl_RX8_11 dX8_ownerOf_32 e18 ?_
          refine V_iload_n C 2 dX8_ownerOf_35 rfl rfl ?_
          obtain ⟨x19, e20, h⟩ := h_b1_some h
          refine V_aald C h_at107 dX8_ownerOf_36 e20 ?_
          cases h
          exact V_aret C B dX8_ownerOf_37
set_option maxHeartbeats 4000000 in
set_option maxRecDepth 100000 in
theorem m_X8_ownerOf (l : Launch) (D : va_G) (dA : Nat → ClassId) (bs : Nat) {σ σ' : HS} {a0 : Option Nat} {a1 : Option Nat} {r : Option Nat} (h : f_X8_ownerOf σ a0 a1 = some (r, σ')) : MetC l yX8_ownerOf cX8_ownerOf 3 (some (.object RX6)) 4 85 D dA bs [va_rf a0, va_rf a1] (some (va_rf r)) σ σ' := by
  refine MetC.of (by decide) (h_avR (h_avR h_av0)) (Nat.le_of_ble_eq_true rfl) ?_
  intro p e R s m args below meth c C B hnm
  unfold f_X8_ownerOf at h
  refine V_sub (lv' := [(0, va_rf a0), (1, va_rf a1)]) [0, 1] rfl ?_
  refine V_iconst (v := 0) C dX8_ownerOf_0 (by decide) ?_
  refine V_istore_n (lv' := [(2, .int 0), (0, va_rf a0), (1, va_rf a1)]) C dX8_ownerOf_1 rfl (by decide) rfl ?_
  exact V_sub [1, 2, 0] rfl (w_X8_ownerOf_2 C B h_hN σ a0 a1 0 h)
/-! X8_childWith -/
theorem dX8_childWith_0 : decode cX8_childWith 0 = .ok (.iconst 0, 1) := by decide +kernel
theorem dX8_childWith_1 : decode cX8_childWith 1 = .ok (.istore_n 3, 1) := by decide +kernel
theorem dX8_childWith_2 : decode cX8_childWith 2 = .ok (.iload_n 3, 1) := by decide +kernel
theorem dX8_childWith_3 : decode cX8_childWith 3 = .ok (.bipush 8, 2) := by decide +kernel
theorem dX8_childWith_5 : decode cX8_childWith 5 = .ok (.if_icmp .ge 41, 3) := by decide +kernel
theorem dX8_childWith_8 : decode cX8_childWith 8 = .ok (.aload_n 0, 1) := by decide +kernel
theorem dX8_childWith_9 : decode cX8_childWith 9 = .ok (.iload_n 3, 1) := by decide +kernel
theorem dX8_childWith_10 : decode cX8_childWith 10 = .ok (.aload_n 1, 1) := by decide +kernel
theorem dX8_childWith_11 : decode cX8_childWith 11 = .ok (.invokevirtual 37, 3) := by decide +kernel
theorem dX8_childWith_14 : decode cX8_childWith 14 = .ok (.ifCond .eq 26, 3) := by decide +kernel
theorem dX8_childWith_17 : decode cX8_childWith 17 = .ok (.aload_n 0, 1) := by decide +kernel
theorem dX8_childWith_18 : decode cX8_childWith 18 = .ok (.getfield 11, 3) := by decide +kernel
theorem dX8_childWith_21 : decode cX8_childWith 21 = .ok (.iload_n 3, 1) := by decide +kernel
theorem dX8_childWith_22 : decode cX8_childWith 22 = .ok (.aaload, 1) := by decide +kernel
theorem dX8_childWith_23 : decode cX8_childWith 23 = .ok (.getfield 29, 3) := by decide +kernel
theorem dX8_childWith_26 : decode cX8_childWith 26 = .ok (.iload_n 2, 1) := by decide +kernel
theorem dX8_childWith_27 : decode cX8_childWith 27 = .ok (.invokevirtual 48, 3) := by decide +kernel
theorem dX8_childWith_30 : decode cX8_childWith 30 = .ok (.ifCond .eq 10, 3) := by decide +kernel
theorem dX8_childWith_33 : decode cX8_childWith 33 = .ok (.aload_n 0, 1) := by decide +kernel
theorem dX8_childWith_34 : decode cX8_childWith 34 = .ok (.getfield 11, 3) := by decide +kernel
theorem dX8_childWith_37 : decode cX8_childWith 37 = .ok (.iload_n 3, 1) := by decide +kernel
theorem dX8_childWith_38 : decode cX8_childWith 38 = .ok (.aaload, 1) := by decide +kernel
theorem dX8_childWith_39 : decode cX8_childWith 39 = .ok (.areturn, 1) := by decide +kernel
theorem dX8_childWith_40 : decode cX8_childWith 40 = .ok (.iinc 3 1, 3) := by decide +kernel
theorem dX8_childWith_43 : decode cX8_childWith 43 = .ok (.goto (-41), 3) := by decide +kernel
theorem dX8_childWith_46 : decode cX8_childWith 46 = .ok (.aconst_null, 1) := by decide +kernel
theorem dX8_childWith_47 : decode cX8_childWith 47 = .ok (.areturn, 1) := by decide +kernel
def g_X8_childWith_2 : Nat → HS → Option Nat → Option Nat → Int32 → Int32 → Option (Option Nat × HS)
  | 0, _, _, _, _, _ => none
  | n + 1, σ, l0, l1, l2, l3 =>
    if 8 ≤ l3 then
      some ((none : Option Nat), σ)
    else
      h_b1 (h_rcv σ l0 9) fun y5 =>
      h_bd (f_X8_isChild σ l0 l3 l1) fun r2 s3 =>
      if r2 = 0 then
        g_X8_childWith_2 n s3 l0 l1 l2 (l3 + 1)
      else
        h_b1 (h_gR s3 l0 9 0) fun x8 =>
        h_b1 (h_aR s3 x8 107 l3) fun x10 =>
        h_b1 (h_gR s3 x10 7 2) fun x12 =>
        h_b1 (h_rcv s3 x12 5) fun y17 =>
        h_bd (f_X4_has s3 x12 l2) fun r14 s15 =>
        if r14 = 0 then
          g_X8_childWith_2 n s15 l0 l1 l2 (l3 + 1)
        else
          h_b1 (h_gR s15 l0 9 0) fun x20 =>
          h_b1 (h_aR s15 x20 107 l3) fun x22 =>
          some (x22, s15)
def f_X8_childWith (σ : HS) (a0 : Option Nat) (a1 : Option Nat) (a2 : Int32) : Option (Option Nat × HS) :=
  g_X8_childWith_2 h_hN σ a0 a1 a2 0
set_option maxHeartbeats 4000000 in
set_option maxRecDepth 100000 in
theorem w_X8_childWith_2 {p : Program} {l : Launch} {e : Env} {R : Room} {s : State} {m : MethodId} {args : Array Value} {below : List Frame} {meth : Method} {c : Code} {D : va_G} {dA : Nat → ClassId} {bs : Nat} (C : h_C p m c cX8_childWith 4 s args RX8 D dA) {σ0 : HS} (B : h_B R s meth σ0 (some (.object RX6)) 2 41) {σ' : HS} {r : Option Nat} : ∀ (n : Nat) (σ : HS) (l0 : Option Nat) (l1 : Option Nat) (l2 : Int32) (l3 : Int32), g_X8_childWith_2 n σ l0 l1 l2 l3 = some (r, σ') → V p l e R s m args below meth c D dA bs 4 (MQ below (h_Q D dA bs (some (va_rf r)) σ0 σ') args s R.cells R.slots (fun q => bs ≤ q)) σ 2 [(0, va_rf l0), (1, va_rf l1), (2, .int l2), (3, .int l3)] [] := by
  intro n
  induction n with
  | zero =>
    intro σ l0 l1 l2 l3 h
    rw [g_X8_childWith_2] at h
    cases h
  | succ n ih =>
    intro σ l0 l1 l2 l3 h
    rw [g_X8_childWith_2] at h
    refine V_iload_n C 3 dX8_childWith_2 rfl rfl ?_
    refine V_bipush (v := 8) C dX8_childWith_3 (by decide) ?_
    refine V_icmp_ge (tgt := 46) C dX8_childWith_5 (by decide) (fun c1 => ?_) (fun c1 => ?_)
    · rw [if_pos c1] at h
      refine V_null C dX8_childWith_46 ?_
      cases h
      exact V_aret C B dX8_childWith_47
    · rw [if_neg c1] at h
      refine V_aload_n C 0 dX8_childWith_8 rfl rfl ?_
      refine V_iload_n C 3 dX8_childWith_9 rfl rfl ?_
      refine V_aload_n C 1 dX8_childWith_10 rfl rfl ?_
      obtain ⟨y5, e6, h⟩ := h_b1_some h
      obtain ⟨r2, s3, e4, h⟩ := h_bd_some h
      refine V_cV (As := [.int l3, va_rf l1]) (rest := []) C mv_RX8_37 (m_X8_isChild l D dA bs e4) e6 rfl rfl (Nat.le_trans h_w0 (by decide)) (h_fr B (by decide)) (h_lo B (by decide)) dX8_childWith_11 ?_
      refine V_if_eq (tgt := 40) C dX8_childWith_14 (by decide) (fun c7 => ?_) (fun c7 => ?_)
      · rw [if_pos c7] at h
        refine V_iinc (v := (l3 + 1)) (lv' := [(3, .int (l3 + 1)), (0, va_rf l0), (1, va_rf l1), (2, .int l2)]) C 3 dX8_childWith_40 rfl rfl (by decide) rfl ?_
        refine V_goto (tgt := 2) C dX8_childWith_43 (by decide) ?_
        exact V_sub [1, 2, 3, 0] rfl (ih s3 l0 l1 l2 (l3 + 1) h)
      · rw [if_neg c7] at h
        refine V_aload_n C 0 dX8_childWith_17 rfl rfl ?_
        obtain ⟨x8, e9, h⟩ := h_b1_some h
        refine V_getR C fl_RX8_11 dX8_childWith_18 e9 ?_
        refine V_iload_n C 3 dX8_childWith_21 rfl rfl ?_
        obtain ⟨x10, e11, h⟩ := h_b1_some h
        refine V_aald C h_at107 dX8_childWith_22 e11 ?_
        obtain ⟨x12, e13, h⟩ := h_b1_some h
        refine V_getR C fl_RX8_29 dX8_childWith_23 e13 ?_
        refine V_iload_n C 2 dX8_childWith_26 rfl rfl ?_
        obtain ⟨y17, e18, h⟩ := h_b1_some h
        obtain ⟨r14, s15, e16, h⟩ := h_bd_some h
        refine V_cV (As := [.int l2]) (rest := []) C mv_RX8_48 (m_X4_has l D dA bs e16) e18 rfl rfl (Nat.le_trans h_w0 (by decide)) (h_fr B (by decide)) (h_lo B (by decide)) dX8_childWith_27 ?_
        refine V_if_eq (tgt := 40) C dX8_childWith_30 (by decide) (fun c19 => ?_) (fun c19 => ?_)
        · rw [if_pos c19] at h
          refine V_iinc (v := (l3 + 1)) (lv' := [(3, .int (l3 + 1)), (0, va_rf l0), (1, va_rf l1), (2, .int l2)]) C 3 dX8_childWith_40 rfl rfl (by decide) rfl ?_
          refine V_goto (tgt := 2) C dX8_childWith_43 (by decide) ?_
          exact V_sub [1, 2, 3, 0] rfl (ih s15 l0 l1 l2 (l3 + 1) h)
        · rw [if_neg c19] at h
          refine V_aload_n C 0 dX8_childWith_33 rfl rfl ?_
          obtain ⟨x20, e21, h⟩ := h_b1_some h
          refine V_getR C fl_RX8_11 dX8_childWith_34 e21 ?_
          refine V_iload_n C 3 dX8_childWith_37 rfl rfl ?_
          obtain ⟨x22, e23, h⟩ := h_b1_some h
          refine V_aald C h_at107 dX8_childWith_38 e23 ?_
          cases h
          exact V_aret C B dX8_childWith_39
set_option maxHeartbeats 4000000 in
set_option maxRecDepth 100000 in
theorem m_X8_childWith (l : Launch) (D : va_G) (dA : Nat → ClassId) (bs : Nat) {σ σ' : HS} {a0 : Option Nat} {a1 : Option Nat} {a2 : Int32} {r : Option Nat} (h : f_X8_childWith σ a0 a1 a2 = some (r, σ')) : MetC l yX8_childWith cX8_childWith 4 (some (.object RX6)) 2 41 D dA bs [va_rf a0, va_rf a1, .int a2] (some (va_rf r)) σ σ' := by
  refine MetC.of (by decide) (h_avR (h_avR (h_avI h_av0))) (Nat.le_of_ble_eq_true rfl) ?_
  intro p e R s m args below meth c C B hnm
  unfold f_X8_childWith at h
  refine V_sub (lv' := [(0, va_rf a0), (1, va_rf a1), (2, .int a2)]) [0, 1, 2] rfl ?_
  refine V_iconst (v := 0) C dX8_childWith_0 (by decide) ?_
  refine V_istore_n (lv' := [(3, .int 0), (0, va_rf a0), (1, va_rf a1), (2, .int a2)]) C dX8_childWith_1 rfl (by decide) rfl ?_
  exact V_sub [1, 2, 3, 0] rfl (w_X8_childWith_2 C B h_hN σ a0 a1 a2 0 h)
/-! X8_hasChildRound -/
theorem dX8_hasChildRound_0 : decode cX8_hasChildRound 0 = .ok (.iconst 0, 1) := by decide +kernel
theorem dX8_hasChildRound_1 : decode cX8_hasChildRound 1 = .ok (.istore 4, 2) := by decide +kernel
theorem dX8_hasChildRound_3 : decode cX8_hasChildRound 3 = .ok (.iload 4, 2) := by decide +kernel
theorem dX8_hasChildRound_5 : decode cX8_hasChildRound 5 = .ok (.bipush 8, 2) := by decide +kernel
theorem dX8_hasChildRound_7 : decode cX8_hasChildRound 7 = .ok (.if_icmp .ge 39, 3) := by decide +kernel
theorem dX8_hasChildRound_10 : decode cX8_hasChildRound 10 = .ok (.aload_n 0, 1) := by decide +kernel
theorem dX8_hasChildRound_11 : decode cX8_hasChildRound 11 = .ok (.iload 4, 2) := by decide +kernel
theorem dX8_hasChildRound_13 : decode cX8_hasChildRound 13 = .ok (.aload_n 1, 1) := by decide +kernel
theorem dX8_hasChildRound_14 : decode cX8_hasChildRound 14 = .ok (.invokevirtual 37, 3) := by decide +kernel
theorem dX8_hasChildRound_17 : decode cX8_hasChildRound 17 = .ok (.ifCond .eq 23, 3) := by decide +kernel
theorem dX8_hasChildRound_20 : decode cX8_hasChildRound 20 = .ok (.aload_n 0, 1) := by decide +kernel
theorem dX8_hasChildRound_21 : decode cX8_hasChildRound 21 = .ok (.getfield 11, 3) := by decide +kernel
theorem dX8_hasChildRound_24 : decode cX8_hasChildRound 24 = .ok (.iload 4, 2) := by decide +kernel
theorem dX8_hasChildRound_26 : decode cX8_hasChildRound 26 = .ok (.aaload, 1) := by decide +kernel
theorem dX8_hasChildRound_27 : decode cX8_hasChildRound 27 = .ok (.getfield 29, 3) := by decide +kernel
theorem dX8_hasChildRound_30 : decode cX8_hasChildRound 30 = .ok (.iload_n 2, 1) := by decide +kernel
theorem dX8_hasChildRound_31 : decode cX8_hasChildRound 31 = .ok (.iload_n 3, 1) := by decide +kernel
theorem dX8_hasChildRound_32 : decode cX8_hasChildRound 32 = .ok (.invokevirtual 83, 3) := by decide +kernel
theorem dX8_hasChildRound_35 : decode cX8_hasChildRound 35 = .ok (.ifCond .eq 5, 3) := by decide +kernel
theorem dX8_hasChildRound_38 : decode cX8_hasChildRound 38 = .ok (.iconst 1, 1) := by decide +kernel
theorem dX8_hasChildRound_39 : decode cX8_hasChildRound 39 = .ok (.ireturn, 1) := by decide +kernel
theorem dX8_hasChildRound_40 : decode cX8_hasChildRound 40 = .ok (.iinc 4 1, 3) := by decide +kernel
theorem dX8_hasChildRound_43 : decode cX8_hasChildRound 43 = .ok (.goto (-40), 3) := by decide +kernel
theorem dX8_hasChildRound_46 : decode cX8_hasChildRound 46 = .ok (.iconst 0, 1) := by decide +kernel
theorem dX8_hasChildRound_47 : decode cX8_hasChildRound 47 = .ok (.ireturn, 1) := by decide +kernel
def g_X8_hasChildRound_3 : Nat → HS → Option Nat → Option Nat → Int32 → Int32 → Int32 → Option (Int32 × HS)
  | 0, _, _, _, _, _, _ => none
  | n + 1, σ, l0, l1, l2, l3, l4 =>
    if 8 ≤ l4 then
      some (0, σ)
    else
      h_b1 (h_rcv σ l0 9) fun y5 =>
      h_bd (f_X8_isChild σ l0 l4 l1) fun r2 s3 =>
      if r2 = 0 then
        g_X8_hasChildRound_3 n s3 l0 l1 l2 l3 (l4 + 1)
      else
        h_b1 (h_gR s3 l0 9 0) fun x8 =>
        h_b1 (h_aR s3 x8 107 l4) fun x10 =>
        h_b1 (h_gR s3 x10 7 2) fun x12 =>
        h_b1 (h_rcv s3 x12 5) fun y17 =>
        h_bd (f_X4_liesRound s3 x12 l2 l3) fun r14 s15 =>
        if r14 = 0 then
          g_X8_hasChildRound_3 n s15 l0 l1 l2 l3 (l4 + 1)
        else
          some (1, s15)
def f_X8_hasChildRound (σ : HS) (a0 : Option Nat) (a1 : Option Nat) (a2 : Int32) (a3 : Int32) : Option (Int32 × HS) :=
  g_X8_hasChildRound_3 h_hN σ a0 a1 a2 a3 0
set_option maxHeartbeats 4000000 in
set_option maxRecDepth 100000 in
theorem w_X8_hasChildRound_3 {p : Program} {l : Launch} {e : Env} {R : Room} {s : State} {m : MethodId} {args : Array Value} {below : List Frame} {meth : Method} {c : Code} {D : va_G} {dA : Nat → ClassId} {bs : Nat} (C : h_C p m c cX8_hasChildRound 5 s args RX8 D dA) {σ0 : HS} (B : h_B R s meth σ0 (some .boolean) 2 42) {σ' : HS} {r : Int32} : ∀ (n : Nat) (σ : HS) (l0 : Option Nat) (l1 : Option Nat) (l2 : Int32) (l3 : Int32) (l4 : Int32), g_X8_hasChildRound_3 n σ l0 l1 l2 l3 l4 = some (r, σ') → V p l e R s m args below meth c D dA bs 5 (MQ below (h_Q D dA bs (some (.int r)) σ0 σ') args s R.cells R.slots (fun q => bs ≤ q)) σ 3 [(0, va_rf l0), (1, va_rf l1), (2, .int l2), (3, .int l3), (4, .int l4)] [] := by
  intro n
  induction n with
  | zero =>
    intro σ l0 l1 l2 l3 l4 h
    rw [g_X8_hasChildRound_3] at h
    cases h
  | succ n ih =>
    intro σ l0 l1 l2 l3 l4 h
    rw [g_X8_hasChildRound_3] at h
    refine V_iload C 4 dX8_hasChildRound_3 rfl ?_
    refine V_bipush (v := 8) C dX8_hasChildRound_5 (by decide) ?_
    refine V_icmp_ge (tgt := 46) C dX8_hasChildRound_7 (by decide) (fun c1 => ?_) (fun c1 => ?_)
    · rw [if_pos c1] at h
      refine V_iconst (v := 0) C dX8_hasChildRound_46 (by decide) ?_
      cases h
      exact V_zret C B dX8_hasChildRound_47 (Or.inl rfl)
    · rw [if_neg c1] at h
      refine V_aload_n C 0 dX8_hasChildRound_10 rfl rfl ?_
      refine V_iload C 4 dX8_hasChildRound_11 rfl ?_
      refine V_aload_n C 1 dX8_hasChildRound_13 rfl rfl ?_
      obtain ⟨y5, e6, h⟩ := h_b1_some h
      obtain ⟨r2, s3, e4, h⟩ := h_bd_some h
      refine V_cV (As := [.int l4, va_rf l1]) (rest := []) C mv_RX8_37 (m_X8_isChild l D dA bs e4) e6 rfl rfl (Nat.le_trans h_w0 (by decide)) (h_fr B (by decide)) (h_lo B (by decide)) dX8_hasChildRound_14 ?_
      refine V_if_eq (tgt := 40) C dX8_hasChildRound_17 (by decide) (fun c7 => ?_) (fun c7 => ?_)
      · rw [if_pos c7] at h
        refine V_iinc (v := (l4 + 1)) (lv' := [(4, .int (l4 + 1)), (0, va_rf l0), (1, va_rf l1), (2, .int l2), (3, .int l3)]) C 4 dX8_hasChildRound_40 rfl rfl (by decide) rfl ?_
        refine V_goto (tgt := 3) C dX8_hasChildRound_43 (by decide) ?_
        exact V_sub [1, 2, 3, 4, 0] rfl (ih s3 l0 l1 l2 l3 (l4 + 1) h)
      · rw [if_neg c7] at h
        refine V_aload_n C 0 dX8_hasChildRound_20 rfl rfl ?_
        obtain ⟨x8, e9, h⟩ := h_b1_some h
        refine V_getR C fl_RX8_11 dX8_hasChildRound_21 e9 ?_
        refine V_iload C 4 dX8_hasChildRound_24 rfl ?_
        obtain ⟨x10, e11, h⟩ := h_b1_some h
        refine V_aald C h_at107 dX8_hasChildRound_26 e11 ?_
        obtain ⟨x12, e13, h⟩ := h_b1_some h
        refine V_getR C fl_RX8_29 dX8_hasChildRound_27 e13 ?_
        refine V_iload_n C 2 dX8_hasChildRound_30 rfl rfl ?_
        refine V_iload_n C 3 dX8_hasChildRound_31 rfl rfl ?_
        obtain ⟨y17, e18, h⟩ := h_b1_some h
        obtain ⟨r14, s15, e16, h⟩ := h_bd_some h
        refine V_cV (As := [.int l2, .int l3]) (rest := []) C mv_RX8_83 (m_X4_liesRound l D dA bs e16) e18 rfl rfl (Nat.le_trans h_w0 (by decide)) (h_fr B (by decide)) (h_lo B (by decide)) dX8_hasChildRound_32 ?_
        refine V_if_eq (tgt := 40) C dX8_hasChildRound_35 (by decide) (fun c19 => ?_) (fun c19 => ?_)
        · rw [if_pos c19] at h
          refine V_iinc (v := (l4 + 1)) (lv' := [(4, .int (l4 + 1)), (0, va_rf l0), (1, va_rf l1), (2, .int l2), (3, .int l3)]) C 4 dX8_hasChildRound_40 rfl rfl (by decide) rfl ?_
          refine V_goto (tgt := 3) C dX8_hasChildRound_43 (by decide) ?_
          exact V_sub [1, 2, 3, 4, 0] rfl (ih s15 l0 l1 l2 l3 (l4 + 1) h)
        · rw [if_neg c19] at h
          refine V_iconst (v := 1) C dX8_hasChildRound_38 (by decide) ?_
          cases h
          exact V_zret C B dX8_hasChildRound_39 (Or.inr rfl)
set_option maxHeartbeats 4000000 in
set_option maxRecDepth 100000 in
theorem m_X8_hasChildRound (l : Launch) (D : va_G) (dA : Nat → ClassId) (bs : Nat) {σ σ' : HS} {a0 : Option Nat} {a1 : Option Nat} {a2 : Int32} {a3 : Int32} {r : Int32} (h : f_X8_hasChildRound σ a0 a1 a2 a3 = some (r, σ')) : MetC l yX8_hasChildRound cX8_hasChildRound 5 (some .boolean) 2 42 D dA bs [va_rf a0, va_rf a1, .int a2, .int a3] (some (.int r)) σ σ' := by
  refine MetC.of (by decide) (h_avR (h_avR (h_avI (h_avI h_av0)))) (Nat.le_of_ble_eq_true rfl) ?_
  intro p e R s m args below meth c C B hnm
  unfold f_X8_hasChildRound at h
  refine V_sub (lv' := [(0, va_rf a0), (1, va_rf a1), (2, .int a2), (3, .int a3)]) [0, 1, 2, 3] rfl ?_
  refine V_iconst (v := 0) C dX8_hasChildRound_0 (by decide) ?_
  refine V_istore (lv' := [(4, .int 0), (0, va_rf a0), (1, va_rf a1), (2, .int a2), (3, .int a3)]) C dX8_hasChildRound_1 (by decide) rfl ?_
  exact V_sub [1, 2, 3, 4, 0] rfl (w_X8_hasChildRound_3 C B h_hN σ a0 a1 a2 a3 0 h)
/-! X8_piece -/
theorem dX8_piece_0 : decode cX8_piece 0 = .ok (.aload_n 2, 1) := by decide +kernel
theorem dX8_piece_1 : decode cX8_piece 1 = .ok (.ifnonnull 13, 3) := by decide +kernel
theorem dX8_piece_4 : decode cX8_piece 4 = .ok (.aload_n 1, 1) := by decide +kernel
theorem dX8_piece_5 : decode cX8_piece 5 = .ok (.getfield 29, 3) := by decide +kernel
theorem dX8_piece_8 : decode cX8_piece 8 = .ok (.getfield 52, 3) := by decide +kernel
theorem dX8_piece_11 : decode cX8_piece 11 = .ok (.goto 10, 3) := by decide +kernel
theorem dX8_piece_14 : decode cX8_piece 14 = .ok (.aload_n 2, 1) := by decide +kernel
theorem dX8_piece_15 : decode cX8_piece 15 = .ok (.getfield 55, 3) := by decide +kernel
theorem dX8_piece_18 : decode cX8_piece 18 = .ok (.getfield 52, 3) := by decide +kernel
theorem dX8_piece_21 : decode cX8_piece 21 = .ok (.istore 5, 2) := by decide +kernel
theorem dX8_piece_23 : decode cX8_piece 23 = .ok (.iload 5, 2) := by decide +kernel
theorem dX8_piece_25 : decode cX8_piece 25 = .ok (.bipush 32, 2) := by decide +kernel
theorem dX8_piece_27 : decode cX8_piece 27 = .ok (.if_icmp .ge 33, 3) := by decide +kernel
theorem dX8_piece_30 : decode cX8_piece 30 = .ok (.aload_n 1, 1) := by decide +kernel
theorem dX8_piece_31 : decode cX8_piece 31 = .ok (.iload_n 3, 1) := by decide +kernel
theorem dX8_piece_32 : decode cX8_piece 32 = .ok (.iload 5, 2) := by decide +kernel
theorem dX8_piece_34 : decode cX8_piece 34 = .ok (.aload_n 2, 1) := by decide +kernel
theorem dX8_piece_35 : decode cX8_piece 35 = .ok (.iload 4, 2) := by decide +kernel
theorem dX8_piece_37 : decode cX8_piece 37 = .ok (.invokevirtual 60, 3) := by decide +kernel
theorem dX8_piece_40 : decode cX8_piece 40 = .ok (.ifCond .ne 14, 3) := by decide +kernel
theorem dX8_piece_43 : decode cX8_piece 43 = .ok (.aload_n 0, 1) := by decide +kernel
theorem dX8_piece_44 : decode cX8_piece 44 = .ok (.aload_n 1, 1) := by decide +kernel
theorem dX8_piece_45 : decode cX8_piece 45 = .ok (.iload_n 3, 1) := by decide +kernel
theorem dX8_piece_46 : decode cX8_piece 46 = .ok (.iload 5, 2) := by decide +kernel
theorem dX8_piece_48 : decode cX8_piece 48 = .ok (.invokevirtual 64, 3) := by decide +kernel
theorem dX8_piece_51 : decode cX8_piece 51 = .ok (.ifCond .eq 9, 3) := by decide +kernel
theorem dX8_piece_54 : decode cX8_piece 54 = .ok (.iinc 5 1, 3) := by decide +kernel
theorem dX8_piece_57 : decode cX8_piece 57 = .ok (.goto (-34), 3) := by decide +kernel
theorem dX8_piece_60 : decode cX8_piece 60 = .ok (.iload_n 3, 1) := by decide +kernel
theorem dX8_piece_61 : decode cX8_piece 61 = .ok (.iload 5, 2) := by decide +kernel
theorem dX8_piece_63 : decode cX8_piece 63 = .ok (.invokestatic 68, 3) := by decide +kernel
theorem dX8_piece_66 : decode cX8_piece 66 = .ok (.areturn, 1) := by decide +kernel
def g_X8_piece_23 : Nat → HS → Option Nat → Option Nat → Option Nat → Int32 → Int32 → Int32 → Option (Option Nat × HS)
  | 0, _, _, _, _, _, _, _ => none
  | n + 1, σ, l0, l1, l2, l3, l4, l5 =>
    if 32 ≤ l5 then
      h_bd (f_X4_round σ l3 l5) fun r7 s8 =>
      some (r7, s8)
    else
      h_b1 (h_rcv σ l1 7) fun y13 =>
      h_bd (f_X6_hasOtherRound σ l1 l3 l5 l2 l4) fun r10 s11 =>
      if r10 = 0 then
        h_b1 (h_rcv s11 l0 9) fun y19 =>
        h_bd (f_X8_hasChildRound s11 l0 l1 l3 l5) fun r16 s17 =>
        if r16 = 0 then
          h_bd (f_X4_round s17 l3 l5) fun r22 s23 =>
          some (r22, s23)
        else
          g_X8_piece_23 n s17 l0 l1 l2 l3 l4 (l5 + 1)
      else
        g_X8_piece_23 n s11 l0 l1 l2 l3 l4 (l5 + 1)
def f_X8_piece (σ : HS) (a0 : Option Nat) (a1 : Option Nat) (a2 : Option Nat) (a3 : Int32) (a4 : Int32) : Option (Option Nat × HS) :=
  if a2 = none then
    h_b1 (h_gR σ a1 7 2) fun x25 =>
    h_b1 (h_gI σ x25 5 1) fun x27 =>
    g_X8_piece_23 h_hN σ a0 a1 a2 a3 a4 x27
  else
    h_b1 (h_gR σ a2 1 0) fun x2 =>
    h_b1 (h_gI σ x2 5 1) fun x4 =>
    g_X8_piece_23 h_hN σ a0 a1 a2 a3 a4 x4
set_option maxHeartbeats 4000000 in
set_option maxRecDepth 100000 in
theorem w_X8_piece_23 {p : Program} {l : Launch} {e : Env} {R : Room} {s : State} {m : MethodId} {args : Array Value} {below : List Frame} {meth : Method} {c : Code} {D : va_G} {dA : Nat → ClassId} {bs : Nat} (C : h_C p m c cX8_piece 6 s args RX8 D dA) {σ0 : HS} (B : h_B R s meth σ0 (some (.object RX4)) 3 68) {σ' : HS} {r : Option Nat} : ∀ (n : Nat) (σ : HS) (l0 : Option Nat) (l1 : Option Nat) (l2 : Option Nat) (l3 : Int32) (l4 : Int32) (l5 : Int32), g_X8_piece_23 n σ l0 l1 l2 l3 l4 l5 = some (r, σ') → V p l e R s m args below meth c D dA bs 6 (MQ below (h_Q D dA bs (some (va_rf r)) σ0 σ') args s R.cells R.slots (fun q => bs ≤ q)) σ 23 [(0, va_rf l0), (1, va_rf l1), (2, va_rf l2), (3, .int l3), (4, .int l4), (5, .int l5)] [] := by
  intro n
  induction n with
  | zero =>
    intro σ l0 l1 l2 l3 l4 l5 h
    rw [g_X8_piece_23] at h
    cases h
  | succ n ih =>
    intro σ l0 l1 l2 l3 l4 l5 h
    rw [g_X8_piece_23] at h
    refine V_iload C 5 dX8_piece_23 rfl ?_
    refine V_bipush (v := 32) C dX8_piece_25 (by decide) ?_
    refine V_icmp_ge (tgt := 60) C dX8_piece_27 (by decide) (fun c6 => ?_) (fun c6 => ?_)
    · rw [if_pos c6] at h
      refine V_iload_n C 3 dX8_piece_60 rfl rfl ?_
      refine V_iload C 5 dX8_piece_61 rfl ?_
      obtain ⟨r7, s8, e9, h⟩ := h_bd_some h
      refine V_cS (As := [.int l3, .int l5]) (rest := []) C ms_RX8_68 (m_X4_round l D dA bs e9) rfl rfl (Nat.le_trans h_w0 (by decide)) (h_fr B (by decide)) (h_lo B (by decide)) dX8_piece_63 ?_
      cases h
      exact V_aret C B dX8_piece_66
    · rw [if_neg c6] at h
      refine V_aload_n C 1 dX8_piece_30 rfl rfl ?_
      refine V_iload_n C 3 dX8_piece_31 rfl rfl ?_
      refine V_iload C 5 dX8_piece_32 rfl ?_
      refine V_aload_n C 2 dX8_piece_34 rfl rfl ?_
      refine V_iload C 4 dX8_piece_35 rfl ?_
      obtain ⟨y13, e14, h⟩ := h_b1_some h
      obtain ⟨r10, s11, e12, h⟩ := h_bd_some h
      refine V_cV (As := [.int l3, .int l5, va_rf l2, .int l4]) (rest := []) C mv_RX8_60 (m_X6_hasOtherRound l D dA bs e12) e14 rfl rfl (Nat.le_trans h_w0 (by decide)) (h_fr B (by decide)) (h_lo B (by decide)) dX8_piece_37 ?_
      refine V_if_ne (tgt := 54) C dX8_piece_40 (by decide) (fun c15 => ?_) (fun c15 => ?_)
      · rw [if_neg c15] at h
        refine V_iinc (v := (l5 + 1)) (lv' := [(5, .int (l5 + 1)), (0, va_rf l0), (1, va_rf l1), (2, va_rf l2), (3, .int l3), (4, .int l4)]) C 5 dX8_piece_54 rfl rfl (by decide) rfl ?_
        refine V_goto (tgt := 23) C dX8_piece_57 (by decide) ?_
        exact V_sub [1, 2, 3, 4, 5, 0] rfl (ih s11 l0 l1 l2 l3 l4 (l5 + 1) h)
      · rw [if_pos c15] at h
        refine V_aload_n C 0 dX8_piece_43 rfl rfl ?_
        refine V_aload_n C 1 dX8_piece_44 rfl rfl ?_
        refine V_iload_n C 3 dX8_piece_45 rfl rfl ?_
        refine V_iload C 5 dX8_piece_46 rfl ?_
        obtain ⟨y19, e20, h⟩ := h_b1_some h
        obtain ⟨r16, s17, e18, h⟩ := h_bd_some h
        refine V_cV (As := [va_rf l1, .int l3, .int l5]) (rest := []) C mv_RX8_64 (m_X8_hasChildRound l D dA bs e18) e20 rfl rfl (Nat.le_trans h_w0 (by decide)) (h_fr B (by decide)) (h_lo B (by decide)) dX8_piece_48 ?_
        refine V_if_eq (tgt := 60) C dX8_piece_51 (by decide) (fun c21 => ?_) (fun c21 => ?_)
        · rw [if_pos c21] at h
          refine V_iload_n C 3 dX8_piece_60 rfl rfl ?_
          refine V_iload C 5 dX8_piece_61 rfl ?_
          obtain ⟨r22, s23, e24, h⟩ := h_bd_some h
          refine V_cS (As := [.int l3, .int l5]) (rest := []) C ms_RX8_68 (m_X4_round l D dA bs e24) rfl rfl (Nat.le_trans h_w0 (by decide)) (h_fr B (by decide)) (h_lo B (by decide)) dX8_piece_63 ?_
          cases h
          exact V_aret C B dX8_piece_66
        · rw [if_neg c21] at h
          refine V_iinc (v := (l5 + 1)) (lv' := [(5, .int (l5 + 1)), (0, va_rf l0), (1, va_rf l1), (2, va_rf l2), (3, .int l3), (4, .int l4)]) C 5 dX8_piece_54 rfl rfl (by decide) rfl ?_
          refine V_goto (tgt := 23) C dX8_piece_57 (by decide) ?_
          exact V_sub [1, 2, 3, 4, 5, 0] rfl (ih s17 l0 l1 l2 l3 l4 (l5 + 1) h)
set_option maxHeartbeats 4000000 in
set_option maxRecDepth 100000 in
theorem m_X8_piece (l : Launch) (D : va_G) (dA : Nat → ClassId) (bs : Nat) {σ σ' : HS} {a0 : Option Nat} {a1 : Option Nat} {a2 : Option Nat} {a3 : Int32} {a4 : Int32} {r : Option Nat} (h : f_X8_piece σ a0 a1 a2 a3 a4 = some (r, σ')) : MetC l yX8_piece cX8_piece 6 (some (.object RX4)) 3 68 D dA bs [va_rf a0, va_rf a1, va_rf a2, .int a3, .int a4] (some (va_rf r)) σ σ' := by
  refine MetC.of (by decide) (h_avR (h_avR (h_avR (h_avI (h_avI h_av0))))) (Nat.le_of_ble_eq_true rfl) ?_
  intro p e R s m args below meth c C B hnm
  unfold f_X8_piece at h
  refine V_sub (lv' := [(0, va_rf a0), (1, va_rf a1), (2, va_rf a2), (3, .int a3), (4, .int a4)]) [0, 1, 2, 3, 4] rfl ?_
  refine V_aload_n C 2 dX8_piece_0 rfl rfl ?_
  refine V_ifnonnull (tgt := 14) C dX8_piece_1 (by decide) (fun c1 => ?_) (fun c1 => ?_)
  · rw [if_neg c1] at h
    refine V_aload_n C 2 dX8_piece_14 rfl rfl ?_
    obtain ⟨x2, e3, h⟩ := h_b1_some h
    refine V_getR C fl_RX8_55 dX8_piece_15 e3 ?_
    obtain ⟨x4, e5, h⟩ := h_b1_some h
    refine V_getI C fl_RX8_52 dX8_piece_18 e5 ?_
    refine V_istore (lv' := [(5, .int x4), (0, va_rf a0), (1, va_rf a1), (2, va_rf a2), (3, .int a3), (4, .int a4)]) C dX8_piece_21 (by decide) rfl ?_
    exact V_sub [1, 2, 3, 4, 5, 0] rfl (w_X8_piece_23 C B h_hN σ a0 a1 a2 a3 a4 x4 h)
  · rw [if_pos c1] at h
    refine V_aload_n C 1 dX8_piece_4 rfl rfl ?_
    obtain ⟨x25, e26, h⟩ := h_b1_some h
    refine V_getR C fl_RX8_29 dX8_piece_5 e26 ?_
    obtain ⟨x27, e28, h⟩ := h_b1_some h
    refine V_getI C fl_RX8_52 dX8_piece_8 e28 ?_
    refine V_goto (tgt := 21) C dX8_piece_11 (by decide) ?_
    refine V_istore (lv' := [(5, .int x27), (0, va_rf a0), (1, va_rf a1), (2, va_rf a2), (3, .int a3), (4, .int a4)]) C dX8_piece_21 (by decide) rfl ?_
    exact V_sub [1, 2, 3, 4, 5, 0] rfl (w_X8_piece_23 C B h_hN σ a0 a1 a2 a3 a4 x27 h)
/-! X8_longestEntry -/
theorem dX8_longestEntry_0 : decode cX8_longestEntry 0 = .ok (.aconst_null, 1) := by decide +kernel
theorem dX8_longestEntry_1 : decode cX8_longestEntry 1 = .ok (.astore_n 3, 1) := by decide +kernel
theorem dX8_longestEntry_2 : decode cX8_longestEntry 2 = .ok (.iconst 0, 1) := by decide +kernel
theorem dX8_longestEntry_3 : decode cX8_longestEntry 3 = .ok (.istore 4, 2) := by decide +kernel
theorem dX8_longestEntry_5 : decode cX8_longestEntry 5 = .ok (.iload 4, 2) := by decide +kernel
theorem dX8_longestEntry_7 : decode cX8_longestEntry 7 = .ok (.bipush 8, 2) := by decide +kernel
theorem dX8_longestEntry_9 : decode cX8_longestEntry 9 = .ok (.if_icmp .ge 67, 3) := by decide +kernel
theorem dX8_longestEntry_12 : decode cX8_longestEntry 12 = .ok (.aload_n 0, 1) := by decide +kernel
theorem dX8_longestEntry_13 : decode cX8_longestEntry 13 = .ok (.getfield 11, 3) := by decide +kernel
theorem dX8_longestEntry_16 : decode cX8_longestEntry 16 = .ok (.iload 4, 2) := by decide +kernel
theorem dX8_longestEntry_18 : decode cX8_longestEntry 18 = .ok (.aaload, 1) := by decide +kernel
theorem dX8_longestEntry_19 : decode cX8_longestEntry 19 = .ok (.ifnonnull 7, 3) := by decide +kernel
theorem dX8_longestEntry_22 : decode cX8_longestEntry 22 = .ok (.aconst_null, 1) := by decide +kernel
theorem dX8_longestEntry_23 : decode cX8_longestEntry 23 = .ok (.goto 15, 3) := by decide +kernel
theorem dX8_longestEntry_26 : decode cX8_longestEntry 26 = .ok (.aload_n 0, 1) := by decide +kernel
theorem dX8_longestEntry_27 : decode cX8_longestEntry 27 = .ok (.getfield 11, 3) := by decide +kernel
theorem dX8_longestEntry_30 : decode cX8_longestEntry 30 = .ok (.iload 4, 2) := by decide +kernel
theorem dX8_longestEntry_32 : decode cX8_longestEntry 32 = .ok (.aaload, 1) := by decide +kernel
theorem dX8_longestEntry_33 : decode cX8_longestEntry 33 = .ok (.iload_n 1, 1) := by decide +kernel
theorem dX8_longestEntry_34 : decode cX8_longestEntry 34 = .ok (.iload_n 2, 1) := by decide +kernel
theorem dX8_longestEntry_35 : decode cX8_longestEntry 35 = .ok (.invokevirtual 72, 3) := by decide +kernel
theorem dX8_longestEntry_38 : decode cX8_longestEntry 38 = .ok (.astore 5, 2) := by decide +kernel
theorem dX8_longestEntry_40 : decode cX8_longestEntry 40 = .ok (.aload 5, 2) := by decide +kernel
theorem dX8_longestEntry_42 : decode cX8_longestEntry 42 = .ok (.ifnull 28, 3) := by decide +kernel
theorem dX8_longestEntry_45 : decode cX8_longestEntry 45 = .ok (.aload_n 3, 1) := by decide +kernel
theorem dX8_longestEntry_46 : decode cX8_longestEntry 46 = .ok (.ifnull 21, 3) := by decide +kernel
theorem dX8_longestEntry_49 : decode cX8_longestEntry 49 = .ok (.aload 5, 2) := by decide +kernel
theorem dX8_longestEntry_51 : decode cX8_longestEntry 51 = .ok (.getfield 55, 3) := by decide +kernel
theorem dX8_longestEntry_54 : decode cX8_longestEntry 54 = .ok (.getfield 52, 3) := by decide +kernel
theorem dX8_longestEntry_57 : decode cX8_longestEntry 57 = .ok (.aload_n 3, 1) := by decide +kernel
theorem dX8_longestEntry_58 : decode cX8_longestEntry 58 = .ok (.getfield 55, 3) := by decide +kernel
theorem dX8_longestEntry_61 : decode cX8_longestEntry 61 = .ok (.getfield 52, 3) := by decide +kernel
theorem dX8_longestEntry_64 : decode cX8_longestEntry 64 = .ok (.if_icmp .le 6, 3) := by decide +kernel
theorem dX8_longestEntry_67 : decode cX8_longestEntry 67 = .ok (.aload 5, 2) := by decide +kernel
theorem dX8_longestEntry_69 : decode cX8_longestEntry 69 = .ok (.astore_n 3, 1) := by decide +kernel
theorem dX8_longestEntry_70 : decode cX8_longestEntry 70 = .ok (.iinc 4 1, 3) := by decide +kernel
theorem dX8_longestEntry_73 : decode cX8_longestEntry 73 = .ok (.goto (-68), 3) := by decide +kernel
theorem dX8_longestEntry_76 : decode cX8_longestEntry 76 = .ok (.aload_n 3, 1) := by decide +kernel
theorem dX8_longestEntry_77 : decode cX8_longestEntry 77 = .ok (.areturn, 1) := by decide +kernel
def g_X8_longestEntry_5 : Nat → HS → Option Nat → Int32 → Int32 → Option Nat → Int32 → Option (Option Nat × HS)
  | 0, _, _, _, _, _, _ => none
  | n + 1, σ, l0, l1, l2, l3, l4 =>
    if 8 ≤ l4 then
      some (l3, σ)
    else
      h_b1 (h_gR σ l0 9 0) fun x2 =>
      h_b1 (h_aR σ x2 107 l4) fun x4 =>
      if x4 = none then
        if (none : Option Nat) = none then
          g_X8_longestEntry_5 n σ l0 l1 l2 l3 (l4 + 1)
        else
          if l3 = none then
            g_X8_longestEntry_5 n σ l0 l1 l2 (none : Option Nat) (l4 + 1)
          else
            h_b1 (h_gR σ (none : Option Nat) 1 0) fun x29 =>
            h_b1 (h_gI σ x29 5 1) fun x31 =>
            h_b1 (h_gR σ l3 1 0) fun x33 =>
            h_b1 (h_gI σ x33 5 1) fun x35 =>
            if x31 ≤ x35 then
              g_X8_longestEntry_5 n σ l0 l1 l2 l3 (l4 + 1)
            else
              g_X8_longestEntry_5 n σ l0 l1 l2 (none : Option Nat) (l4 + 1)
      else
        h_b1 (h_gR σ l0 9 0) fun x7 =>
        h_b1 (h_aR σ x7 107 l4) fun x9 =>
        h_b1 (h_rcv σ x9 7) fun y14 =>
        h_bd (f_X6_best σ x9 l1 l2) fun r11 s12 =>
        if r11 = none then
          g_X8_longestEntry_5 n s12 l0 l1 l2 l3 (l4 + 1)
        else
          if l3 = none then
            g_X8_longestEntry_5 n s12 l0 l1 l2 r11 (l4 + 1)
          else
            h_b1 (h_gR s12 r11 1 0) fun x18 =>
            h_b1 (h_gI s12 x18 5 1) fun x20 =>
            h_b1 (h_gR s12 l3 1 0) fun x22 =>
            h_b1 (h_gI s12 x22 5 1) fun x24 =>
            if x20 ≤ x24 then
              g_X8_longestEntry_5 n s12 l0 l1 l2 l3 (l4 + 1)
            else
              g_X8_longestEntry_5 n s12 l0 l1 l2 r11 (l4 + 1)
def f_X8_longestEntry (σ : HS) (a0 : Option Nat) (a1 : Int32) (a2 : Int32) : Option (Option Nat × HS) :=
  g_X8_longestEntry_5 h_hN σ a0 a1 a2 (none : Option Nat) 0
set_option maxHeartbeats 4000000 in
set_option maxRecDepth 100000 in
theorem w_X8_longestEntry_5 {p : Program} {l : Launch} {e : Env} {R : Room} {s : State} {m : MethodId} {args : Array Value} {below : List Frame} {meth : Method} {c : Code} {D : va_G} {dA : Nat → ClassId} {bs : Nat} (C : h_C p m c cX8_longestEntry 6 s args RX8 D dA) {σ0 : HS} (B : h_B R s meth σ0 (some (.object RX0)) 3 67) {σ' : HS} {r : Option Nat} : ∀ (n : Nat) (σ : HS) (l0 : Option Nat) (l1 : Int32) (l2 : Int32) (l3 : Option Nat) (l4 : Int32), g_X8_longestEntry_5 n σ l0 l1 l2 l3 l4 = some (r, σ') → V p l e R s m args below meth c D dA bs 6 (MQ below (h_Q D dA bs (some (va_rf r)) σ0 σ') args s R.cells R.slots (fun q => bs ≤ q)) σ 5 [(0, va_rf l0), (1, .int l1), (2, .int l2), (3, va_rf l3), (4, .int l4)] [] := by
  intro n
  induction n with
  | zero =>
    intro σ l0 l1 l2 l3 l4 h
    rw [g_X8_longestEntry_5] at h
    cases h
  | succ n ih =>
    intro σ l0 l1 l2 l3 l4 h
    rw [g_X8_longestEntry_5] at h
    refine V_iload C 4 dX8_longestEntry_5 rfl ?_
    refine V_bipush (v := 8) C dX8_longestEntry_7 (by decide) ?_
    refine V_icmp_ge (tgt := 76) C dX8_longestEntry_9 (by decide) (fun c1 => ?_) (fun c1 => ?_)
    · rw [if_pos c1] at h
      refine V_aload_n C 3 dX8_longestEntry_76 rfl rfl ?_
      cases h
      exact V_aret C B dX8_longestEntry_77
    · rw [if_neg c1] at h
      refine V_aload_n C 0 dX8_longestEntry_12 rfl rfl ?_
      obtain ⟨x2, e3, h⟩ := h_b1_some h
      refine V_getR C fl_RX8_11 dX8_longestEntry_13 e3 ?_
      refine V_iload C 4 dX8_longestEntry_16 rfl ?_
      obtain ⟨x4, e5, h⟩ := h_b1_some h
      refine V_aald C h_at107 dX8_longestEntry_18 e5 ?_
      refine V_ifnonnull (tgt := 26) C dX8_longestEntry_19 (by decide) (fun c6 => ?_) (fun c6 => ?_)
      · rw [if_neg c6] at h
        refine V_aload_n C 0 dX8_longestEntry_26 rfl rfl ?_
        obtain ⟨x7, e8, h⟩ := h_b1_some h
        refine V_getR C fl_RX8_11 dX8_longestEntry_27 e8 ?_
        refine V_iload C 4 dX8_longestEntry_30 rfl ?_
        obtain ⟨x9, e10, h⟩ := h_b1_some h
        refine V_aald C h_at107 dX8_longestEntry_32 e10 ?_
        refine V_iload_n C 1 dX8_longestEntry_33 rfl rfl ?_
        refine V_iload_n C 2 dX8_longestEntry_34 rfl rfl ?_
        obtain ⟨y14, e15, h⟩ := h_b1_some h
        obtain ⟨r11, s12, e13, h⟩ := h_bd_some h
        refine V_cV (As := [.int l1, .int l2]) (rest := []) C mv_RX8_72 (m_X6_best l D dA bs e13) e15 rfl rfl (Nat.le_trans h_w0 (by decide)) (h_fr B (by decide)) (h_lo B (by decide)) dX8_longestEntry_35 ?_
        refine V_astore (lv' := [(5, va_rf r11), (0, va_rf l0), (1, .int l1), (2, .int l2), (3, va_rf l3), (4, .int l4)]) C dX8_longestEntry_38 (by decide) rfl ?_
        refine V_aload C 0 dX8_longestEntry_40 rfl ?_
        refine V_ifnull (tgt := 70) C dX8_longestEntry_42 (by decide) (fun c16 => ?_) (fun c16 => ?_)
        · rw [if_pos c16] at h
          refine V_iinc (v := (l4 + 1)) (lv' := [(4, .int (l4 + 1)), (5, va_rf r11), (0, va_rf l0), (1, .int l1), (2, .int l2), (3, va_rf l3)]) C 5 dX8_longestEntry_70 rfl rfl (by decide) rfl ?_
          refine V_goto (tgt := 5) C dX8_longestEntry_73 (by decide) ?_
          exact V_sub [2, 3, 4, 5, 0] rfl (ih s12 l0 l1 l2 l3 (l4 + 1) h)
        · rw [if_neg c16] at h
          refine V_aload_n C 4 dX8_longestEntry_45 rfl rfl ?_
          refine V_ifnull (tgt := 67) C dX8_longestEntry_46 (by decide) (fun c17 => ?_) (fun c17 => ?_)
          · rw [if_pos c17] at h
            refine V_aload C 0 dX8_longestEntry_67 rfl ?_
            refine V_astore_n (lv' := [(3, va_rf r11), (5, va_rf r11), (0, va_rf l0), (1, .int l1), (2, .int l2), (4, .int l4)]) C dX8_longestEntry_69 rfl (by decide) rfl ?_
            refine V_iinc (v := (l4 + 1)) (lv' := [(4, .int (l4 + 1)), (3, va_rf r11), (5, va_rf r11), (0, va_rf l0), (1, .int l1), (2, .int l2)]) C 5 dX8_longestEntry_70 rfl rfl (by decide) rfl ?_
            refine V_goto (tgt := 5) C dX8_longestEntry_73 (by decide) ?_
            exact V_sub [3, 4, 5, 1, 0] rfl (ih s12 l0 l1 l2 r11 (l4 + 1) h)
          · rw [if_neg c17] at h
            refine V_aload C 0 dX8_longestEntry_49 rfl ?_
            obtain ⟨x18, e19, h⟩ := h_b1_some h
            refine V_getR C fl_RX8_55 dX8_longestEntry_51 e19 ?_
            obtain ⟨x20, e21, h⟩ := h_b1_some h
            refine V_getI C fl_RX8_52 dX8_longestEntry_54 e21 ?_
            refine V_aload_n C 4 dX8_longestEntry_57 rfl rfl ?_
            obtain ⟨x22, e23, h⟩ := h_b1_some h
            refine V_getR C fl_RX8_55 dX8_longestEntry_58 e23 ?_
            obtain ⟨x24, e25, h⟩ := h_b1_some h
            refine V_getI C fl_RX8_52 dX8_longestEntry_61 e25 ?_
            refine V_icmp_le (tgt := 70) C dX8_longestEntry_64 (by decide) (fun c26 => ?_) (fun c26 => ?_)
            · rw [if_pos c26] at h
              refine V_iinc (v := (l4 + 1)) (lv' := [(4, .int (l4 + 1)), (5, va_rf r11), (0, va_rf l0), (1, .int l1), (2, .int l2), (3, va_rf l3)]) C 5 dX8_longestEntry_70 rfl rfl (by decide) rfl ?_
              refine V_goto (tgt := 5) C dX8_longestEntry_73 (by decide) ?_
              exact V_sub [2, 3, 4, 5, 0] rfl (ih s12 l0 l1 l2 l3 (l4 + 1) h)
            · rw [if_neg c26] at h
              refine V_aload C 0 dX8_longestEntry_67 rfl ?_
              refine V_astore_n (lv' := [(3, va_rf r11), (5, va_rf r11), (0, va_rf l0), (1, .int l1), (2, .int l2), (4, .int l4)]) C dX8_longestEntry_69 rfl (by decide) rfl ?_
              refine V_iinc (v := (l4 + 1)) (lv' := [(4, .int (l4 + 1)), (3, va_rf r11), (5, va_rf r11), (0, va_rf l0), (1, .int l1), (2, .int l2)]) C 5 dX8_longestEntry_70 rfl rfl (by decide) rfl ?_
              refine V_goto (tgt := 5) C dX8_longestEntry_73 (by decide) ?_
              exact V_sub [3, 4, 5, 1, 0] rfl (ih s12 l0 l1 l2 r11 (l4 + 1) h)
      · rw [if_pos c6] at h
        refine V_null C dX8_longestEntry_22 ?_
        refine V_goto (tgt := 38) C dX8_longestEntry_23 (by decide) ?_
        refine V_astore (lv' := [(5, va_rf (none : Option Nat)), (0, va_rf l0), (1, .int l1), (2, .int l2), (3, va_rf l3), (4, .int l4)]) C dX8_longestEntry_38 (by decide) rfl ?_
        refine V_aload C 0 dX8_longestEntry_40 rfl ?_
        refine V_ifnull (tgt := 70) C dX8_longestEntry_42 (by decide) (fun c27 => ?_) (fun c27 => ?_)
        · rw [if_pos c27] at h
          refine V_iinc (v := (l4 + 1)) (lv' := [(4, .int (l4 + 1)), (5, va_rf (none : Option Nat)), (0, va_rf l0), (1, .int l1), (2, .int l2), (3, va_rf l3)]) C 5 dX8_longestEntry_70 rfl rfl (by decide) rfl ?_
          refine V_goto (tgt := 5) C dX8_longestEntry_73 (by decide) ?_
          exact V_sub [2, 3, 4, 5, 0] rfl (ih σ l0 l1 l2 l3 (l4 + 1) h)
        · rw [if_neg c27] at h
          refine V_aload_n C 4 dX8_longestEntry_45 rfl rfl ?_
          refine V_ifnull (tgt := 67) C dX8_longestEntry_46 (by decide) (fun c28 => ?_) (fun c28 => ?_)
          · rw [if_pos c28] at h
            refine V_aload C 0 dX8_longestEntry_67 rfl ?_
            refine V_astore_n (lv' := [(3, va_rf (none : Option Nat)), (5, va_rf (none : Option Nat)), (0, va_rf l0), (1, .int l1), (2, .int l2), (4, .int l4)]) C dX8_longestEntry_69 rfl (by decide) rfl ?_
            refine V_iinc (v := (l4 + 1)) (lv' := [(4, .int (l4 + 1)), (3, va_rf (none : Option Nat)), (5, va_rf (none : Option Nat)), (0, va_rf l0), (1, .int l1), (2, .int l2)]) C 5 dX8_longestEntry_70 rfl rfl (by decide) rfl ?_
            refine V_goto (tgt := 5) C dX8_longestEntry_73 (by decide) ?_
            exact V_sub [3, 4, 5, 1, 0] rfl (ih σ l0 l1 l2 (none : Option Nat) (l4 + 1) h)
          · rw [if_neg c28] at h
            refine V_aload C 0 dX8_longestEntry_49 rfl ?_
            obtain ⟨x29, e30, h⟩ := h_b1_some h
            refine V_getR C fl_RX8_55 dX8_longestEntry_51 e30 ?_
            obtain ⟨x31, e32, h⟩ := h_b1_some h
            refine V_getI C fl_RX8_52 dX8_longestEntry_54 e32 ?_
            refine V_aload_n C 4 dX8_longestEntry_57 rfl rfl ?_
            obtain ⟨x33, e34, h⟩ := h_b1_some h
            refine V_getR C fl_RX8_55 dX8_longestEntry_58 e34 ?_
            obtain ⟨x35, e36, h⟩ := h_b1_some h
            refine V_getI C fl_RX8_52 dX8_longestEntry_61 e36 ?_
            refine V_icmp_le (tgt := 70) C dX8_longestEntry_64 (by decide) (fun c37 => ?_) (fun c37 => ?_)
            · rw [if_pos c37] at h
              refine V_iinc (v := (l4 + 1)) (lv' := [(4, .int (l4 + 1)), (5, va_rf (none : Option Nat)), (0, va_rf l0), (1, .int l1), (2, .int l2), (3, va_rf l3)]) C 5 dX8_longestEntry_70 rfl rfl (by decide) rfl ?_
              refine V_goto (tgt := 5) C dX8_longestEntry_73 (by decide) ?_
              exact V_sub [2, 3, 4, 5, 0] rfl (ih σ l0 l1 l2 l3 (l4 + 1) h)
            · rw [if_neg c37] at h
              refine V_aload C 0 dX8_longestEntry_67 rfl ?_
              refine V_astore_n (lv' := [(3, va_rf (none : Option Nat)), (5, va_rf (none : Option Nat)), (0, va_rf l0), (1, .int l1), (2, .int l2), (4, .int l4)]) C dX8_longestEntry_69 rfl (by decide) rfl ?_
              refine V_iinc (v := (l4 + 1)) (lv' := [(4, .int (l4 + 1)), (3, va_rf (none : Option Nat)), (5, va_rf (none : Option Nat)), (0, va_rf l0), (1, .int l1), (2, .int l2)]) C 5 dX8_longestEntry_70 rfl rfl (by decide) rfl ?_
              refine V_goto (tgt := 5) C dX8_longestEntry_73 (by decide) ?_
              exact V_sub [3, 4, 5, 1, 0] rfl (ih σ l0 l1 l2 (none : Option Nat) (l4 + 1) h)
set_option maxHeartbeats 4000000 in
set_option maxRecDepth 100000 in
theorem m_X8_longestEntry (l : Launch) (D : va_G) (dA : Nat → ClassId) (bs : Nat) {σ σ' : HS} {a0 : Option Nat} {a1 : Int32} {a2 : Int32} {r : Option Nat} (h : f_X8_longestEntry σ a0 a1 a2 = some (r, σ')) : MetC l yX8_longestEntry cX8_longestEntry 6 (some (.object RX0)) 3 67 D dA bs [va_rf a0, .int a1, .int a2] (some (va_rf r)) σ σ' := by
  refine MetC.of (by decide) (h_avR (h_avI (h_avI h_av0))) (Nat.le_of_ble_eq_true rfl) ?_
  intro p e R s m args below meth c C B hnm
  unfold f_X8_longestEntry at h
  refine V_sub (lv' := [(0, va_rf a0), (1, .int a1), (2, .int a2)]) [0, 1, 2] rfl ?_
  refine V_null C dX8_longestEntry_0 ?_
  refine V_astore_n (lv' := [(3, va_rf (none : Option Nat)), (0, va_rf a0), (1, .int a1), (2, .int a2)]) C dX8_longestEntry_1 rfl (by decide) rfl ?_
  refine V_iconst (v := 0) C dX8_longestEntry_2 (by decide) ?_
  refine V_istore (lv' := [(4, .int 0), (3, va_rf (none : Option Nat)), (0, va_rf a0), (1, .int a1), (2, .int a2)]) C dX8_longestEntry_3 (by decide) rfl ?_
  exact V_sub [2, 3, 4, 1, 0] rfl (w_X8_longestEntry_5 C B h_hN σ a0 a1 a2 (none : Option Nat) 0 h)
/-! X8_countEntries -/
theorem dX8_countEntries_0 : decode cX8_countEntries 0 = .ok (.iconst 0, 1) := by decide +kernel
theorem dX8_countEntries_1 : decode cX8_countEntries 1 = .ok (.istore_n 2, 1) := by decide +kernel
theorem dX8_countEntries_2 : decode cX8_countEntries 2 = .ok (.iconst 0, 1) := by decide +kernel
theorem dX8_countEntries_3 : decode cX8_countEntries 3 = .ok (.istore_n 3, 1) := by decide +kernel
theorem dX8_countEntries_4 : decode cX8_countEntries 4 = .ok (.iload_n 3, 1) := by decide +kernel
theorem dX8_countEntries_5 : decode cX8_countEntries 5 = .ok (.bipush 8, 2) := by decide +kernel
theorem dX8_countEntries_7 : decode cX8_countEntries 7 = .ok (.if_icmp .ge 31, 3) := by decide +kernel
theorem dX8_countEntries_10 : decode cX8_countEntries 10 = .ok (.aload_n 0, 1) := by decide +kernel
theorem dX8_countEntries_11 : decode cX8_countEntries 11 = .ok (.getfield 11, 3) := by decide +kernel
theorem dX8_countEntries_14 : decode cX8_countEntries 14 = .ok (.iload_n 3, 1) := by decide +kernel
theorem dX8_countEntries_15 : decode cX8_countEntries 15 = .ok (.aaload, 1) := by decide +kernel
theorem dX8_countEntries_16 : decode cX8_countEntries 16 = .ok (.ifnull 16, 3) := by decide +kernel
theorem dX8_countEntries_19 : decode cX8_countEntries 19 = .ok (.iload_n 2, 1) := by decide +kernel
theorem dX8_countEntries_20 : decode cX8_countEntries 20 = .ok (.aload_n 0, 1) := by decide +kernel
theorem dX8_countEntries_21 : decode cX8_countEntries 21 = .ok (.getfield 11, 3) := by decide +kernel
theorem dX8_countEntries_24 : decode cX8_countEntries 24 = .ok (.iload_n 3, 1) := by decide +kernel
theorem dX8_countEntries_25 : decode cX8_countEntries 25 = .ok (.aaload, 1) := by decide +kernel
theorem dX8_countEntries_26 : decode cX8_countEntries 26 = .ok (.iload_n 1, 1) := by decide +kernel
theorem dX8_countEntries_27 : decode cX8_countEntries 27 = .ok (.invokevirtual 76, 3) := by decide +kernel
theorem dX8_countEntries_30 : decode cX8_countEntries 30 = .ok (.iadd, 1) := by decide +kernel
theorem dX8_countEntries_31 : decode cX8_countEntries 31 = .ok (.istore_n 2, 1) := by decide +kernel
theorem dX8_countEntries_32 : decode cX8_countEntries 32 = .ok (.iinc 3 1, 3) := by decide +kernel
theorem dX8_countEntries_35 : decode cX8_countEntries 35 = .ok (.goto (-31), 3) := by decide +kernel
theorem dX8_countEntries_38 : decode cX8_countEntries 38 = .ok (.iload_n 2, 1) := by decide +kernel
theorem dX8_countEntries_39 : decode cX8_countEntries 39 = .ok (.ireturn, 1) := by decide +kernel
def g_X8_countEntries_4 : Nat → HS → Option Nat → Int32 → Int32 → Int32 → Option (Int32 × HS)
  | 0, _, _, _, _, _ => none
  | n + 1, σ, l0, l1, l2, l3 =>
    if 8 ≤ l3 then
      some (l2, σ)
    else
      h_b1 (h_gR σ l0 9 0) fun x2 =>
      h_b1 (h_aR σ x2 107 l3) fun x4 =>
      if x4 = none then
        g_X8_countEntries_4 n σ l0 l1 l2 (l3 + 1)
      else
        h_b1 (h_gR σ l0 9 0) fun x7 =>
        h_b1 (h_aR σ x7 107 l3) fun x9 =>
        h_b1 (h_rcv σ x9 7) fun y14 =>
        h_bd (f_X6_countEntries σ x9 l1) fun r11 s12 =>
        g_X8_countEntries_4 n s12 l0 l1 (l2 + r11) (l3 + 1)
def f_X8_countEntries (σ : HS) (a0 : Option Nat) (a1 : Int32) : Option (Int32 × HS) :=
  g_X8_countEntries_4 h_hN σ a0 a1 0 0
set_option maxHeartbeats 4000000 in
set_option maxRecDepth 100000 in
theorem w_X8_countEntries_4 {p : Program} {l : Launch} {e : Env} {R : Room} {s : State} {m : MethodId} {args : Array Value} {below : List Frame} {meth : Method} {c : Code} {D : va_G} {dA : Nat → ClassId} {bs : Nat} (C : h_C p m c cX8_countEntries 4 s args RX8 D dA) {σ0 : HS} (B : h_B R s meth σ0 (some .int) 3 66) {σ' : HS} {r : Int32} : ∀ (n : Nat) (σ : HS) (l0 : Option Nat) (l1 : Int32) (l2 : Int32) (l3 : Int32), g_X8_countEntries_4 n σ l0 l1 l2 l3 = some (r, σ') → V p l e R s m args below meth c D dA bs 4 (MQ below (h_Q D dA bs (some (.int r)) σ0 σ') args s R.cells R.slots (fun q => bs ≤ q)) σ 4 [(0, va_rf l0), (1, .int l1), (2, .int l2), (3, .int l3)] [] := by
  intro n
  induction n with
  | zero =>
    intro σ l0 l1 l2 l3 h
    rw [g_X8_countEntries_4] at h
    cases h
  | succ n ih =>
    intro σ l0 l1 l2 l3 h
    rw [g_X8_countEntries_4] at h
    refine V_iload_n C 3 dX8_countEntries_4 rfl rfl ?_
    refine V_bipush (v := 8) C dX8_countEntries_5 (by decide) ?_
    refine V_icmp_ge (tgt := 38) C dX8_countEntries_7 (by decide) (fun c1 => ?_) (fun c1 => ?_)
    · rw [if_pos c1] at h
      refine V_iload_n C 2 dX8_countEntries_38 rfl rfl ?_
      cases h
      exact V_iret C B dX8_countEntries_39
    · rw [if_neg c1] at h
      refine V_aload_n C 0 dX8_countEntries_10 rfl rfl ?_
      obtain ⟨x2, e3, h⟩ := h_b1_some h
      refine V_getR C fl_RX8_11 dX8_countEntries_11 e3 ?_
      refine V_iload_n C 3 dX8_countEntries_14 rfl rfl ?_
      obtain ⟨x4, e5, h⟩ := h_b1_some h
      refine V_aald C h_at107 dX8_countEntries_15 e5 ?_
      refine V_ifnull (tgt := 32) C dX8_countEntries_16 (by decide) (fun c6 => ?_) (fun c6 => ?_)
      · rw [if_pos c6] at h
        refine V_iinc (v := (l3 + 1)) (lv' := [(3, .int (l3 + 1)), (0, va_rf l0), (1, .int l1), (2, .int l2)]) C 3 dX8_countEntries_32 rfl rfl (by decide) rfl ?_
        refine V_goto (tgt := 4) C dX8_countEntries_35 (by decide) ?_
        exact V_sub [1, 2, 3, 0] rfl (ih σ l0 l1 l2 (l3 + 1) h)
      · rw [if_neg c6] at h
        refine V_iload_n C 2 dX8_countEntries_19 rfl rfl ?_
        refine V_aload_n C 0 dX8_countEntries_20 rfl rfl ?_
        obtain ⟨x7, e8, h⟩ := h_b1_some h
        refine V_getR C fl_RX8_11 dX8_countEntries_21 e8 ?_
        refine V_iload_n C 3 dX8_countEntries_24 rfl rfl ?_
        obtain ⟨x9, e10, h⟩ := h_b1_some h
        refine V_aald C h_at107 dX8_countEntries_25 e10 ?_
        refine V_iload_n C 1 dX8_countEntries_26 rfl rfl ?_
        obtain ⟨y14, e15, h⟩ := h_b1_some h
        obtain ⟨r11, s12, e13, h⟩ := h_bd_some h
        refine V_cV (As := [.int l1]) (rest := [.int l2]) C mv_RX8_76 (m_X6_countEntries l D dA bs e13) e15 rfl rfl (Nat.le_trans (h_wI h_w0) (by decide)) (h_fr B (by decide)) (h_lo B (by decide)) dX8_countEntries_27 ?_
        refine V_iadd C dX8_countEntries_30 ?_
        refine V_istore_n (lv' := [(2, .int (l2 + r11)), (0, va_rf l0), (1, .int l1), (3, .int l3)]) C dX8_countEntries_31 rfl (by decide) rfl ?_
        refine V_iinc (v := (l3 + 1)) (lv' := [(3, .int (l3 + 1)), (2, .int (l2 + r11)), (0, va_rf l0), (1, .int l1)]) C 3 dX8_countEntries_32 rfl rfl (by decide) rfl ?_
        refine V_goto (tgt := 4) C dX8_countEntries_35 (by decide) ?_
        exact V_sub [2, 3, 1, 0] rfl (ih s12 l0 l1 (l2 + r11) (l3 + 1) h)
set_option maxHeartbeats 4000000 in
set_option maxRecDepth 100000 in
theorem m_X8_countEntries (l : Launch) (D : va_G) (dA : Nat → ClassId) (bs : Nat) {σ σ' : HS} {a0 : Option Nat} {a1 : Int32} {r : Int32} (h : f_X8_countEntries σ a0 a1 = some (r, σ')) : MetC l yX8_countEntries cX8_countEntries 4 (some .int) 3 66 D dA bs [va_rf a0, .int a1] (some (.int r)) σ σ' := by
  refine MetC.of (by decide) (h_avR (h_avI h_av0)) (Nat.le_of_ble_eq_true rfl) ?_
  intro p e R s m args below meth c C B hnm
  unfold f_X8_countEntries at h
  refine V_sub (lv' := [(0, va_rf a0), (1, .int a1)]) [0, 1] rfl ?_
  refine V_iconst (v := 0) C dX8_countEntries_0 (by decide) ?_
  refine V_istore_n (lv' := [(2, .int 0), (0, va_rf a0), (1, .int a1)]) C dX8_countEntries_1 rfl (by decide) rfl ?_
  refine V_iconst (v := 0) C dX8_countEntries_2 (by decide) ?_
  refine V_istore_n (lv' := [(3, .int 0), (2, .int 0), (0, va_rf a0), (1, .int a1)]) C dX8_countEntries_3 rfl (by decide) rfl ?_
  exact V_sub [2, 3, 1, 0] rfl (w_X8_countEntries_4 C B h_hN σ a0 a1 0 0 h)
/-! X9_init -/
theorem dX9_init_0 : decode cX9_init 0 = .ok (.aload_n 0, 1) := by decide +kernel
theorem dX9_init_1 : decode cX9_init 1 = .ok (.invokespecial 1, 3) := by decide +kernel
theorem dX9_init_4 : decode cX9_init 4 = .ok (.aload_n 0, 1) := by decide +kernel
theorem dX9_init_5 : decode cX9_init 5 = .ok (.new 7, 3) := by decide +kernel
theorem dX9_init_8 : decode cX9_init 8 = .ok (.dup, 1) := by decide +kernel
theorem dX9_init_9 : decode cX9_init 9 = .ok (.invokespecial 9, 3) := by decide +kernel
theorem dX9_init_12 : decode cX9_init 12 = .ok (.putfield 10, 3) := by decide +kernel
theorem dX9_init_15 : decode cX9_init 15 = .ok (.aload_n 0, 1) := by decide +kernel
theorem dX9_init_16 : decode cX9_init 16 = .ok (.bipush 8, 2) := by decide +kernel
theorem dX9_init_18 : decode cX9_init 18 = .ok (.anewarray 16, 3) := by decide +kernel
theorem dX9_init_21 : decode cX9_init 21 = .ok (.putfield 18, 3) := by decide +kernel
theorem dX9_init_24 : decode cX9_init 24 = .ok (.aload_n 0, 1) := by decide +kernel
theorem dX9_init_25 : decode cX9_init 25 = .ok (.bipush 16, 2) := by decide +kernel
theorem dX9_init_27 : decode cX9_init 27 = .ok (.newarray .int, 2) := by decide +kernel
theorem dX9_init_29 : decode cX9_init 29 = .ok (.putfield 22, 3) := by decide +kernel
theorem dX9_init_32 : decode cX9_init 32 = .ok (.iconst 0, 1) := by decide +kernel
theorem dX9_init_33 : decode cX9_init 33 = .ok (.istore_n 1, 1) := by decide +kernel
theorem dX9_init_34 : decode cX9_init 34 = .ok (.iload_n 1, 1) := by decide +kernel
theorem dX9_init_35 : decode cX9_init 35 = .ok (.bipush 16, 2) := by decide +kernel
theorem dX9_init_37 : decode cX9_init 37 = .ok (.if_icmp .ge 16, 3) := by decide +kernel
theorem dX9_init_40 : decode cX9_init 40 = .ok (.aload_n 0, 1) := by decide +kernel
theorem dX9_init_41 : decode cX9_init 41 = .ok (.getfield 22, 3) := by decide +kernel
theorem dX9_init_44 : decode cX9_init 44 = .ok (.iload_n 1, 1) := by decide +kernel
theorem dX9_init_45 : decode cX9_init 45 = .ok (.iconst (-1), 1) := by decide +kernel
theorem dX9_init_46 : decode cX9_init 46 = .ok (.iastore, 1) := by decide +kernel
theorem dX9_init_47 : decode cX9_init 47 = .ok (.iinc 1 1, 3) := by decide +kernel
theorem dX9_init_50 : decode cX9_init 50 = .ok (.goto (-16), 3) := by decide +kernel
theorem dX9_init_53 : decode cX9_init 53 = .ok (.aload_n 0, 1) := by decide +kernel
theorem dX9_init_54 : decode cX9_init 54 = .ok (.bipush 16, 2) := by decide +kernel
theorem dX9_init_56 : decode cX9_init 56 = .ok (.newarray .int, 2) := by decide +kernel
theorem dX9_init_58 : decode cX9_init 58 = .ok (.putfield 26, 3) := by decide +kernel
theorem dX9_init_61 : decode cX9_init 61 = .ok (.aload_n 0, 1) := by decide +kernel
theorem dX9_init_62 : decode cX9_init 62 = .ok (.new 29, 3) := by decide +kernel
theorem dX9_init_65 : decode cX9_init 65 = .ok (.dup, 1) := by decide +kernel
theorem dX9_init_66 : decode cX9_init 66 = .ok (.invokespecial 31, 3) := by decide +kernel
theorem dX9_init_69 : decode cX9_init 69 = .ok (.putfield 32, 3) := by decide +kernel
theorem dX9_init_72 : decode cX9_init 72 = .ok (.aload_n 0, 1) := by decide +kernel
theorem dX9_init_73 : decode cX9_init 73 = .ok (.bipush 8, 2) := by decide +kernel
theorem dX9_init_75 : decode cX9_init 75 = .ok (.newarray .int, 2) := by decide +kernel
theorem dX9_init_77 : decode cX9_init 77 = .ok (.putfield 36, 3) := by decide +kernel
theorem dX9_init_80 : decode cX9_init 80 = .ok (.aload_n 0, 1) := by decide +kernel
theorem dX9_init_81 : decode cX9_init 81 = .ok (.bipush 6, 2) := by decide +kernel
theorem dX9_init_83 : decode cX9_init 83 = .ok (.newarray .int, 2) := by decide +kernel
theorem dX9_init_85 : decode cX9_init 85 = .ok (.putfield 39, 3) := by decide +kernel
theorem dX9_init_88 : decode cX9_init 88 = .ok (.aload_n 0, 1) := by decide +kernel
theorem dX9_init_89 : decode cX9_init 89 = .ok (.sipush 200, 3) := by decide +kernel
theorem dX9_init_92 : decode cX9_init 92 = .ok (.anewarray 42, 3) := by decide +kernel
theorem dX9_init_95 : decode cX9_init 95 = .ok (.putfield 44, 3) := by decide +kernel
theorem dX9_init_98 : decode cX9_init 98 = .ok (.aload_n 0, 1) := by decide +kernel
theorem dX9_init_99 : decode cX9_init 99 = .ok (.iconst 1, 1) := by decide +kernel
theorem dX9_init_100 : decode cX9_init 100 = .ok (.putfield 48, 3) := by decide +kernel
theorem dX9_init_103 : decode cX9_init 103 = .ok (.return_, 1) := by decide +kernel
def g_X9_init_34 : Nat → HS → Option Nat → Int32 → Option (Unit × HS)
  | 0, _, _, _ => none
  | n + 1, σ, l0, l1 =>
    if 16 ≤ l1 then
      h_bd (h_mkA σ 100 16) fun x24 s25 =>
      h_b1 (h_pR s25 l0 10 3 x24) fun s27 =>
      h_bd (h_mk s27 6 4) fun x29 s30 =>
      h_b1 (h_rcv s30 x29 6) fun y35 =>
      h_bd (f_X5_init s30 x29) fun _ s33 =>
      h_b1 (h_pR s33 l0 10 4 x29) fun s37 =>
      h_bd (h_mkA s37 100 8) fun x39 s40 =>
      h_b1 (h_pR s40 l0 10 5 x39) fun s42 =>
      h_bd (h_mkA s42 100 6) fun x44 s45 =>
      h_b1 (h_pR s45 l0 10 6 x44) fun s47 =>
      h_bd (h_mkA s47 105 200) fun x49 s50 =>
      h_b1 (h_pR s50 l0 10 7 x49) fun s52 =>
      h_b1 (h_pI s52 l0 10 10 1) fun s54 =>
      some ((), s54)
    else
      h_b1 (h_gR σ l0 10 2) fun x56 =>
      h_b1 (h_sI σ x56 100 l1 (-1)) fun s58 =>
      g_X9_init_34 n s58 l0 (l1 + 1)
def f_X9_init (σ : HS) (a0 : Option Nat) : Option (Unit × HS) :=
  h_b1 a0 fun y1 =>
  h_bd (h_mk σ 9 1) fun x3 s4 =>
  h_b1 (h_rcv s4 x3 9) fun y9 =>
  h_bd (f_X8_init s4 x3) fun _ s7 =>
  h_b1 (h_pR s7 a0 10 0 x3) fun s11 =>
  h_bd (h_mkA s11 108 8) fun x13 s14 =>
  h_b1 (h_pR s14 a0 10 1 x13) fun s16 =>
  h_bd (h_mkA s16 100 16) fun x18 s19 =>
  h_b1 (h_pR s19 a0 10 2 x18) fun s21 =>
  g_X9_init_34 h_hN s21 a0 0
set_option maxHeartbeats 4000000 in
set_option maxRecDepth 100000 in
theorem w_X9_init_34 {p : Program} {l : Launch} {e : Env} {R : Room} {s : State} {m : MethodId} {args : Array Value} {below : List Frame} {meth : Method} {c : Code} {D : va_G} {dA : Nat → ClassId} {bs : Nat} (C : h_C p m c cX9_init 2 s args RX9 D dA) {σ0 : HS} (B : h_B R s meth σ0 none 3 56) (hnm : meth.name = "<init>") {σ' : HS} : ∀ (n : Nat) (σ : HS) (l0 : Option Nat) (l1 : Int32), g_X9_init_34 n σ l0 l1 = some ((), σ') → V p l e R s m args below meth c D dA bs 2 (MQ below (h_Q D dA bs none σ0 σ') args s R.cells R.slots (fun q => bs ≤ q)) σ 34 [(0, va_rf l0), (1, .int l1)] [] := by
  intro n
  induction n with
  | zero =>
    intro σ l0 l1 h
    rw [g_X9_init_34] at h
    cases h
  | succ n ih =>
    intro σ l0 l1 h
    rw [g_X9_init_34] at h
    refine V_iload_n C 1 dX9_init_34 rfl rfl ?_
    refine V_bipush (v := 16) C dX9_init_35 (by decide) ?_
    refine V_icmp_ge (tgt := 53) C dX9_init_37 (by decide) (fun c23 => ?_) (fun c23 => ?_)
    · rw [if_pos c23] at h
      refine V_aload_n C 0 dX9_init_53 rfl rfl ?_
      refine V_bipush (v := 16) C dX9_init_54 (by decide) ?_
      obtain ⟨x24, s25, e26, h⟩ := h_bd_some h
      refine V_newI C ac_int dX9_init_56 e26 ?_
      obtain ⟨s27, e28, h⟩ := h_b1_some h
      refine V_putFR C hnm ff_RX9_26 dX9_init_58 e28 ?_
      refine V_aload_n C 0 dX9_init_61 rfl rfl ?_
      obtain ⟨x29, s30, e31, h⟩ := h_bd_some h
      refine V_new C hcl_5 lk_RX9_29 dX9_init_62 e31 ?_
      refine V_dupR C dX9_init_65 ?_
      obtain ⟨y35, e36, h⟩ := h_b1_some h
      obtain ⟨r32, s33, e34, h⟩ := h_bd_some h
      refine V_cI (As := []) (rest := [va_rf x29, va_rf l0]) C mi_RX9_31 (m_X5_init l D dA bs e34) e36 rfl rfl (Nat.le_trans (h_wR (h_wR h_w0)) (by decide)) (h_fr B (by decide)) (h_lo B (by decide)) dX9_init_66 ?_
      obtain ⟨s37, e38, h⟩ := h_b1_some h
      refine V_putFR C hnm ff_RX9_32 dX9_init_69 e38 ?_
      refine V_aload_n C 0 dX9_init_72 rfl rfl ?_
      refine V_bipush (v := 8) C dX9_init_73 (by decide) ?_
      obtain ⟨x39, s40, e41, h⟩ := h_bd_some h
      refine V_newI C ac_int dX9_init_75 e41 ?_
      obtain ⟨s42, e43, h⟩ := h_b1_some h
      refine V_putFR C hnm ff_RX9_36 dX9_init_77 e43 ?_
      refine V_aload_n C 0 dX9_init_80 rfl rfl ?_
      refine V_bipush (v := 6) C dX9_init_81 (by decide) ?_
      obtain ⟨x44, s45, e46, h⟩ := h_bd_some h
      refine V_newI C ac_int dX9_init_83 e46 ?_
      obtain ⟨s47, e48, h⟩ := h_b1_some h
      refine V_putFR C hnm ff_RX9_39 dX9_init_85 e48 ?_
      refine V_aload_n C 0 dX9_init_88 rfl rfl ?_
      refine V_sipush (v := 200) C dX9_init_89 (by decide) ?_
      obtain ⟨x49, s50, e51, h⟩ := h_bd_some h
      refine V_anew (u := 4) C (by decide) rfl rfl lk_RX9_42 ao_3 dX9_init_92 e51 ?_
      obtain ⟨s52, e53, h⟩ := h_b1_some h
      refine V_putFR C hnm ff_RX9_44 dX9_init_95 e53 ?_
      refine V_aload_n C 0 dX9_init_98 rfl rfl ?_
      refine V_iconst (v := 1) C dX9_init_99 (by decide) ?_
      obtain ⟨s54, e55, h⟩ := h_b1_some h
      refine V_putI C fw_RX9_48 dX9_init_100 e55 ?_
      cases h
      exact V_vret C B dX9_init_103
    · rw [if_neg c23] at h
      refine V_aload_n C 0 dX9_init_40 rfl rfl ?_
      obtain ⟨x56, e57, h⟩ := h_b1_some h
      refine V_getR C fl_RX9_22 dX9_init_41 e57 ?_
      refine V_iload_n C 1 dX9_init_44 rfl rfl ?_
      refine V_iconst (v := (-1)) C dX9_init_45 (by decide) ?_
      obtain ⟨s58, e59, h⟩ := h_b1_some h
      refine V_iast C dX9_init_46 e59 ?_
      refine V_iinc (v := (l1 + 1)) (lv' := [(1, .int (l1 + 1)), (0, va_rf l0)]) C 1 dX9_init_47 rfl rfl (by decide) rfl ?_
      refine V_goto (tgt := 34) C dX9_init_50 (by decide) ?_
      exact V_sub [1, 0] rfl (ih s58 l0 (l1 + 1) h)
set_option maxHeartbeats 4000000 in
set_option maxRecDepth 100000 in
theorem m_X9_init (l : Launch) (D : va_G) (dA : Nat → ClassId) (bs : Nat) {σ σ' : HS} {a0 : Option Nat} (h : f_X9_init σ a0 = some ((), σ')) : MetC l yX9_init cX9_init 2 none 3 56 D dA bs [va_rf a0] none σ σ' := by
  refine MetC.of (by decide) (h_avR h_av0) (Nat.le_of_ble_eq_true rfl) ?_
  intro p e R s m args below meth c C B hnm
  unfold f_X9_init at h
  refine V_sub (lv' := [(0, va_rf a0)]) [0] rfl ?_
  refine V_aload_n C 0 dX9_init_0 rfl rfl ?_
  obtain ⟨y1, e2, h⟩ := h_b1_some h
  refine V_objInit C ob_RX9 ob_i ob_c dX9_init_1 e2 (h_fr B (by decide)) (h_lo B (by decide)) ?_
  refine V_aload_n C 0 dX9_init_4 rfl rfl ?_
  obtain ⟨x3, s4, e5, h⟩ := h_bd_some h
  refine V_new C hcl_8 lk_RX9_7 dX9_init_5 e5 ?_
  refine V_dupR C dX9_init_8 ?_
  obtain ⟨y9, e10, h⟩ := h_b1_some h
  obtain ⟨r6, s7, e8, h⟩ := h_bd_some h
  refine V_cI (As := []) (rest := [va_rf x3, va_rf a0]) C mi_RX9_9 (m_X8_init l D dA bs e8) e10 rfl rfl (Nat.le_trans (h_wR (h_wR h_w0)) (by decide)) (h_fr B (by decide)) (h_lo B (by decide)) dX9_init_9 ?_
  obtain ⟨s11, e12, h⟩ := h_b1_some h
  refine V_putFR C hnm ff_RX9_10 dX9_init_12 e12 ?_
  refine V_aload_n C 0 dX9_init_15 rfl rfl ?_
  refine V_bipush (v := 8) C dX9_init_16 (by decide) ?_
  obtain ⟨x13, s14, e15, h⟩ := h_bd_some h
  refine V_anew (u := 8) C (by decide) rfl rfl lk_RX9_16 ao_7 dX9_init_18 e15 ?_
  obtain ⟨s16, e17, h⟩ := h_b1_some h
  refine V_putFR C hnm ff_RX9_18 dX9_init_21 e17 ?_
  refine V_aload_n C 0 dX9_init_24 rfl rfl ?_
  refine V_bipush (v := 16) C dX9_init_25 (by decide) ?_
  obtain ⟨x18, s19, e20, h⟩ := h_bd_some h
  refine V_newI C ac_int dX9_init_27 e20 ?_
  obtain ⟨s21, e22, h⟩ := h_b1_some h
  refine V_putFR C hnm ff_RX9_22 dX9_init_29 e22 ?_
  refine V_iconst (v := 0) C dX9_init_32 (by decide) ?_
  refine V_istore_n (lv' := [(1, .int 0), (0, va_rf a0)]) C dX9_init_33 rfl (by decide) rfl ?_
  exact V_sub [1, 0] rfl (w_X9_init_34 C B hnm h_hN s21 a0 0 h)
/-! X9_hostOf -/
theorem dX9_hostOf_0 : decode cX9_hostOf 0 = .ok (.iconst 0, 1) := by decide +kernel
theorem dX9_hostOf_1 : decode cX9_hostOf 1 = .ok (.istore_n 2, 1) := by decide +kernel
theorem dX9_hostOf_2 : decode cX9_hostOf 2 = .ok (.iload_n 2, 1) := by decide +kernel
theorem dX9_hostOf_3 : decode cX9_hostOf 3 = .ok (.bipush 8, 2) := by decide +kernel
theorem dX9_hostOf_5 : decode cX9_hostOf 5 = .ok (.if_icmp .ge 33, 3) := by decide +kernel
theorem dX9_hostOf_8 : decode cX9_hostOf 8 = .ok (.aload_n 0, 1) := by decide +kernel
theorem dX9_hostOf_9 : decode cX9_hostOf 9 = .ok (.getfield 18, 3) := by decide +kernel
theorem dX9_hostOf_12 : decode cX9_hostOf 12 = .ok (.iload_n 2, 1) := by decide +kernel
theorem dX9_hostOf_13 : decode cX9_hostOf 13 = .ok (.aaload, 1) := by decide +kernel
theorem dX9_hostOf_14 : decode cX9_hostOf 14 = .ok (.ifnull 18, 3) := by decide +kernel
theorem dX9_hostOf_17 : decode cX9_hostOf 17 = .ok (.aload_n 0, 1) := by decide +kernel
theorem dX9_hostOf_18 : decode cX9_hostOf 18 = .ok (.getfield 18, 3) := by decide +kernel
theorem dX9_hostOf_21 : decode cX9_hostOf 21 = .ok (.iload_n 2, 1) := by decide +kernel
theorem dX9_hostOf_22 : decode cX9_hostOf 22 = .ok (.aaload, 1) := by decide +kernel
theorem dX9_hostOf_23 : decode cX9_hostOf 23 = .ok (.getfield 132, 3) := by decide +kernel
theorem dX9_hostOf_26 : decode cX9_hostOf 26 = .ok (.iload_n 1, 1) := by decide +kernel
theorem dX9_hostOf_27 : decode cX9_hostOf 27 = .ok (.if_icmp .ne 5, 3) := by decide +kernel
theorem dX9_hostOf_30 : decode cX9_hostOf 30 = .ok (.iload_n 2, 1) := by decide +kernel
theorem dX9_hostOf_31 : decode cX9_hostOf 31 = .ok (.ireturn, 1) := by decide +kernel
theorem dX9_hostOf_32 : decode cX9_hostOf 32 = .ok (.iinc 2 1, 3) := by decide +kernel
theorem dX9_hostOf_35 : decode cX9_hostOf 35 = .ok (.goto (-33), 3) := by decide +kernel
theorem dX9_hostOf_38 : decode cX9_hostOf 38 = .ok (.iconst (-1), 1) := by decide +kernel
theorem dX9_hostOf_39 : decode cX9_hostOf 39 = .ok (.ireturn, 1) := by decide +kernel
def g_X9_hostOf_2 : Nat → HS → Option Nat → Int32 → Int32 → Option (Int32 × HS)
  | 0, _, _, _, _ => none
  | n + 1, σ, l0, l1, l2 =>
    if 8 ≤ l2 then
      some ((-1), σ)
    else
      h_b1 (h_gR σ l0 10 1) fun x2 =>
      h_b1 (h_aR σ x2 108 l2) fun x4 =>
      if x4 = none then
        g_X9_hostOf_2 n σ l0 l1 (l2 + 1)
      else
        h_b1 (h_gR σ l0 10 1) fun x7 =>
        h_b1 (h_aR σ x7 108 l2) fun x9 =>
        h_b1 (h_gI σ x9 8 0) fun x11 =>
        if x11 = l1 then
          some (l2, σ)
        else
          g_X9_hostOf_2 n σ l0 l1 (l2 + 1)
def f_X9_hostOf (σ : HS) (a0 : Option Nat) (a1 : Int32) : Option (Int32 × HS) :=
  g_X9_hostOf_2 h_hN σ a0 a1 0
set_option maxHeartbeats 4000000 in
set_option maxRecDepth 100000 in
theorem w_X9_hostOf_2 {p : Program} {l : Launch} {e : Env} {R : Room} {s : State} {m : MethodId} {args : Array Value} {below : List Frame} {meth : Method} {c : Code} {D : va_G} {dA : Nat → ClassId} {bs : Nat} (C : h_C p m c cX9_hostOf 3 s args RX9 D dA) {σ0 : HS} (B : h_B R s meth σ0 (some .int) 0 0) {σ' : HS} {r : Int32} : ∀ (n : Nat) (σ : HS) (l0 : Option Nat) (l1 : Int32) (l2 : Int32), g_X9_hostOf_2 n σ l0 l1 l2 = some (r, σ') → V p l e R s m args below meth c D dA bs 3 (MQ below (h_Q D dA bs (some (.int r)) σ0 σ') args s R.cells R.slots (fun q => bs ≤ q)) σ 2 [(0, va_rf l0), (1, .int l1), (2, .int l2)] [] := by
  intro n
  induction n with
  | zero =>
    intro σ l0 l1 l2 h
    rw [g_X9_hostOf_2] at h
    cases h
  | succ n ih =>
    intro σ l0 l1 l2 h
    rw [g_X9_hostOf_2] at h
    refine V_iload_n C 2 dX9_hostOf_2 rfl rfl ?_
    refine V_bipush (v := 8) C dX9_hostOf_3 (by decide) ?_
    refine V_icmp_ge (tgt := 38) C dX9_hostOf_5 (by decide) (fun c1 => ?_) (fun c1 => ?_)
    · rw [if_pos c1] at h
      refine V_iconst (v := (-1)) C dX9_hostOf_38 (by decide) ?_
      cases h
      exact V_iret C B dX9_hostOf_39
    · rw [if_neg c1] at h
      refine V_aload_n C 0 dX9_hostOf_8 rfl rfl ?_
      obtain ⟨x2, e3, h⟩ := h_b1_some h
      refine V_getR C fl_RX9_18 dX9_hostOf_9 e3 ?_
      refine V_iload_n C 2 dX9_hostOf_12 rfl rfl ?_
      obtain ⟨x4, e5, h⟩ := h_b1_some h
      refine V_aald C h_at108 dX9_hostOf_13 e5 ?_
      refine V_ifnull (tgt := 32) C dX9_hostOf_14 (by decide) (fun c6 => ?_) (fun c6 => ?_)
      · rw [if_pos c6] at h
        refine V_iinc (v := (l2 + 1)) (lv' := [(2, .int (l2 + 1)), (0, va_rf l0), (1, .int l1)]) C 2 dX9_hostOf_32 rfl rfl (by decide) rfl ?_
        refine V_goto (tgt := 2) C dX9_hostOf_35 (by decide) ?_
        exact V_sub [1, 2, 0] rfl (ih σ l0 l1 (l2 + 1) h)
      · rw [if_neg c6] at h
        refine V_aload_n C 0 dX9_hostOf_17 rfl rfl ?_
        obtain ⟨x7, e8, h⟩ := h_b1_some h
        refine V_getR C fl_RX9_18 dX9_hostOf_18 e8 ?_
        refine V_iload_n C 2 dX9_hostOf_21 rfl rfl ?_
        obtain ⟨x9, e10, h⟩ := h_b1_some h
        refine V_aald C h_at108 dX9_hostOf_22 e10 ?_
        obtain ⟨x11, e12, h⟩ := h_b1_some h
        refine V_getI C fl_RX9_132 dX9_hostOf_23 e12 ?_
        refine V_iload_n C 1 dX9_hostOf_26 rfl rfl ?_
        refine V_icmp_ne (tgt := 32) C dX9_hostOf_27 (by decide) (fun c13 => ?_) (fun c13 => ?_)
        · rw [if_neg c13] at h
          refine V_iinc (v := (l2 + 1)) (lv' := [(2, .int (l2 + 1)), (0, va_rf l0), (1, .int l1)]) C 2 dX9_hostOf_32 rfl rfl (by decide) rfl ?_
          refine V_goto (tgt := 2) C dX9_hostOf_35 (by decide) ?_
          exact V_sub [1, 2, 0] rfl (ih σ l0 l1 (l2 + 1) h)
        · rw [if_pos c13] at h
          refine V_iload_n C 2 dX9_hostOf_30 rfl rfl ?_
          cases h
          exact V_iret C B dX9_hostOf_31
set_option maxHeartbeats 4000000 in
set_option maxRecDepth 100000 in
theorem m_X9_hostOf (l : Launch) (D : va_G) (dA : Nat → ClassId) (bs : Nat) {σ σ' : HS} {a0 : Option Nat} {a1 : Int32} {r : Int32} (h : f_X9_hostOf σ a0 a1 = some (r, σ')) : MetC l yX9_hostOf cX9_hostOf 3 (some .int) 0 0 D dA bs [va_rf a0, .int a1] (some (.int r)) σ σ' := by
  refine MetC.of (by decide) (h_avR (h_avI h_av0)) (Nat.le_of_ble_eq_true rfl) ?_
  intro p e R s m args below meth c C B hnm
  unfold f_X9_hostOf at h
  refine V_sub (lv' := [(0, va_rf a0), (1, .int a1)]) [0, 1] rfl ?_
  refine V_iconst (v := 0) C dX9_hostOf_0 (by decide) ?_
  refine V_istore_n (lv' := [(2, .int 0), (0, va_rf a0), (1, .int a1)]) C dX9_hostOf_1 rfl (by decide) rfl ?_
  exact V_sub [1, 2, 0] rfl (w_X9_hostOf_2 C B h_hN σ a0 a1 0 h)
/-! X9_isPlace -/
theorem dX9_isPlace_0 : decode cX9_isPlace 0 = .ok (.iload_n 0, 1) := by decide +kernel
theorem dX9_isPlace_1 : decode cX9_isPlace 1 = .ok (.ifCond .lt 13, 3) := by decide +kernel
theorem dX9_isPlace_4 : decode cX9_isPlace 4 = .ok (.iload_n 0, 1) := by decide +kernel
theorem dX9_isPlace_5 : decode cX9_isPlace 5 = .ok (.bipush 16, 2) := by decide +kernel
theorem dX9_isPlace_7 : decode cX9_isPlace 7 = .ok (.if_icmp .ge 7, 3) := by decide +kernel
theorem dX9_isPlace_10 : decode cX9_isPlace 10 = .ok (.iconst 1, 1) := by decide +kernel
theorem dX9_isPlace_11 : decode cX9_isPlace 11 = .ok (.goto 4, 3) := by decide +kernel
theorem dX9_isPlace_14 : decode cX9_isPlace 14 = .ok (.iconst 0, 1) := by decide +kernel
theorem dX9_isPlace_15 : decode cX9_isPlace 15 = .ok (.ireturn, 1) := by decide +kernel
def f_X9_isPlace (σ : HS) (a0 : Int32) : Option (Int32 × HS) :=
  if a0 < 0 then
    some (0, σ)
  else
    if 16 ≤ a0 then
      some (0, σ)
    else
      some (1, σ)
set_option maxHeartbeats 4000000 in
set_option maxRecDepth 100000 in
theorem m_X9_isPlace (l : Launch) (D : va_G) (dA : Nat → ClassId) (bs : Nat) {σ σ' : HS} {a0 : Int32} {r : Int32} (h : f_X9_isPlace σ a0 = some (r, σ')) : MetC l yX9_isPlace cX9_isPlace 1 (some .boolean) 0 0 D dA bs [.int a0] (some (.int r)) σ σ' := by
  refine MetC.of (by decide) (h_avI h_av0) (Nat.le_of_ble_eq_true rfl) ?_
  intro p e R s m args below meth c C B hnm
  unfold f_X9_isPlace at h
  refine V_sub (lv' := [(0, .int a0)]) [0] rfl ?_
  refine V_iload_n C 0 dX9_isPlace_0 rfl rfl ?_
  refine V_if_lt (tgt := 14) C dX9_isPlace_1 (by decide) (fun c1 => ?_) (fun c1 => ?_)
  · rw [if_pos c1] at h
    refine V_iconst (v := 0) C dX9_isPlace_14 (by decide) ?_
    cases h
    exact V_zret C B dX9_isPlace_15 (Or.inl rfl)
  · rw [if_neg c1] at h
    refine V_iload_n C 0 dX9_isPlace_4 rfl rfl ?_
    refine V_bipush (v := 16) C dX9_isPlace_5 (by decide) ?_
    refine V_icmp_ge (tgt := 14) C dX9_isPlace_7 (by decide) (fun c2 => ?_) (fun c2 => ?_)
    · rw [if_pos c2] at h
      refine V_iconst (v := 0) C dX9_isPlace_14 (by decide) ?_
      cases h
      exact V_zret C B dX9_isPlace_15 (Or.inl rfl)
    · rw [if_neg c2] at h
      refine V_iconst (v := 1) C dX9_isPlace_10 (by decide) ?_
      refine V_goto (tgt := 15) C dX9_isPlace_11 (by decide) ?_
      cases h
      exact V_zret C B dX9_isPlace_15 (Or.inr rfl)
/-! X9_isHeld -/
theorem dX9_isHeld_0 : decode cX9_isHeld 0 = .ok (.iconst 0, 1) := by decide +kernel
theorem dX9_isHeld_1 : decode cX9_isHeld 1 = .ok (.istore_n 2, 1) := by decide +kernel
theorem dX9_isHeld_2 : decode cX9_isHeld 2 = .ok (.iload_n 2, 1) := by decide +kernel
theorem dX9_isHeld_3 : decode cX9_isHeld 3 = .ok (.bipush 8, 2) := by decide +kernel
theorem dX9_isHeld_5 : decode cX9_isHeld 5 = .ok (.if_icmp .ge 33, 3) := by decide +kernel
theorem dX9_isHeld_8 : decode cX9_isHeld 8 = .ok (.aload_n 0, 1) := by decide +kernel
theorem dX9_isHeld_9 : decode cX9_isHeld 9 = .ok (.getfield 18, 3) := by decide +kernel
theorem dX9_isHeld_12 : decode cX9_isHeld 12 = .ok (.iload_n 2, 1) := by decide +kernel
theorem dX9_isHeld_13 : decode cX9_isHeld 13 = .ok (.aaload, 1) := by decide +kernel
theorem dX9_isHeld_14 : decode cX9_isHeld 14 = .ok (.ifnull 18, 3) := by decide +kernel
theorem dX9_isHeld_17 : decode cX9_isHeld 17 = .ok (.aload_n 0, 1) := by decide +kernel
theorem dX9_isHeld_18 : decode cX9_isHeld 18 = .ok (.getfield 18, 3) := by decide +kernel
theorem dX9_isHeld_21 : decode cX9_isHeld 21 = .ok (.iload_n 2, 1) := by decide +kernel
theorem dX9_isHeld_22 : decode cX9_isHeld 22 = .ok (.aaload, 1) := by decide +kernel
theorem dX9_isHeld_23 : decode cX9_isHeld 23 = .ok (.aload_n 1, 1) := by decide +kernel
theorem dX9_isHeld_24 : decode cX9_isHeld 24 = .ok (.invokevirtual 277, 3) := by decide +kernel
theorem dX9_isHeld_27 : decode cX9_isHeld 27 = .ok (.ifCond .eq 5, 3) := by decide +kernel
theorem dX9_isHeld_30 : decode cX9_isHeld 30 = .ok (.iconst 1, 1) := by decide +kernel
theorem dX9_isHeld_31 : decode cX9_isHeld 31 = .ok (.ireturn, 1) := by decide +kernel
theorem dX9_isHeld_32 : decode cX9_isHeld 32 = .ok (.iinc 2 1, 3) := by decide +kernel
theorem dX9_isHeld_35 : decode cX9_isHeld 35 = .ok (.goto (-33), 3) := by decide +kernel
theorem dX9_isHeld_38 : decode cX9_isHeld 38 = .ok (.iconst 0, 1) := by decide +kernel
theorem dX9_isHeld_39 : decode cX9_isHeld 39 = .ok (.ireturn, 1) := by decide +kernel
def g_X9_isHeld_2 : Nat → HS → Option Nat → Option Nat → Int32 → Option (Int32 × HS)
  | 0, _, _, _, _ => none
  | n + 1, σ, l0, l1, l2 =>
    if 8 ≤ l2 then
      some (0, σ)
    else
      h_b1 (h_gR σ l0 10 1) fun x2 =>
      h_b1 (h_aR σ x2 108 l2) fun x4 =>
      if x4 = none then
        g_X9_isHeld_2 n σ l0 l1 (l2 + 1)
      else
        h_b1 (h_gR σ l0 10 1) fun x7 =>
        h_b1 (h_aR σ x7 108 l2) fun x9 =>
        h_b1 (h_rcv σ x9 8) fun y14 =>
        h_bd (f_X7_holds σ x9 l1) fun r11 s12 =>
        if r11 = 0 then
          g_X9_isHeld_2 n s12 l0 l1 (l2 + 1)
        else
          some (1, s12)
def f_X9_isHeld (σ : HS) (a0 : Option Nat) (a1 : Option Nat) : Option (Int32 × HS) :=
  g_X9_isHeld_2 h_hN σ a0 a1 0
set_option maxHeartbeats 4000000 in
set_option maxRecDepth 100000 in
theorem w_X9_isHeld_2 {p : Program} {l : Launch} {e : Env} {R : Room} {s : State} {m : MethodId} {args : Array Value} {below : List Frame} {meth : Method} {c : Code} {D : va_G} {dA : Nat → ClassId} {bs : Nat} (C : h_C p m c cX9_isHeld 3 s args RX9 D dA) {σ0 : HS} (B : h_B R s meth σ0 (some .boolean) 2 43) {σ' : HS} {r : Int32} : ∀ (n : Nat) (σ : HS) (l0 : Option Nat) (l1 : Option Nat) (l2 : Int32), g_X9_isHeld_2 n σ l0 l1 l2 = some (r, σ') → V p l e R s m args below meth c D dA bs 3 (MQ below (h_Q D dA bs (some (.int r)) σ0 σ') args s R.cells R.slots (fun q => bs ≤ q)) σ 2 [(0, va_rf l0), (1, va_rf l1), (2, .int l2)] [] := by
  intro n
  induction n with
  | zero =>
    intro σ l0 l1 l2 h
    rw [g_X9_isHeld_2] at h
    cases h
  | succ n ih =>
    intro σ l0 l1 l2 h
    rw [g_X9_isHeld_2] at h
    refine V_iload_n C 2 dX9_isHeld_2 rfl rfl ?_
    refine V_bipush (v := 8) C dX9_isHeld_3 (by decide) ?_
    refine V_icmp_ge (tgt := 38) C dX9_isHeld_5 (by decide) (fun c1 => ?_) (fun c1 => ?_)
    · rw [if_pos c1] at h
      refine V_iconst (v := 0) C dX9_isHeld_38 (by decide) ?_
      cases h
      exact V_zret C B dX9_isHeld_39 (Or.inl rfl)
    · rw [if_neg c1] at h
      refine V_aload_n C 0 dX9_isHeld_8 rfl rfl ?_
      obtain ⟨x2, e3, h⟩ := h_b1_some h
      refine V_getR C fl_RX9_18 dX9_isHeld_9 e3 ?_
      refine V_iload_n C 2 dX9_isHeld_12 rfl rfl ?_
      obtain ⟨x4, e5, h⟩ := h_b1_some h
      refine V_aald C h_at108 dX9_isHeld_13 e5 ?_
      refine V_ifnull (tgt := 32) C dX9_isHeld_14 (by decide) (fun c6 => ?_) (fun c6 => ?_)
      · rw [if_pos c6] at h
        refine V_iinc (v := (l2 + 1)) (lv' := [(2, .int (l2 + 1)), (0, va_rf l0), (1, va_rf l1)]) C 2 dX9_isHeld_32 rfl rfl (by decide) rfl ?_
        refine V_goto (tgt := 2) C dX9_isHeld_35 (by decide) ?_
        exact V_sub [1, 2, 0] rfl (ih σ l0 l1 (l2 + 1) h)
      · rw [if_neg c6] at h
        refine V_aload_n C 0 dX9_isHeld_17 rfl rfl ?_
        obtain ⟨x7, e8, h⟩ := h_b1_some h
        refine V_getR C fl_RX9_18 dX9_isHeld_18 e8 ?_
        refine V_iload_n C 2 dX9_isHeld_21 rfl rfl ?_
        obtain ⟨x9, e10, h⟩ := h_b1_some h
        refine V_aald C h_at108 dX9_isHeld_22 e10 ?_
        refine V_aload_n C 1 dX9_isHeld_23 rfl rfl ?_
        obtain ⟨y14, e15, h⟩ := h_b1_some h
        obtain ⟨r11, s12, e13, h⟩ := h_bd_some h
        refine V_cV (As := [va_rf l1]) (rest := []) C mv_RX9_277 (m_X7_holds l D dA bs e13) e15 rfl rfl (Nat.le_trans h_w0 (by decide)) (h_fr B (by decide)) (h_lo B (by decide)) dX9_isHeld_24 ?_
        refine V_if_eq (tgt := 32) C dX9_isHeld_27 (by decide) (fun c16 => ?_) (fun c16 => ?_)
        · rw [if_pos c16] at h
          refine V_iinc (v := (l2 + 1)) (lv' := [(2, .int (l2 + 1)), (0, va_rf l0), (1, va_rf l1)]) C 2 dX9_isHeld_32 rfl rfl (by decide) rfl ?_
          refine V_goto (tgt := 2) C dX9_isHeld_35 (by decide) ?_
          exact V_sub [1, 2, 0] rfl (ih s12 l0 l1 (l2 + 1) h)
        · rw [if_neg c16] at h
          refine V_iconst (v := 1) C dX9_isHeld_30 (by decide) ?_
          cases h
          exact V_zret C B dX9_isHeld_31 (Or.inr rfl)
set_option maxHeartbeats 4000000 in
set_option maxRecDepth 100000 in
theorem m_X9_isHeld (l : Launch) (D : va_G) (dA : Nat → ClassId) (bs : Nat) {σ σ' : HS} {a0 : Option Nat} {a1 : Option Nat} {r : Int32} (h : f_X9_isHeld σ a0 a1 = some (r, σ')) : MetC l yX9_isHeld cX9_isHeld 3 (some .boolean) 2 43 D dA bs [va_rf a0, va_rf a1] (some (.int r)) σ σ' := by
  refine MetC.of (by decide) (h_avR (h_avR h_av0)) (Nat.le_of_ble_eq_true rfl) ?_
  intro p e R s m args below meth c C B hnm
  unfold f_X9_isHeld at h
  refine V_sub (lv' := [(0, va_rf a0), (1, va_rf a1)]) [0, 1] rfl ?_
  refine V_iconst (v := 0) C dX9_isHeld_0 (by decide) ?_
  refine V_istore_n (lv' := [(2, .int 0), (0, va_rf a0), (1, va_rf a1)]) C dX9_isHeld_1 rfl (by decide) rfl ?_
  exact V_sub [1, 2, 0] rfl (w_X9_isHeld_2 C B h_hN σ a0 a1 0 h)
/-! X9_siteAt -/
theorem dX9_siteAt_0 : decode cX9_siteAt 0 = .ok (.iload_n 1, 1) := by decide +kernel
theorem dX9_siteAt_1 : decode cX9_siteAt 1 = .ok (.ifCond .lt 9, 3) := by decide +kernel
theorem dX9_siteAt_4 : decode cX9_siteAt 4 = .ok (.iload_n 1, 1) := by decide +kernel
theorem dX9_siteAt_5 : decode cX9_siteAt 5 = .ok (.bipush 8, 2) := by decide +kernel
theorem dX9_siteAt_7 : decode cX9_siteAt 7 = .ok (.if_icmp .lt 7, 3) := by decide +kernel
theorem dX9_siteAt_10 : decode cX9_siteAt 10 = .ok (.aconst_null, 1) := by decide +kernel
theorem dX9_siteAt_11 : decode cX9_siteAt 11 = .ok (.goto 9, 3) := by decide +kernel
theorem dX9_siteAt_14 : decode cX9_siteAt 14 = .ok (.aload_n 0, 1) := by decide +kernel
theorem dX9_siteAt_15 : decode cX9_siteAt 15 = .ok (.getfield 18, 3) := by decide +kernel
theorem dX9_siteAt_18 : decode cX9_siteAt 18 = .ok (.iload_n 1, 1) := by decide +kernel
theorem dX9_siteAt_19 : decode cX9_siteAt 19 = .ok (.aaload, 1) := by decide +kernel
theorem dX9_siteAt_20 : decode cX9_siteAt 20 = .ok (.areturn, 1) := by decide +kernel
def f_X9_siteAt (σ : HS) (a0 : Option Nat) (a1 : Int32) : Option (Option Nat × HS) :=
  if a1 < 0 then
    some ((none : Option Nat), σ)
  else
    if a1 < 8 then
      h_b1 (h_gR σ a0 10 1) fun x3 =>
      h_b1 (h_aR σ x3 108 a1) fun x5 =>
      some (x5, σ)
    else
      some ((none : Option Nat), σ)
set_option maxHeartbeats 4000000 in
set_option maxRecDepth 100000 in
theorem m_X9_siteAt (l : Launch) (D : va_G) (dA : Nat → ClassId) (bs : Nat) {σ σ' : HS} {a0 : Option Nat} {a1 : Int32} {r : Option Nat} (h : f_X9_siteAt σ a0 a1 = some (r, σ')) : MetC l yX9_siteAt cX9_siteAt 2 (some (.object RX7)) 0 0 D dA bs [va_rf a0, .int a1] (some (va_rf r)) σ σ' := by
  refine MetC.of (by decide) (h_avR (h_avI h_av0)) (Nat.le_of_ble_eq_true rfl) ?_
  intro p e R s m args below meth c C B hnm
  unfold f_X9_siteAt at h
  refine V_sub (lv' := [(0, va_rf a0), (1, .int a1)]) [0, 1] rfl ?_
  refine V_iload_n C 1 dX9_siteAt_0 rfl rfl ?_
  refine V_if_lt (tgt := 10) C dX9_siteAt_1 (by decide) (fun c1 => ?_) (fun c1 => ?_)
  · rw [if_pos c1] at h
    refine V_null C dX9_siteAt_10 ?_
    refine V_goto (tgt := 20) C dX9_siteAt_11 (by decide) ?_
    cases h
    exact V_aret C B dX9_siteAt_20
  · rw [if_neg c1] at h
    refine V_iload_n C 1 dX9_siteAt_4 rfl rfl ?_
    refine V_bipush (v := 8) C dX9_siteAt_5 (by decide) ?_
    refine V_icmp_lt (tgt := 14) C dX9_siteAt_7 (by decide) (fun c2 => ?_) (fun c2 => ?_)
    · rw [if_pos c2] at h
      refine V_aload_n C 0 dX9_siteAt_14 rfl rfl ?_
      obtain ⟨x3, e4, h⟩ := h_b1_some h
      refine V_getR C fl_RX9_18 dX9_siteAt_15 e4 ?_
      refine V_iload_n C 1 dX9_siteAt_18 rfl rfl ?_
      obtain ⟨x5, e6, h⟩ := h_b1_some h
      refine V_aald C h_at108 dX9_siteAt_19 e6 ?_
      cases h
      exact V_aret C B dX9_siteAt_20
    · rw [if_neg c2] at h
      refine V_null C dX9_siteAt_10 ?_
      refine V_goto (tgt := 20) C dX9_siteAt_11 (by decide) ?_
      cases h
      exact V_aret C B dX9_siteAt_20
