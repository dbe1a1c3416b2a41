/-! X9_takeReply -/
theorem dX9_takeReply_0 : decode cX9_takeReply 0 = .ok (.aload_n 0, 1) := by decide +kernel
theorem dX9_takeReply_1 : decode cX9_takeReply 1 = .ok (.iload_n 1, 1) := by decide +kernel
theorem dX9_takeReply_2 : decode cX9_takeReply 2 = .ok (.invokevirtual 107, 3) := by decide +kernel
theorem dX9_takeReply_5 : decode cX9_takeReply 5 = .ok (.astore_n 2, 1) := by decide +kernel
theorem dX9_takeReply_6 : decode cX9_takeReply 6 = .ok (.aload_n 2, 1) := by decide +kernel
theorem dX9_takeReply_7 : decode cX9_takeReply 7 = .ok (.ifnonnull 4, 3) := by decide +kernel
theorem dX9_takeReply_10 : decode cX9_takeReply 10 = .ok (.return_, 1) := by decide +kernel
theorem dX9_takeReply_11 : decode cX9_takeReply 11 = .ok (.aload_n 0, 1) := by decide +kernel
theorem dX9_takeReply_12 : decode cX9_takeReply 12 = .ok (.getfield 36, 3) := by decide +kernel
theorem dX9_takeReply_15 : decode cX9_takeReply 15 = .ok (.iconst 1, 1) := by decide +kernel
theorem dX9_takeReply_16 : decode cX9_takeReply 16 = .ok (.iaload, 1) := by decide +kernel
theorem dX9_takeReply_17 : decode cX9_takeReply 17 = .ok (.istore_n 3, 1) := by decide +kernel
theorem dX9_takeReply_18 : decode cX9_takeReply 18 = .ok (.aload_n 0, 1) := by decide +kernel
theorem dX9_takeReply_19 : decode cX9_takeReply 19 = .ok (.getfield 36, 3) := by decide +kernel
theorem dX9_takeReply_22 : decode cX9_takeReply 22 = .ok (.iconst 4, 1) := by decide +kernel
theorem dX9_takeReply_23 : decode cX9_takeReply 23 = .ok (.iaload, 1) := by decide +kernel
theorem dX9_takeReply_24 : decode cX9_takeReply 24 = .ok (.istore 4, 2) := by decide +kernel
theorem dX9_takeReply_26 : decode cX9_takeReply 26 = .ok (.aload_n 0, 1) := by decide +kernel
theorem dX9_takeReply_27 : decode cX9_takeReply 27 = .ok (.iload_n 1, 1) := by decide +kernel
theorem dX9_takeReply_28 : decode cX9_takeReply 28 = .ok (.aload_n 0, 1) := by decide +kernel
theorem dX9_takeReply_29 : decode cX9_takeReply 29 = .ok (.getfield 36, 3) := by decide +kernel
theorem dX9_takeReply_32 : decode cX9_takeReply 32 = .ok (.iconst 0, 1) := by decide +kernel
theorem dX9_takeReply_33 : decode cX9_takeReply 33 = .ok (.iaload, 1) := by decide +kernel
theorem dX9_takeReply_34 : decode cX9_takeReply 34 = .ok (.invokevirtual 381, 3) := by decide +kernel
theorem dX9_takeReply_37 : decode cX9_takeReply 37 = .ok (.astore 5, 2) := by decide +kernel
theorem dX9_takeReply_39 : decode cX9_takeReply 39 = .ok (.aload_n 0, 1) := by decide +kernel
theorem dX9_takeReply_40 : decode cX9_takeReply 40 = .ok (.getfield 36, 3) := by decide +kernel
theorem dX9_takeReply_43 : decode cX9_takeReply 43 = .ok (.iconst 2, 1) := by decide +kernel
theorem dX9_takeReply_44 : decode cX9_takeReply 44 = .ok (.iaload, 1) := by decide +kernel
theorem dX9_takeReply_45 : decode cX9_takeReply 45 = .ok (.aload_n 0, 1) := by decide +kernel
theorem dX9_takeReply_46 : decode cX9_takeReply 46 = .ok (.getfield 36, 3) := by decide +kernel
theorem dX9_takeReply_49 : decode cX9_takeReply 49 = .ok (.iconst 3, 1) := by decide +kernel
theorem dX9_takeReply_50 : decode cX9_takeReply 50 = .ok (.iaload, 1) := by decide +kernel
theorem dX9_takeReply_51 : decode cX9_takeReply 51 = .ok (.invokestatic 63, 3) := by decide +kernel
theorem dX9_takeReply_54 : decode cX9_takeReply 54 = .ok (.astore 6, 2) := by decide +kernel
theorem dX9_takeReply_56 : decode cX9_takeReply 56 = .ok (.aload 5, 2) := by decide +kernel
theorem dX9_takeReply_58 : decode cX9_takeReply 58 = .ok (.ifnull 30, 3) := by decide +kernel
theorem dX9_takeReply_61 : decode cX9_takeReply 61 = .ok (.aload 6, 2) := by decide +kernel
theorem dX9_takeReply_63 : decode cX9_takeReply 63 = .ok (.ifnull 25, 3) := by decide +kernel
theorem dX9_takeReply_66 : decode cX9_takeReply 66 = .ok (.aload 6, 2) := by decide +kernel
theorem dX9_takeReply_68 : decode cX9_takeReply 68 = .ok (.aload 5, 2) := by decide +kernel
theorem dX9_takeReply_70 : decode cX9_takeReply 70 = .ok (.getfield 305, 3) := by decide +kernel
theorem dX9_takeReply_73 : decode cX9_takeReply 73 = .ok (.invokevirtual 364, 3) := by decide +kernel
theorem dX9_takeReply_76 : decode cX9_takeReply 76 = .ok (.ifCond .eq 12, 3) := by decide +kernel
theorem dX9_takeReply_79 : decode cX9_takeReply 79 = .ok (.iload_n 3, 1) := by decide +kernel
theorem dX9_takeReply_80 : decode cX9_takeReply 80 = .ok (.iload 4, 2) := by decide +kernel
theorem dX9_takeReply_82 : decode cX9_takeReply 82 = .ok (.invokestatic 385, 3) := by decide +kernel
theorem dX9_takeReply_85 : decode cX9_takeReply 85 = .ok (.ifCond .ne 16, 3) := by decide +kernel
theorem dX9_takeReply_88 : decode cX9_takeReply 88 = .ok (.aload_n 0, 1) := by decide +kernel
theorem dX9_takeReply_89 : decode cX9_takeReply 89 = .ok (.dup, 1) := by decide +kernel
theorem dX9_takeReply_90 : decode cX9_takeReply 90 = .ok (.getfield 261, 3) := by decide +kernel
theorem dX9_takeReply_93 : decode cX9_takeReply 93 = .ok (.iconst 1, 1) := by decide +kernel
theorem dX9_takeReply_94 : decode cX9_takeReply 94 = .ok (.iadd, 1) := by decide +kernel
theorem dX9_takeReply_95 : decode cX9_takeReply 95 = .ok (.putfield 261, 3) := by decide +kernel
theorem dX9_takeReply_98 : decode cX9_takeReply 98 = .ok (.goto 71, 3) := by decide +kernel
theorem dX9_takeReply_101 : decode cX9_takeReply 101 = .ok (.iload_n 3, 1) := by decide +kernel
theorem dX9_takeReply_102 : decode cX9_takeReply 102 = .ok (.ifCond .ne 14, 3) := by decide +kernel
theorem dX9_takeReply_105 : decode cX9_takeReply 105 = .ok (.aload_n 0, 1) := by decide +kernel
theorem dX9_takeReply_106 : decode cX9_takeReply 106 = .ok (.aload 5, 2) := by decide +kernel
theorem dX9_takeReply_108 : decode cX9_takeReply 108 = .ok (.iload 4, 2) := by decide +kernel
theorem dX9_takeReply_110 : decode cX9_takeReply 110 = .ok (.invokevirtual 388, 3) := by decide +kernel
theorem dX9_takeReply_113 : decode cX9_takeReply 113 = .ok (.goto 56, 3) := by decide +kernel
theorem dX9_takeReply_116 : decode cX9_takeReply 116 = .ok (.new 238, 3) := by decide +kernel
theorem dX9_takeReply_119 : decode cX9_takeReply 119 = .ok (.dup, 1) := by decide +kernel
theorem dX9_takeReply_120 : decode cX9_takeReply 120 = .ok (.aload 6, 2) := by decide +kernel
theorem dX9_takeReply_122 : decode cX9_takeReply 122 = .ok (.iload_n 3, 1) := by decide +kernel
theorem dX9_takeReply_123 : decode cX9_takeReply 123 = .ok (.iconst 2, 1) := by decide +kernel
theorem dX9_takeReply_124 : decode cX9_takeReply 124 = .ok (.if_icmp .ne 7, 3) := by decide +kernel
theorem dX9_takeReply_127 : decode cX9_takeReply 127 = .ok (.iconst (-1), 1) := by decide +kernel
theorem dX9_takeReply_128 : decode cX9_takeReply 128 = .ok (.goto 5, 3) := by decide +kernel
theorem dX9_takeReply_131 : decode cX9_takeReply 131 = .ok (.iload 4, 2) := by decide +kernel
theorem dX9_takeReply_133 : decode cX9_takeReply 133 = .ok (.aload_n 0, 1) := by decide +kernel
theorem dX9_takeReply_134 : decode cX9_takeReply 134 = .ok (.getfield 36, 3) := by decide +kernel
theorem dX9_takeReply_137 : decode cX9_takeReply 137 = .ok (.iconst 5, 1) := by decide +kernel
theorem dX9_takeReply_138 : decode cX9_takeReply 138 = .ok (.iaload, 1) := by decide +kernel
theorem dX9_takeReply_139 : decode cX9_takeReply 139 = .ok (.aload_n 0, 1) := by decide +kernel
theorem dX9_takeReply_140 : decode cX9_takeReply 140 = .ok (.getfield 135, 3) := by decide +kernel
theorem dX9_takeReply_143 : decode cX9_takeReply 143 = .ok (.invokespecial 392, 3) := by decide +kernel
theorem dX9_takeReply_146 : decode cX9_takeReply 146 = .ok (.astore 7, 2) := by decide +kernel
theorem dX9_takeReply_148 : decode cX9_takeReply 148 = .ok (.aload_n 2, 1) := by decide +kernel
theorem dX9_takeReply_149 : decode cX9_takeReply 149 = .ok (.getfield 227, 3) := by decide +kernel
theorem dX9_takeReply_152 : decode cX9_takeReply 152 = .ok (.aload 7, 2) := by decide +kernel
theorem dX9_takeReply_154 : decode cX9_takeReply 154 = .ok (.aload_n 0, 1) := by decide +kernel
theorem dX9_takeReply_155 : decode cX9_takeReply 155 = .ok (.getfield 135, 3) := by decide +kernel
theorem dX9_takeReply_158 : decode cX9_takeReply 158 = .ok (.invokevirtual 395, 3) := by decide +kernel
theorem dX9_takeReply_161 : decode cX9_takeReply 161 = .ok (.aload_n 0, 1) := by decide +kernel
theorem dX9_takeReply_162 : decode cX9_takeReply 162 = .ok (.aload 7, 2) := by decide +kernel
theorem dX9_takeReply_164 : decode cX9_takeReply 164 = .ok (.aload 5, 2) := by decide +kernel
theorem dX9_takeReply_166 : decode cX9_takeReply 166 = .ok (.invokevirtual 318, 3) := by decide +kernel
theorem dX9_takeReply_169 : decode cX9_takeReply 169 = .ok (.return_, 1) := by decide +kernel
def j_X9_takeReply_88 (σ : HS) (l0 : Option Nat) : Option (Unit × HS) :=
  h_b1 (h_gI σ l0 10 12) fun x36 =>
  h_b1 (h_pI σ l0 10 12 (x36 + 1)) fun s38 =>
  some ((), s38)
def j_X9_takeReply_133 (σ : HS) (l0 : Option Nat) (l2 : Option Nat) (l5 : Option Nat) (t0 : Int32) (t1 : Option Nat) (t2 : Option Nat) (t3 : Option Nat) : Option (Unit × HS) :=
  h_b1 (h_gR σ l0 10 5) fun x58 =>
  h_b1 (h_aI σ x58 100 5) fun x60 =>
  h_b1 (h_gI σ l0 10 9) fun x62 =>
  h_b1 (h_rcv σ t2 2) fun y67 =>
  h_bd (f_X1_init σ t2 t1 t0 x60 x62) fun _ s65 =>
  h_b1 (h_gR s65 l2 8 4) fun x69 =>
  h_b1 (h_gI s65 l0 10 9) fun x71 =>
  h_b1 (h_rcv s65 x69 3) fun y76 =>
  h_bd (f_X2_make s65 x69 t3 x71) fun _ s74 =>
  h_b1 (h_rcv s74 l0 10) fun y81 =>
  h_bd (f_X9_follow s74 l0 t3 l5) fun _ s79 =>
  some ((), s79)
def f_X9_takeReply (σ : HS) (a0 : Option Nat) (a1 : Int32) : Option (Unit × HS) :=
  h_b1 (h_rcv σ a0 10) fun y4 =>
  h_bd (f_X9_siteAt σ a0 a1) fun r1 s2 =>
  if r1 = none then
    some ((), s2)
  else
    h_b1 (h_gR s2 a0 10 5) fun x7 =>
    h_b1 (h_aI s2 x7 100 1) fun x9 =>
    h_b1 (h_gR s2 a0 10 5) fun x11 =>
    h_b1 (h_aI s2 x11 100 4) fun x13 =>
    h_b1 (h_gR s2 a0 10 5) fun x15 =>
    h_b1 (h_aI s2 x15 100 0) fun x17 =>
    h_b1 (h_rcv s2 a0 10) fun y22 =>
    h_bd (f_X9_waiting s2 a0 a1 x17) fun r19 s20 =>
    h_b1 (h_gR s20 a0 10 5) fun x24 =>
    h_b1 (h_aI s20 x24 100 2) fun x26 =>
    h_b1 (h_gR s20 a0 10 5) fun x28 =>
    h_b1 (h_aI s20 x28 100 3) fun x30 =>
    h_bd (f_X4_of s20 x26 x30) fun r32 s33 =>
    if r19 = none then
      j_X9_takeReply_88 s33 a0 
    else
      if r32 = none then
        j_X9_takeReply_88 s33 a0 
      else
        h_b1 (h_gI s33 r19 4 2) fun x41 =>
        h_b1 (h_rcv s33 r32 5) fun y46 =>
        h_bd (f_X4_has s33 r32 x41) fun r43 s44 =>
        if r43 = 0 then
          j_X9_takeReply_88 s44 a0 
        else
          h_bd (f_X9_isValue s44 x9 x13) fun r49 s50 =>
          if r49 = 0 then
            j_X9_takeReply_88 s50 a0 
          else
            if x9 = 0 then
              h_b1 (h_rcv s50 a0 10) fun y86 =>
              h_bd (f_X9_refer s50 a0 r19 x13) fun _ s84 =>
              some ((), s84)
            else
              h_bd (h_mk s50 2 4) fun x54 s55 =>
              if x9 = 2 then
                j_X9_takeReply_133 s55 a0 r1 r19 (-1) r32 x54 x54
              else
                j_X9_takeReply_133 s55 a0 r1 r19 x13 r32 x54 x54
set_option maxHeartbeats 4000000 in
set_option maxRecDepth 100000 in
theorem jw_X9_takeReply_88 {p : Program} {l : Launch} {e : Env} {R : Room} {s : State} {m : MethodId} {args : Array Value} {below : List Frame} {meth : Method} {c : Code} {D : va_G} {dA : Nat → ClassId} {bs : Nat} (C : h_C p m c cX9_takeReply 8 s args RX9 D dA) {σ0 : HS} (B : h_B R s meth σ0 none 5 157) {σ' : HS} : ∀ (σ : HS) (l0 : Option Nat), j_X9_takeReply_88 σ l0 = some ((), σ') → V p l e R s m args below meth c D dA bs 8 (MQ below (h_Q D dA bs none σ0 σ') args s R.cells R.slots (fun q => bs ≤ q)) σ 88 [(0, va_rf l0)] [] := by
  intro σ l0 h
  unfold j_X9_takeReply_88 at h
  refine V_aload_n C 0 dX9_takeReply_88 rfl rfl ?_
  refine V_dupR C dX9_takeReply_89 ?_
  obtain ⟨x36, e37, h⟩ := h_b1_some h
  refine V_getI C fl_RX9_261 dX9_takeReply_90 e37 ?_
  refine V_iconst (v := 1) C dX9_takeReply_93 (by decide) ?_
  refine V_iadd C dX9_takeReply_94 ?_
  obtain ⟨s38, e39, h⟩ := h_b1_some h
  refine V_putI C fw_RX9_261 dX9_takeReply_95 e39 ?_
  refine V_goto (tgt := 169) C dX9_takeReply_98 (by decide) ?_
  cases h
  exact V_vret C B dX9_takeReply_169
set_option maxHeartbeats 4000000 in
set_option maxRecDepth 100000 in
theorem jw_X9_takeReply_133 {p : Program} {l : Launch} {e : Env} {R : Room} {s : State} {m : MethodId} {args : Array Value} {below : List Frame} {meth : Method} {c : Code} {D : va_G} {dA : Nat → ClassId} {bs : Nat} (C : h_C p m c cX9_takeReply 8 s args RX9 D dA) {σ0 : HS} (B : h_B R s meth σ0 none 5 157) {σ' : HS} : ∀ (σ : HS) (l0 : Option Nat) (l2 : Option Nat) (l5 : Option Nat) (t0 : Int32) (t1 : Option Nat) (t2 : Option Nat) (t3 : Option Nat), j_X9_takeReply_133 σ l0 l2 l5 t0 t1 t2 t3 = some ((), σ') → V p l e R s m args below meth c D dA bs 8 (MQ below (h_Q D dA bs none σ0 σ') args s R.cells R.slots (fun q => bs ≤ q)) σ 133 [(0, va_rf l0), (2, va_rf l2), (5, va_rf l5)] [.int t0, va_rf t1, va_rf t2, va_rf t3] := by
  intro σ l0 l2 l5 t0 t1 t2 t3 h
  unfold j_X9_takeReply_133 at h
  refine V_aload_n C 0 dX9_takeReply_133 rfl rfl ?_
  obtain ⟨x58, e59, h⟩ := h_b1_some h
  refine V_getR C fl_RX9_36 dX9_takeReply_134 e59 ?_
  refine V_iconst (v := 5) C dX9_takeReply_137 (by decide) ?_
  obtain ⟨x60, e61, h⟩ := h_b1_some h
  refine V_iald C dX9_takeReply_138 e61 ?_
  refine V_aload_n C 0 dX9_takeReply_139 rfl rfl ?_
  obtain ⟨x62, e63, h⟩ := h_b1_some h
  refine V_getI C fl_RX9_135 dX9_takeReply_140 e63 ?_
  obtain ⟨y67, e68, h⟩ := h_b1_some h
  obtain ⟨r64, s65, e66, h⟩ := h_bd_some h
  refine V_cI (As := [va_rf t1, .int t0, .int x60, .int x62]) (rest := [va_rf t3]) C mi_RX9_392 (m_X1_init l D dA bs e66) e68 rfl rfl (Nat.le_trans (h_wR h_w0) (by decide)) (h_fr B (by decide)) (h_lo B (by decide)) dX9_takeReply_143 ?_
  refine V_astore (lv' := [(7, va_rf t3), (0, va_rf l0), (2, va_rf l2), (5, va_rf l5)]) C dX9_takeReply_146 (by decide) rfl ?_
  refine V_aload_n C 2 dX9_takeReply_148 rfl rfl ?_
  obtain ⟨x69, e70, h⟩ := h_b1_some h
  refine V_getR C fl_RX9_227 dX9_takeReply_149 e70 ?_
  refine V_aload C 0 dX9_takeReply_152 rfl ?_
  refine V_aload_n C 1 dX9_takeReply_154 rfl rfl ?_
  obtain ⟨x71, e72, h⟩ := h_b1_some h
  refine V_getI C fl_RX9_135 dX9_takeReply_155 e72 ?_
  obtain ⟨y76, e77, h⟩ := h_b1_some h
  obtain ⟨r73, s74, e75, h⟩ := h_bd_some h
  refine V_cV (As := [va_rf t3, .int x71]) (rest := []) C mv_RX9_395 (m_X2_make l D dA bs e75) e77 rfl rfl (Nat.le_trans h_w0 (by decide)) (h_fr B (by decide)) (h_lo B (by decide)) dX9_takeReply_158 ?_
  refine V_aload_n C 1 dX9_takeReply_161 rfl rfl ?_
  refine V_aload C 0 dX9_takeReply_162 rfl ?_
  refine V_aload C 3 dX9_takeReply_164 rfl ?_
  obtain ⟨y81, e82, h⟩ := h_b1_some h
  obtain ⟨r78, s79, e80, h⟩ := h_bd_some h
  refine V_cV (As := [va_rf t3, va_rf l5]) (rest := []) C mv_RX9_318 (m_X9_follow l D dA bs e80) e82 rfl rfl (Nat.le_trans h_w0 (by decide)) (h_fr B (by decide)) (h_lo B (by decide)) dX9_takeReply_166 ?_
  cases h
  exact V_vret C B dX9_takeReply_169
set_option maxHeartbeats 4000000 in
set_option maxRecDepth 100000 in
theorem m_X9_takeReply (l : Launch) (D : va_G) (dA : Nat → ClassId) (bs : Nat) {σ σ' : HS} {a0 : Option Nat} {a1 : Int32} (h : f_X9_takeReply σ a0 a1 = some ((), σ')) : MetC l yX9_takeReply cX9_takeReply 8 none 5 157 D dA bs [va_rf a0, .int a1] none σ σ' := by
  refine MetC.of (by decide) (h_avR (h_avI h_av0)) (Nat.le_of_ble_eq_true rfl) ?_
  intro p e R s m args below meth c C B hnm
  unfold f_X9_takeReply at h
  refine V_sub (lv' := [(0, va_rf a0), (1, .int a1)]) [0, 1] rfl ?_
  refine V_aload_n C 0 dX9_takeReply_0 rfl rfl ?_
  refine V_iload_n C 1 dX9_takeReply_1 rfl rfl ?_
  obtain ⟨y4, e5, h⟩ := h_b1_some h
  obtain ⟨r1, s2, e3, h⟩ := h_bd_some h
  refine V_cV (As := [.int a1]) (rest := []) C mv_RX9_107 (m_X9_siteAt l D dA bs e3) e5 rfl rfl (Nat.le_trans h_w0 (by decide)) (h_fr B (by decide)) (h_lo B (by decide)) dX9_takeReply_2 ?_
  refine V_astore_n (lv' := [(2, va_rf r1), (0, va_rf a0), (1, .int a1)]) C dX9_takeReply_5 rfl (by decide) rfl ?_
  refine V_aload_n C 0 dX9_takeReply_6 rfl rfl ?_
  refine V_ifnonnull (tgt := 11) C dX9_takeReply_7 (by decide) (fun c6 => ?_) (fun c6 => ?_)
  · rw [if_neg c6] at h
    refine V_aload_n C 1 dX9_takeReply_11 rfl rfl ?_
    obtain ⟨x7, e8, h⟩ := h_b1_some h
    refine V_getR C fl_RX9_36 dX9_takeReply_12 e8 ?_
    refine V_iconst (v := 1) C dX9_takeReply_15 (by decide) ?_
    obtain ⟨x9, e10, h⟩ := h_b1_some h
    refine V_iald C dX9_takeReply_16 e10 ?_
    refine V_istore_n (lv' := [(3, .int x9), (2, va_rf r1), (0, va_rf a0), (1, .int a1)]) C dX9_takeReply_17 rfl (by decide) rfl ?_
    refine V_aload_n C 2 dX9_takeReply_18 rfl rfl ?_
    obtain ⟨x11, e12, h⟩ := h_b1_some h
    refine V_getR C fl_RX9_36 dX9_takeReply_19 e12 ?_
    refine V_iconst (v := 4) C dX9_takeReply_22 (by decide) ?_
    obtain ⟨x13, e14, h⟩ := h_b1_some h
    refine V_iald C dX9_takeReply_23 e14 ?_
    refine V_istore (lv' := [(4, .int x13), (3, .int x9), (2, va_rf r1), (0, va_rf a0), (1, .int a1)]) C dX9_takeReply_24 (by decide) rfl ?_
    refine V_aload_n C 3 dX9_takeReply_26 rfl rfl ?_
    refine V_iload_n C 4 dX9_takeReply_27 rfl rfl ?_
    refine V_aload_n C 3 dX9_takeReply_28 rfl rfl ?_
    obtain ⟨x15, e16, h⟩ := h_b1_some h
    refine V_getR C fl_RX9_36 dX9_takeReply_29 e16 ?_
    refine V_iconst (v := 0) C dX9_takeReply_32 (by decide) ?_
    obtain ⟨x17, e18, h⟩ := h_b1_some h
    refine V_iald C dX9_takeReply_33 e18 ?_
    obtain ⟨y22, e23, h⟩ := h_b1_some h
    obtain ⟨r19, s20, e21, h⟩ := h_bd_some h
    refine V_cV (As := [.int a1, .int x17]) (rest := []) C mv_RX9_381 (m_X9_waiting l D dA bs e21) e23 rfl rfl (Nat.le_trans h_w0 (by decide)) (h_fr B (by decide)) (h_lo B (by decide)) dX9_takeReply_34 ?_
    refine V_astore (lv' := [(5, va_rf r19), (4, .int x13), (3, .int x9), (2, va_rf r1), (0, va_rf a0), (1, .int a1)]) C dX9_takeReply_37 (by decide) rfl ?_
    refine V_aload_n C 4 dX9_takeReply_39 rfl rfl ?_
    obtain ⟨x24, e25, h⟩ := h_b1_some h
    refine V_getR C fl_RX9_36 dX9_takeReply_40 e25 ?_
    refine V_iconst (v := 2) C dX9_takeReply_43 (by decide) ?_
    obtain ⟨x26, e27, h⟩ := h_b1_some h
    refine V_iald C dX9_takeReply_44 e27 ?_
    refine V_aload_n C 4 dX9_takeReply_45 rfl rfl ?_
    obtain ⟨x28, e29, h⟩ := h_b1_some h
    refine V_getR C fl_RX9_36 dX9_takeReply_46 e29 ?_
    refine V_iconst (v := 3) C dX9_takeReply_49 (by decide) ?_
    obtain ⟨x30, e31, h⟩ := h_b1_some h
    refine V_iald C dX9_takeReply_50 e31 ?_
    obtain ⟨r32, s33, e34, h⟩ := h_bd_some h
    refine V_cS (As := [.int x26, .int x30]) (rest := []) C ms_RX9_63 (m_X4_of l D dA bs e34) rfl rfl (Nat.le_trans h_w0 (by decide)) (h_fr B (by decide)) (h_lo B (by decide)) dX9_takeReply_51 ?_
    refine V_astore (lv' := [(6, va_rf r32), (5, va_rf r19), (4, .int x13), (3, .int x9), (2, va_rf r1), (0, va_rf a0), (1, .int a1)]) C dX9_takeReply_54 (by decide) rfl ?_
    refine V_aload C 1 dX9_takeReply_56 rfl ?_
    refine V_ifnull (tgt := 88) C dX9_takeReply_58 (by decide) (fun c35 => ?_) (fun c35 => ?_)
    · rw [if_pos c35] at h
      exact V_sub [5] rfl (jw_X9_takeReply_88 C B s33 a0  h)
    · rw [if_neg c35] at h
      refine V_aload C 0 dX9_takeReply_61 rfl ?_
      refine V_ifnull (tgt := 88) C dX9_takeReply_63 (by decide) (fun c40 => ?_) (fun c40 => ?_)
      · rw [if_pos c40] at h
        exact V_sub [5] rfl (jw_X9_takeReply_88 C B s33 a0  h)
      · rw [if_neg c40] at h
        refine V_aload C 0 dX9_takeReply_66 rfl ?_
        refine V_aload C 1 dX9_takeReply_68 rfl ?_
        obtain ⟨x41, e42, h⟩ := h_b1_some h
        refine V_getI C fl_RX9_305 dX9_takeReply_70 e42 ?_
        obtain ⟨y46, e47, h⟩ := h_b1_some h
        obtain ⟨r43, s44, e45, h⟩ := h_bd_some h
        refine V_cV (As := [.int x41]) (rest := []) C mv_RX9_364 (m_X4_has l D dA bs e45) e47 rfl rfl (Nat.le_trans h_w0 (by decide)) (h_fr B (by decide)) (h_lo B (by decide)) dX9_takeReply_73 ?_
        refine V_if_eq (tgt := 88) C dX9_takeReply_76 (by decide) (fun c48 => ?_) (fun c48 => ?_)
        · rw [if_pos c48] at h
          exact V_sub [5] rfl (jw_X9_takeReply_88 C B s44 a0  h)
        · rw [if_neg c48] at h
          refine V_iload_n C 3 dX9_takeReply_79 rfl rfl ?_
          refine V_iload C 2 dX9_takeReply_80 rfl ?_
          obtain ⟨r49, s50, e51, h⟩ := h_bd_some h
          refine V_cS (As := [.int x9, .int x13]) (rest := []) C ms_RX9_385 (m_X9_isValue l D dA bs e51) rfl rfl (Nat.le_trans h_w0 (by decide)) (h_fr B (by decide)) (h_lo B (by decide)) dX9_takeReply_82 ?_
          refine V_if_ne (tgt := 101) C dX9_takeReply_85 (by decide) (fun c52 => ?_) (fun c52 => ?_)
          · rw [if_neg c52] at h
            refine V_iload_n C 3 dX9_takeReply_101 rfl rfl ?_
            refine V_if_ne (tgt := 116) C dX9_takeReply_102 (by decide) (fun c53 => ?_) (fun c53 => ?_)
            · rw [if_neg c53] at h
              obtain ⟨x54, s55, e56, h⟩ := h_bd_some h
              refine V_new C hcl_1 lk_RX9_238 dX9_takeReply_116 e56 ?_
              refine V_dupR C dX9_takeReply_119 ?_
              refine V_aload C 0 dX9_takeReply_120 rfl ?_
              refine V_iload_n C 3 dX9_takeReply_122 rfl rfl ?_
              refine V_iconst (v := 2) C dX9_takeReply_123 (by decide) ?_
              refine V_icmp_ne (tgt := 131) C dX9_takeReply_124 (by decide) (fun c57 => ?_) (fun c57 => ?_)
              · rw [if_neg c57] at h
                refine V_iload C 2 dX9_takeReply_131 rfl ?_
                exact V_sub [5, 4, 1] rfl (jw_X9_takeReply_133 C B s55 a0 r1 r19 x13 r32 x54 x54 h)
              · rw [if_pos c57] at h
                refine V_iconst (v := (-1)) C dX9_takeReply_127 (by decide) ?_
                refine V_goto (tgt := 133) C dX9_takeReply_128 (by decide) ?_
                exact V_sub [5, 4, 1] rfl (jw_X9_takeReply_133 C B s55 a0 r1 r19 (-1) r32 x54 x54 h)
            · rw [if_pos c53] at h
              refine V_aload_n C 5 dX9_takeReply_105 rfl rfl ?_
              refine V_aload C 1 dX9_takeReply_106 rfl ?_
              refine V_iload C 2 dX9_takeReply_108 rfl ?_
              obtain ⟨y86, e87, h⟩ := h_b1_some h
              obtain ⟨r83, s84, e85, h⟩ := h_bd_some h
              refine V_cV (As := [va_rf r19, .int x13]) (rest := []) C mv_RX9_388 (m_X9_refer l D dA bs e85) e87 rfl rfl (Nat.le_trans h_w0 (by decide)) (h_fr B (by decide)) (h_lo B (by decide)) dX9_takeReply_110 ?_
              refine V_goto (tgt := 169) C dX9_takeReply_113 (by decide) ?_
              cases h
              exact V_vret C B dX9_takeReply_169
          · rw [if_pos c52] at h
            exact V_sub [5] rfl (jw_X9_takeReply_88 C B s50 a0  h)
  · rw [if_pos c6] at h
    cases h
    exact V_vret C B dX9_takeReply_10
/-! X9_postReply -/
theorem dX9_postReply_0 : decode cX9_postReply 0 = .ok (.aload_n 0, 1) := by decide +kernel
theorem dX9_postReply_1 : decode cX9_postReply 1 = .ok (.getfield 39, 3) := by decide +kernel
theorem dX9_postReply_4 : decode cX9_postReply 4 = .ok (.iconst 0, 1) := by decide +kernel
theorem dX9_postReply_5 : decode cX9_postReply 5 = .ok (.iload_n 2, 1) := by decide +kernel
theorem dX9_postReply_6 : decode cX9_postReply 6 = .ok (.iastore, 1) := by decide +kernel
theorem dX9_postReply_7 : decode cX9_postReply 7 = .ok (.aload_n 0, 1) := by decide +kernel
theorem dX9_postReply_8 : decode cX9_postReply 8 = .ok (.getfield 39, 3) := by decide +kernel
theorem dX9_postReply_11 : decode cX9_postReply 11 = .ok (.iconst 1, 1) := by decide +kernel
theorem dX9_postReply_12 : decode cX9_postReply 12 = .ok (.iload_n 3, 1) := by decide +kernel
theorem dX9_postReply_13 : decode cX9_postReply 13 = .ok (.iastore, 1) := by decide +kernel
theorem dX9_postReply_14 : decode cX9_postReply 14 = .ok (.aload_n 0, 1) := by decide +kernel
theorem dX9_postReply_15 : decode cX9_postReply 15 = .ok (.getfield 39, 3) := by decide +kernel
theorem dX9_postReply_18 : decode cX9_postReply 18 = .ok (.iconst 2, 1) := by decide +kernel
theorem dX9_postReply_19 : decode cX9_postReply 19 = .ok (.aload 4, 2) := by decide +kernel
theorem dX9_postReply_21 : decode cX9_postReply 21 = .ok (.getfield 287, 3) := by decide +kernel
theorem dX9_postReply_24 : decode cX9_postReply 24 = .ok (.iastore, 1) := by decide +kernel
theorem dX9_postReply_25 : decode cX9_postReply 25 = .ok (.aload_n 0, 1) := by decide +kernel
theorem dX9_postReply_26 : decode cX9_postReply 26 = .ok (.getfield 39, 3) := by decide +kernel
theorem dX9_postReply_29 : decode cX9_postReply 29 = .ok (.iconst 3, 1) := by decide +kernel
theorem dX9_postReply_30 : decode cX9_postReply 30 = .ok (.aload 4, 2) := by decide +kernel
theorem dX9_postReply_32 : decode cX9_postReply 32 = .ok (.getfield 242, 3) := by decide +kernel
theorem dX9_postReply_35 : decode cX9_postReply 35 = .ok (.iastore, 1) := by decide +kernel
theorem dX9_postReply_36 : decode cX9_postReply 36 = .ok (.aload_n 0, 1) := by decide +kernel
theorem dX9_postReply_37 : decode cX9_postReply 37 = .ok (.getfield 39, 3) := by decide +kernel
theorem dX9_postReply_40 : decode cX9_postReply 40 = .ok (.iconst 4, 1) := by decide +kernel
theorem dX9_postReply_41 : decode cX9_postReply 41 = .ok (.iload 5, 2) := by decide +kernel
theorem dX9_postReply_43 : decode cX9_postReply 43 = .ok (.iastore, 1) := by decide +kernel
theorem dX9_postReply_44 : decode cX9_postReply 44 = .ok (.aload_n 0, 1) := by decide +kernel
theorem dX9_postReply_45 : decode cX9_postReply 45 = .ok (.getfield 39, 3) := by decide +kernel
theorem dX9_postReply_48 : decode cX9_postReply 48 = .ok (.iconst 5, 1) := by decide +kernel
theorem dX9_postReply_49 : decode cX9_postReply 49 = .ok (.iload 6, 2) := by decide +kernel
theorem dX9_postReply_51 : decode cX9_postReply 51 = .ok (.iastore, 1) := by decide +kernel
theorem dX9_postReply_52 : decode cX9_postReply 52 = .ok (.aload_n 0, 1) := by decide +kernel
theorem dX9_postReply_53 : decode cX9_postReply 53 = .ok (.getfield 32, 3) := by decide +kernel
theorem dX9_postReply_56 : decode cX9_postReply 56 = .ok (.iconst 2, 1) := by decide +kernel
theorem dX9_postReply_57 : decode cX9_postReply 57 = .ok (.iload_n 1, 1) := by decide +kernel
theorem dX9_postReply_58 : decode cX9_postReply 58 = .ok (.aload_n 0, 1) := by decide +kernel
theorem dX9_postReply_59 : decode cX9_postReply 59 = .ok (.getfield 39, 3) := by decide +kernel
theorem dX9_postReply_62 : decode cX9_postReply 62 = .ok (.invokevirtual 291, 3) := by decide +kernel
theorem dX9_postReply_65 : decode cX9_postReply 65 = .ok (.return_, 1) := by decide +kernel
def f_X9_postReply (σ : HS) (a0 : Option Nat) (a1 : Int32) (a2 : Int32) (a3 : Int32) (a4 : Option Nat) (a5 : Int32) (a6 : Int32) : Option (Unit × HS) :=
  h_b1 (h_gR σ a0 10 6) fun x1 =>
  h_b1 (h_sI σ x1 100 0 a2) fun s3 =>
  h_b1 (h_gR s3 a0 10 6) fun x5 =>
  h_b1 (h_sI s3 x5 100 1 a3) fun s7 =>
  h_b1 (h_gR s7 a0 10 6) fun x9 =>
  h_b1 (h_gI s7 a4 5 0) fun x11 =>
  h_b1 (h_sI s7 x9 100 2 x11) fun s13 =>
  h_b1 (h_gR s13 a0 10 6) fun x15 =>
  h_b1 (h_gI s13 a4 5 1) fun x17 =>
  h_b1 (h_sI s13 x15 100 3 x17) fun s19 =>
  h_b1 (h_gR s19 a0 10 6) fun x21 =>
  h_b1 (h_sI s19 x21 100 4 a5) fun s23 =>
  h_b1 (h_gR s23 a0 10 6) fun x25 =>
  h_b1 (h_sI s23 x25 100 5 a6) fun s27 =>
  h_b1 (h_gR s27 a0 10 4) fun x29 =>
  h_b1 (h_gR s27 a0 10 6) fun x31 =>
  h_b1 (h_rcv s27 x29 6) fun y36 =>
  h_bd (f_X5_add s27 x29 2 a1 x31) fun _ s34 =>
  some ((), s34)
set_option maxHeartbeats 4000000 in
set_option maxRecDepth 100000 in
theorem m_X9_postReply (l : Launch) (D : va_G) (dA : Nat → ClassId) (bs : Nat) {σ σ' : HS} {a0 : Option Nat} {a1 : Int32} {a2 : Int32} {a3 : Int32} {a4 : Option Nat} {a5 : Int32} {a6 : Int32} (h : f_X9_postReply σ a0 a1 a2 a3 a4 a5 a6 = some ((), σ')) : MetC l yX9_postReply cX9_postReply 7 none 2 88 D dA bs [va_rf a0, .int a1, .int a2, .int a3, va_rf a4, .int a5, .int a6] none σ σ' := by
  refine MetC.of (by decide) (h_avR (h_avI (h_avI (h_avI (h_avR (h_avI (h_avI h_av0))))))) (Nat.le_of_ble_eq_true rfl) ?_
  intro p e R s m args below meth c C B hnm
  unfold f_X9_postReply at h
  refine V_sub (lv' := [(0, va_rf a0), (1, .int a1), (2, .int a2), (3, .int a3), (4, va_rf a4), (5, .int a5), (6, .int a6)]) [0, 1, 2, 3, 4, 5, 6] rfl ?_
  refine V_aload_n C 0 dX9_postReply_0 rfl rfl ?_
  obtain ⟨x1, e2, h⟩ := h_b1_some h
  refine V_getR C fl_RX9_39 dX9_postReply_1 e2 ?_
  refine V_iconst (v := 0) C dX9_postReply_4 (by decide) ?_
  refine V_iload_n C 2 dX9_postReply_5 rfl rfl ?_
  obtain ⟨s3, e4, h⟩ := h_b1_some h
  refine V_iast C dX9_postReply_6 e4 ?_
  refine V_aload_n C 0 dX9_postReply_7 rfl rfl ?_
  obtain ⟨x5, e6, h⟩ := h_b1_some h
  refine V_getR C fl_RX9_39 dX9_postReply_8 e6 ?_
  refine V_iconst (v := 1) C dX9_postReply_11 (by decide) ?_
  refine V_iload_n C 3 dX9_postReply_12 rfl rfl ?_
  obtain ⟨s7, e8, h⟩ := h_b1_some h
  refine V_iast C dX9_postReply_13 e8 ?_
  refine V_aload_n C 0 dX9_postReply_14 rfl rfl ?_
  obtain ⟨x9, e10, h⟩ := h_b1_some h
  refine V_getR C fl_RX9_39 dX9_postReply_15 e10 ?_
  refine V_iconst (v := 2) C dX9_postReply_18 (by decide) ?_
  refine V_aload C 4 dX9_postReply_19 rfl ?_
  obtain ⟨x11, e12, h⟩ := h_b1_some h
  refine V_getI C fl_RX9_287 dX9_postReply_21 e12 ?_
  obtain ⟨s13, e14, h⟩ := h_b1_some h
  refine V_iast C dX9_postReply_24 e14 ?_
  refine V_aload_n C 0 dX9_postReply_25 rfl rfl ?_
  obtain ⟨x15, e16, h⟩ := h_b1_some h
  refine V_getR C fl_RX9_39 dX9_postReply_26 e16 ?_
  refine V_iconst (v := 3) C dX9_postReply_29 (by decide) ?_
  refine V_aload C 4 dX9_postReply_30 rfl ?_
  obtain ⟨x17, e18, h⟩ := h_b1_some h
  refine V_getI C fl_RX9_242 dX9_postReply_32 e18 ?_
  obtain ⟨s19, e20, h⟩ := h_b1_some h
  refine V_iast C dX9_postReply_35 e20 ?_
  refine V_aload_n C 0 dX9_postReply_36 rfl rfl ?_
  obtain ⟨x21, e22, h⟩ := h_b1_some h
  refine V_getR C fl_RX9_39 dX9_postReply_37 e22 ?_
  refine V_iconst (v := 4) C dX9_postReply_40 (by decide) ?_
  refine V_iload C 5 dX9_postReply_41 rfl ?_
  obtain ⟨s23, e24, h⟩ := h_b1_some h
  refine V_iast C dX9_postReply_43 e24 ?_
  refine V_aload_n C 0 dX9_postReply_44 rfl rfl ?_
  obtain ⟨x25, e26, h⟩ := h_b1_some h
  refine V_getR C fl_RX9_39 dX9_postReply_45 e26 ?_
  refine V_iconst (v := 5) C dX9_postReply_48 (by decide) ?_
  refine V_iload C 6 dX9_postReply_49 rfl ?_
  obtain ⟨s27, e28, h⟩ := h_b1_some h
  refine V_iast C dX9_postReply_51 e28 ?_
  refine V_aload_n C 0 dX9_postReply_52 rfl rfl ?_
  obtain ⟨x29, e30, h⟩ := h_b1_some h
  refine V_getR C fl_RX9_32 dX9_postReply_53 e30 ?_
  refine V_iconst (v := 2) C dX9_postReply_56 (by decide) ?_
  refine V_iload_n C 1 dX9_postReply_57 rfl rfl ?_
  refine V_aload_n C 0 dX9_postReply_58 rfl rfl ?_
  obtain ⟨x31, e32, h⟩ := h_b1_some h
  refine V_getR C fl_RX9_39 dX9_postReply_59 e32 ?_
  obtain ⟨y36, e37, h⟩ := h_b1_some h
  obtain ⟨r33, s34, e35, h⟩ := h_bd_some h
  refine V_cV (As := [.int 2, .int a1, va_rf x31]) (rest := []) C mv_RX9_291 (m_X5_add l D dA bs e35) e37 rfl rfl (Nat.le_trans h_w0 (by decide)) (h_fr B (by decide)) (h_lo B (by decide)) dX9_postReply_62 ?_
  cases h
  exact V_vret C B dX9_postReply_65
/-! X9_takeRequest -/
theorem dX9_takeRequest_0 : decode cX9_takeRequest 0 = .ok (.aload_n 0, 1) := by decide +kernel
theorem dX9_takeRequest_1 : decode cX9_takeRequest 1 = .ok (.getfield 36, 3) := by decide +kernel
theorem dX9_takeRequest_4 : decode cX9_takeRequest 4 = .ok (.iconst 0, 1) := by decide +kernel
theorem dX9_takeRequest_5 : decode cX9_takeRequest 5 = .ok (.iaload, 1) := by decide +kernel
theorem dX9_takeRequest_6 : decode cX9_takeRequest 6 = .ok (.istore_n 2, 1) := by decide +kernel
theorem dX9_takeRequest_7 : decode cX9_takeRequest 7 = .ok (.aload_n 0, 1) := by decide +kernel
theorem dX9_takeRequest_8 : decode cX9_takeRequest 8 = .ok (.getfield 36, 3) := by decide +kernel
theorem dX9_takeRequest_11 : decode cX9_takeRequest 11 = .ok (.iconst 1, 1) := by decide +kernel
theorem dX9_takeRequest_12 : decode cX9_takeRequest 12 = .ok (.iaload, 1) := by decide +kernel
theorem dX9_takeRequest_13 : decode cX9_takeRequest 13 = .ok (.istore_n 3, 1) := by decide +kernel
theorem dX9_takeRequest_14 : decode cX9_takeRequest 14 = .ok (.aload_n 0, 1) := by decide +kernel
theorem dX9_takeRequest_15 : decode cX9_takeRequest 15 = .ok (.getfield 36, 3) := by decide +kernel
theorem dX9_takeRequest_18 : decode cX9_takeRequest 18 = .ok (.iconst 2, 1) := by decide +kernel
theorem dX9_takeRequest_19 : decode cX9_takeRequest 19 = .ok (.iaload, 1) := by decide +kernel
theorem dX9_takeRequest_20 : decode cX9_takeRequest 20 = .ok (.istore 4, 2) := by decide +kernel
theorem dX9_takeRequest_22 : decode cX9_takeRequest 22 = .ok (.aload_n 1, 1) := by decide +kernel
theorem dX9_takeRequest_23 : decode cX9_takeRequest 23 = .ok (.ifnull 23, 3) := by decide +kernel
theorem dX9_takeRequest_26 : decode cX9_takeRequest 26 = .ok (.aload_n 0, 1) := by decide +kernel
theorem dX9_takeRequest_27 : decode cX9_takeRequest 27 = .ok (.iload_n 2, 1) := by decide +kernel
theorem dX9_takeRequest_28 : decode cX9_takeRequest 28 = .ok (.invokevirtual 107, 3) := by decide +kernel
theorem dX9_takeRequest_31 : decode cX9_takeRequest 31 = .ok (.ifnull 15, 3) := by decide +kernel
theorem dX9_takeRequest_34 : decode cX9_takeRequest 34 = .ok (.aload_n 1, 1) := by decide +kernel
theorem dX9_takeRequest_35 : decode cX9_takeRequest 35 = .ok (.getfield 69, 3) := by decide +kernel
theorem dX9_takeRequest_38 : decode cX9_takeRequest 38 = .ok (.iload 4, 2) := by decide +kernel
theorem dX9_takeRequest_40 : decode cX9_takeRequest 40 = .ok (.invokevirtual 364, 3) := by decide +kernel
theorem dX9_takeRequest_43 : decode cX9_takeRequest 43 = .ok (.ifCond .ne 4, 3) := by decide +kernel
theorem dX9_takeRequest_46 : decode cX9_takeRequest 46 = .ok (.return_, 1) := by decide +kernel
theorem dX9_takeRequest_47 : decode cX9_takeRequest 47 = .ok (.aload_n 0, 1) := by decide +kernel
theorem dX9_takeRequest_48 : decode cX9_takeRequest 48 = .ok (.getfield 10, 3) := by decide +kernel
theorem dX9_takeRequest_51 : decode cX9_takeRequest 51 = .ok (.aload_n 1, 1) := by decide +kernel
theorem dX9_takeRequest_52 : decode cX9_takeRequest 52 = .ok (.iload 4, 2) := by decide +kernel
theorem dX9_takeRequest_54 : decode cX9_takeRequest 54 = .ok (.invokevirtual 365, 3) := by decide +kernel
theorem dX9_takeRequest_57 : decode cX9_takeRequest 57 = .ok (.astore 5, 2) := by decide +kernel
theorem dX9_takeRequest_59 : decode cX9_takeRequest 59 = .ok (.aload 5, 2) := by decide +kernel
theorem dX9_takeRequest_61 : decode cX9_takeRequest 61 = .ok (.ifnull 22, 3) := by decide +kernel
theorem dX9_takeRequest_64 : decode cX9_takeRequest 64 = .ok (.aload_n 0, 1) := by decide +kernel
theorem dX9_takeRequest_65 : decode cX9_takeRequest 65 = .ok (.iload_n 2, 1) := by decide +kernel
theorem dX9_takeRequest_66 : decode cX9_takeRequest 66 = .ok (.iload_n 3, 1) := by decide +kernel
theorem dX9_takeRequest_67 : decode cX9_takeRequest 67 = .ok (.iconst 0, 1) := by decide +kernel
theorem dX9_takeRequest_68 : decode cX9_takeRequest 68 = .ok (.aload 5, 2) := by decide +kernel
theorem dX9_takeRequest_70 : decode cX9_takeRequest 70 = .ok (.getfield 69, 3) := by decide +kernel
theorem dX9_takeRequest_73 : decode cX9_takeRequest 73 = .ok (.aload 5, 2) := by decide +kernel
theorem dX9_takeRequest_75 : decode cX9_takeRequest 75 = .ok (.getfield 150, 3) := by decide +kernel
theorem dX9_takeRequest_78 : decode cX9_takeRequest 78 = .ok (.iconst 0, 1) := by decide +kernel
theorem dX9_takeRequest_79 : decode cX9_takeRequest 79 = .ok (.invokevirtual 369, 3) := by decide +kernel
theorem dX9_takeRequest_82 : decode cX9_takeRequest 82 = .ok (.return_, 1) := by decide +kernel
theorem dX9_takeRequest_83 : decode cX9_takeRequest 83 = .ok (.aload_n 1, 1) := by decide +kernel
theorem dX9_takeRequest_84 : decode cX9_takeRequest 84 = .ok (.iload 4, 2) := by decide +kernel
theorem dX9_takeRequest_86 : decode cX9_takeRequest 86 = .ok (.aload_n 0, 1) := by decide +kernel
theorem dX9_takeRequest_87 : decode cX9_takeRequest 87 = .ok (.getfield 135, 3) := by decide +kernel
theorem dX9_takeRequest_90 : decode cX9_takeRequest 90 = .ok (.invokevirtual 373, 3) := by decide +kernel
theorem dX9_takeRequest_93 : decode cX9_takeRequest 93 = .ok (.astore 6, 2) := by decide +kernel
theorem dX9_takeRequest_95 : decode cX9_takeRequest 95 = .ok (.aload_n 0, 1) := by decide +kernel
theorem dX9_takeRequest_96 : decode cX9_takeRequest 96 = .ok (.getfield 10, 3) := by decide +kernel
theorem dX9_takeRequest_99 : decode cX9_takeRequest 99 = .ok (.aload_n 1, 1) := by decide +kernel
theorem dX9_takeRequest_100 : decode cX9_takeRequest 100 = .ok (.aload 6, 2) := by decide +kernel
theorem dX9_takeRequest_102 : decode cX9_takeRequest 102 = .ok (.iload 4, 2) := by decide +kernel
theorem dX9_takeRequest_104 : decode cX9_takeRequest 104 = .ok (.aload_n 0, 1) := by decide +kernel
theorem dX9_takeRequest_105 : decode cX9_takeRequest 105 = .ok (.getfield 135, 3) := by decide +kernel
theorem dX9_takeRequest_108 : decode cX9_takeRequest 108 = .ok (.invokevirtual 376, 3) := by decide +kernel
theorem dX9_takeRequest_111 : decode cX9_takeRequest 111 = .ok (.astore 7, 2) := by decide +kernel
theorem dX9_takeRequest_113 : decode cX9_takeRequest 113 = .ok (.aload 6, 2) := by decide +kernel
theorem dX9_takeRequest_115 : decode cX9_takeRequest 115 = .ok (.ifnull 25, 3) := by decide +kernel
theorem dX9_takeRequest_118 : decode cX9_takeRequest 118 = .ok (.aload_n 0, 1) := by decide +kernel
theorem dX9_takeRequest_119 : decode cX9_takeRequest 119 = .ok (.iload_n 2, 1) := by decide +kernel
theorem dX9_takeRequest_120 : decode cX9_takeRequest 120 = .ok (.iload_n 3, 1) := by decide +kernel
theorem dX9_takeRequest_121 : decode cX9_takeRequest 121 = .ok (.iconst 1, 1) := by decide +kernel
theorem dX9_takeRequest_122 : decode cX9_takeRequest 122 = .ok (.aload 7, 2) := by decide +kernel
theorem dX9_takeRequest_124 : decode cX9_takeRequest 124 = .ok (.aload 6, 2) := by decide +kernel
theorem dX9_takeRequest_126 : decode cX9_takeRequest 126 = .ok (.getfield 379, 3) := by decide +kernel
theorem dX9_takeRequest_129 : decode cX9_takeRequest 129 = .ok (.aload 6, 2) := by decide +kernel
theorem dX9_takeRequest_131 : decode cX9_takeRequest 131 = .ok (.getfield 380, 3) := by decide +kernel
theorem dX9_takeRequest_134 : decode cX9_takeRequest 134 = .ok (.invokevirtual 369, 3) := by decide +kernel
theorem dX9_takeRequest_137 : decode cX9_takeRequest 137 = .ok (.goto 14, 3) := by decide +kernel
theorem dX9_takeRequest_140 : decode cX9_takeRequest 140 = .ok (.aload_n 0, 1) := by decide +kernel
theorem dX9_takeRequest_141 : decode cX9_takeRequest 141 = .ok (.iload_n 2, 1) := by decide +kernel
theorem dX9_takeRequest_142 : decode cX9_takeRequest 142 = .ok (.iload_n 3, 1) := by decide +kernel
theorem dX9_takeRequest_143 : decode cX9_takeRequest 143 = .ok (.iconst 2, 1) := by decide +kernel
theorem dX9_takeRequest_144 : decode cX9_takeRequest 144 = .ok (.aload 7, 2) := by decide +kernel
theorem dX9_takeRequest_146 : decode cX9_takeRequest 146 = .ok (.iconst 0, 1) := by decide +kernel
theorem dX9_takeRequest_147 : decode cX9_takeRequest 147 = .ok (.iconst 0, 1) := by decide +kernel
theorem dX9_takeRequest_148 : decode cX9_takeRequest 148 = .ok (.invokevirtual 369, 3) := by decide +kernel
theorem dX9_takeRequest_151 : decode cX9_takeRequest 151 = .ok (.return_, 1) := by decide +kernel
def f_X9_takeRequest (σ : HS) (a0 : Option Nat) (a1 : Option Nat) : Option (Unit × HS) :=
  h_b1 (h_gR σ a0 10 5) fun x1 =>
  h_b1 (h_aI σ x1 100 0) fun x3 =>
  h_b1 (h_gR σ a0 10 5) fun x5 =>
  h_b1 (h_aI σ x5 100 1) fun x7 =>
  h_b1 (h_gR σ a0 10 5) fun x9 =>
  h_b1 (h_aI σ x9 100 2) fun x11 =>
  if a1 = none then
    some ((), σ)
  else
    h_b1 (h_rcv σ a0 10) fun y17 =>
    h_bd (f_X9_siteAt σ a0 x3) fun r14 s15 =>
    if r14 = none then
      some ((), s15)
    else
      h_b1 (h_gR s15 a1 7 2) fun x20 =>
      h_b1 (h_rcv s15 x20 5) fun y25 =>
      h_bd (f_X4_has s15 x20 x11) fun r22 s23 =>
      if r22 = 0 then
        some ((), s23)
      else
        h_b1 (h_gR s23 a0 10 0) fun x28 =>
        h_b1 (h_rcv s23 x28 9) fun y33 =>
        h_bd (f_X8_childWith s23 x28 a1 x11) fun r30 s31 =>
        if r30 = none then
          h_b1 (h_gI s31 a0 10 9) fun x36 =>
          h_b1 (h_rcv s31 a1 7) fun y41 =>
          h_bd (f_X6_best s31 a1 x11 x36) fun r38 s39 =>
          h_b1 (h_gR s39 a0 10 0) fun x43 =>
          h_b1 (h_gI s39 a0 10 9) fun x45 =>
          h_b1 (h_rcv s39 x43 9) fun y50 =>
          h_bd (f_X8_piece s39 x43 a1 r38 x11 x45) fun r47 s48 =>
          if r38 = none then
            h_b1 (h_rcv s48 a0 10) fun y56 =>
            h_bd (f_X9_postReply s48 a0 x3 x7 2 r47 0 0) fun _ s54 =>
            some ((), s54)
          else
            h_b1 (h_gI s48 r38 1 2) fun x58 =>
            h_b1 (h_gI s48 r38 1 3) fun x60 =>
            h_b1 (h_rcv s48 a0 10) fun y65 =>
            h_bd (f_X9_postReply s48 a0 x3 x7 1 r47 x58 x60) fun _ s63 =>
            some ((), s63)
        else
          h_b1 (h_gR s31 r30 7 2) fun x67 =>
          h_b1 (h_gI s31 r30 7 0) fun x69 =>
          h_b1 (h_rcv s31 a0 10) fun y74 =>
          h_bd (f_X9_postReply s31 a0 x3 x7 0 x67 x69 0) fun _ s72 =>
          some ((), s72)
set_option maxHeartbeats 4000000 in
set_option maxRecDepth 100000 in
theorem m_X9_takeRequest (l : Launch) (D : va_G) (dA : Nat → ClassId) (bs : Nat) {σ σ' : HS} {a0 : Option Nat} {a1 : Option Nat} (h : f_X9_takeRequest σ a0 a1 = some ((), σ')) : MetC l yX9_takeRequest cX9_takeRequest 8 none 4 114 D dA bs [va_rf a0, va_rf a1] none σ σ' := by
  refine MetC.of (by decide) (h_avR (h_avR h_av0)) (Nat.le_of_ble_eq_true rfl) ?_
  intro p e R s m args below meth c C B hnm
  unfold f_X9_takeRequest at h
  refine V_sub (lv' := [(0, va_rf a0), (1, va_rf a1)]) [0, 1] rfl ?_
  refine V_aload_n C 0 dX9_takeRequest_0 rfl rfl ?_
  obtain ⟨x1, e2, h⟩ := h_b1_some h
  refine V_getR C fl_RX9_36 dX9_takeRequest_1 e2 ?_
  refine V_iconst (v := 0) C dX9_takeRequest_4 (by decide) ?_
  obtain ⟨x3, e4, h⟩ := h_b1_some h
  refine V_iald C dX9_takeRequest_5 e4 ?_
  refine V_istore_n (lv' := [(2, .int x3), (0, va_rf a0), (1, va_rf a1)]) C dX9_takeRequest_6 rfl (by decide) rfl ?_
  refine V_aload_n C 1 dX9_takeRequest_7 rfl rfl ?_
  obtain ⟨x5, e6, h⟩ := h_b1_some h
  refine V_getR C fl_RX9_36 dX9_takeRequest_8 e6 ?_
  refine V_iconst (v := 1) C dX9_takeRequest_11 (by decide) ?_
  obtain ⟨x7, e8, h⟩ := h_b1_some h
  refine V_iald C dX9_takeRequest_12 e8 ?_
  refine V_istore_n (lv' := [(3, .int x7), (2, .int x3), (0, va_rf a0), (1, va_rf a1)]) C dX9_takeRequest_13 rfl (by decide) rfl ?_
  refine V_aload_n C 2 dX9_takeRequest_14 rfl rfl ?_
  obtain ⟨x9, e10, h⟩ := h_b1_some h
  refine V_getR C fl_RX9_36 dX9_takeRequest_15 e10 ?_
  refine V_iconst (v := 2) C dX9_takeRequest_18 (by decide) ?_
  obtain ⟨x11, e12, h⟩ := h_b1_some h
  refine V_iald C dX9_takeRequest_19 e12 ?_
  refine V_istore (lv' := [(4, .int x11), (3, .int x7), (2, .int x3), (0, va_rf a0), (1, va_rf a1)]) C dX9_takeRequest_20 (by decide) rfl ?_
  refine V_aload_n C 4 dX9_takeRequest_22 rfl rfl ?_
  refine V_ifnull (tgt := 46) C dX9_takeRequest_23 (by decide) (fun c13 => ?_) (fun c13 => ?_)
  · rw [if_pos c13] at h
    cases h
    exact V_vret C B dX9_takeRequest_46
  · rw [if_neg c13] at h
    refine V_aload_n C 3 dX9_takeRequest_26 rfl rfl ?_
    refine V_iload_n C 2 dX9_takeRequest_27 rfl rfl ?_
    obtain ⟨y17, e18, h⟩ := h_b1_some h
    obtain ⟨r14, s15, e16, h⟩ := h_bd_some h
    refine V_cV (As := [.int x3]) (rest := []) C mv_RX9_107 (m_X9_siteAt l D dA bs e16) e18 rfl rfl (Nat.le_trans h_w0 (by decide)) (h_fr B (by decide)) (h_lo B (by decide)) dX9_takeRequest_28 ?_
    refine V_ifnull (tgt := 46) C dX9_takeRequest_31 (by decide) (fun c19 => ?_) (fun c19 => ?_)
    · rw [if_pos c19] at h
      cases h
      exact V_vret C B dX9_takeRequest_46
    · rw [if_neg c19] at h
      refine V_aload_n C 4 dX9_takeRequest_34 rfl rfl ?_
      obtain ⟨x20, e21, h⟩ := h_b1_some h
      refine V_getR C fl_RX9_69 dX9_takeRequest_35 e21 ?_
      refine V_iload C 0 dX9_takeRequest_38 rfl ?_
      obtain ⟨y25, e26, h⟩ := h_b1_some h
      obtain ⟨r22, s23, e24, h⟩ := h_bd_some h
      refine V_cV (As := [.int x11]) (rest := []) C mv_RX9_364 (m_X4_has l D dA bs e24) e26 rfl rfl (Nat.le_trans h_w0 (by decide)) (h_fr B (by decide)) (h_lo B (by decide)) dX9_takeRequest_40 ?_
      refine V_if_ne (tgt := 47) C dX9_takeRequest_43 (by decide) (fun c27 => ?_) (fun c27 => ?_)
      · rw [if_neg c27] at h
        refine V_aload_n C 3 dX9_takeRequest_47 rfl rfl ?_
        obtain ⟨x28, e29, h⟩ := h_b1_some h
        refine V_getR C fl_RX9_10 dX9_takeRequest_48 e29 ?_
        refine V_aload_n C 4 dX9_takeRequest_51 rfl rfl ?_
        refine V_iload C 0 dX9_takeRequest_52 rfl ?_
        obtain ⟨y33, e34, h⟩ := h_b1_some h
        obtain ⟨r30, s31, e32, h⟩ := h_bd_some h
        refine V_cV (As := [va_rf a1, .int x11]) (rest := []) C mv_RX9_365 (m_X8_childWith l D dA bs e32) e34 rfl rfl (Nat.le_trans h_w0 (by decide)) (h_fr B (by decide)) (h_lo B (by decide)) dX9_takeRequest_54 ?_
        refine V_astore (lv' := [(5, va_rf r30), (4, .int x11), (3, .int x7), (2, .int x3), (0, va_rf a0), (1, va_rf a1)]) C dX9_takeRequest_57 (by decide) rfl ?_
        refine V_aload C 0 dX9_takeRequest_59 rfl ?_
        refine V_ifnull (tgt := 83) C dX9_takeRequest_61 (by decide) (fun c35 => ?_) (fun c35 => ?_)
        · rw [if_pos c35] at h
          refine V_aload_n C 5 dX9_takeRequest_83 rfl rfl ?_
          refine V_iload C 1 dX9_takeRequest_84 rfl ?_
          refine V_aload_n C 4 dX9_takeRequest_86 rfl rfl ?_
          obtain ⟨x36, e37, h⟩ := h_b1_some h
          refine V_getI C fl_RX9_135 dX9_takeRequest_87 e37 ?_
          obtain ⟨y41, e42, h⟩ := h_b1_some h
          obtain ⟨r38, s39, e40, h⟩ := h_bd_some h
          refine V_cV (As := [.int x11, .int x36]) (rest := []) C mv_RX9_373 (m_X6_best l D dA bs e40) e42 rfl rfl (Nat.le_trans h_w0 (by decide)) (h_fr B (by decide)) (h_lo B (by decide)) dX9_takeRequest_90 ?_
          refine V_astore (lv' := [(6, va_rf r38), (5, va_rf r30), (4, .int x11), (3, .int x7), (2, .int x3), (0, va_rf a0), (1, va_rf a1)]) C dX9_takeRequest_93 (by decide) rfl ?_
          refine V_aload_n C 5 dX9_takeRequest_95 rfl rfl ?_
          obtain ⟨x43, e44, h⟩ := h_b1_some h
          refine V_getR C fl_RX9_10 dX9_takeRequest_96 e44 ?_
          refine V_aload_n C 6 dX9_takeRequest_99 rfl rfl ?_
          refine V_aload C 0 dX9_takeRequest_100 rfl ?_
          refine V_iload C 2 dX9_takeRequest_102 rfl ?_
          refine V_aload_n C 5 dX9_takeRequest_104 rfl rfl ?_
          obtain ⟨x45, e46, h⟩ := h_b1_some h
          refine V_getI C fl_RX9_135 dX9_takeRequest_105 e46 ?_
          obtain ⟨y50, e51, h⟩ := h_b1_some h
          obtain ⟨r47, s48, e49, h⟩ := h_bd_some h
          refine V_cV (As := [va_rf a1, va_rf r38, .int x11, .int x45]) (rest := []) C mv_RX9_376 (m_X8_piece l D dA bs e49) e51 rfl rfl (Nat.le_trans h_w0 (by decide)) (h_fr B (by decide)) (h_lo B (by decide)) dX9_takeRequest_108 ?_
          refine V_astore (lv' := [(7, va_rf r47), (6, va_rf r38), (5, va_rf r30), (4, .int x11), (3, .int x7), (2, .int x3), (0, va_rf a0), (1, va_rf a1)]) C dX9_takeRequest_111 (by decide) rfl ?_
          refine V_aload C 1 dX9_takeRequest_113 rfl ?_
          refine V_ifnull (tgt := 140) C dX9_takeRequest_115 (by decide) (fun c52 => ?_) (fun c52 => ?_)
          · rw [if_pos c52] at h
            refine V_aload_n C 6 dX9_takeRequest_140 rfl rfl ?_
            refine V_iload_n C 5 dX9_takeRequest_141 rfl rfl ?_
            refine V_iload_n C 4 dX9_takeRequest_142 rfl rfl ?_
            refine V_iconst (v := 2) C dX9_takeRequest_143 (by decide) ?_
            refine V_aload C 0 dX9_takeRequest_144 rfl ?_
            refine V_iconst (v := 0) C dX9_takeRequest_146 (by decide) ?_
            refine V_iconst (v := 0) C dX9_takeRequest_147 (by decide) ?_
            obtain ⟨y56, e57, h⟩ := h_b1_some h
            obtain ⟨r53, s54, e55, h⟩ := h_bd_some h
            refine V_cV (As := [.int x3, .int x7, .int 2, va_rf r47, .int 0, .int 0]) (rest := []) C mv_RX9_369 (m_X9_postReply l D dA bs e55) e57 rfl rfl (Nat.le_trans h_w0 (by decide)) (h_fr B (by decide)) (h_lo B (by decide)) dX9_takeRequest_148 ?_
            cases h
            exact V_vret C B dX9_takeRequest_151
          · rw [if_neg c52] at h
            refine V_aload_n C 6 dX9_takeRequest_118 rfl rfl ?_
            refine V_iload_n C 5 dX9_takeRequest_119 rfl rfl ?_
            refine V_iload_n C 4 dX9_takeRequest_120 rfl rfl ?_
            refine V_iconst (v := 1) C dX9_takeRequest_121 (by decide) ?_
            refine V_aload C 0 dX9_takeRequest_122 rfl ?_
            refine V_aload C 1 dX9_takeRequest_124 rfl ?_
            obtain ⟨x58, e59, h⟩ := h_b1_some h
            refine V_getI C fl_RX9_379 dX9_takeRequest_126 e59 ?_
            refine V_aload C 1 dX9_takeRequest_129 rfl ?_
            obtain ⟨x60, e61, h⟩ := h_b1_some h
            refine V_getI C fl_RX9_380 dX9_takeRequest_131 e61 ?_
            obtain ⟨y65, e66, h⟩ := h_b1_some h
            obtain ⟨r62, s63, e64, h⟩ := h_bd_some h
            refine V_cV (As := [.int x3, .int x7, .int 1, va_rf r47, .int x58, .int x60]) (rest := []) C mv_RX9_369 (m_X9_postReply l D dA bs e64) e66 rfl rfl (Nat.le_trans h_w0 (by decide)) (h_fr B (by decide)) (h_lo B (by decide)) dX9_takeRequest_134 ?_
            refine V_goto (tgt := 151) C dX9_takeRequest_137 (by decide) ?_
            cases h
            exact V_vret C B dX9_takeRequest_151
        · rw [if_neg c35] at h
          refine V_aload_n C 4 dX9_takeRequest_64 rfl rfl ?_
          refine V_iload_n C 3 dX9_takeRequest_65 rfl rfl ?_
          refine V_iload_n C 2 dX9_takeRequest_66 rfl rfl ?_
          refine V_iconst (v := 0) C dX9_takeRequest_67 (by decide) ?_
          refine V_aload C 0 dX9_takeRequest_68 rfl ?_
          obtain ⟨x67, e68, h⟩ := h_b1_some h
          refine V_getR C fl_RX9_69 dX9_takeRequest_70 e68 ?_
          refine V_aload C 0 dX9_takeRequest_73 rfl ?_
          obtain ⟨x69, e70, h⟩ := h_b1_some h
          refine V_getI C fl_RX9_150 dX9_takeRequest_75 e70 ?_
          refine V_iconst (v := 0) C dX9_takeRequest_78 (by decide) ?_
          obtain ⟨y74, e75, h⟩ := h_b1_some h
          obtain ⟨r71, s72, e73, h⟩ := h_bd_some h
          refine V_cV (As := [.int x3, .int x7, .int 0, va_rf x67, .int x69, .int 0]) (rest := []) C mv_RX9_369 (m_X9_postReply l D dA bs e73) e75 rfl rfl (Nat.le_trans h_w0 (by decide)) (h_fr B (by decide)) (h_lo B (by decide)) dX9_takeRequest_79 ?_
          cases h
          exact V_vret C B dX9_takeRequest_82
      · rw [if_pos c27] at h
        cases h
        exact V_vret C B dX9_takeRequest_46
/-! X9_takeSolicit -/
theorem dX9_takeSolicit_0 : decode cX9_takeSolicit 0 = .ok (.aload_n 1, 1) := by decide +kernel
theorem dX9_takeSolicit_1 : decode cX9_takeSolicit 1 = .ok (.ifnull 26, 3) := by decide +kernel
theorem dX9_takeSolicit_4 : decode cX9_takeSolicit 4 = .ok (.aload_n 1, 1) := by decide +kernel
theorem dX9_takeSolicit_5 : decode cX9_takeSolicit 5 = .ok (.getfield 227, 3) := by decide +kernel
theorem dX9_takeSolicit_8 : decode cX9_takeSolicit 8 = .ok (.aload_n 0, 1) := by decide +kernel
theorem dX9_takeSolicit_9 : decode cX9_takeSolicit 9 = .ok (.getfield 36, 3) := by decide +kernel
theorem dX9_takeSolicit_12 : decode cX9_takeSolicit 12 = .ok (.iconst 0, 1) := by decide +kernel
theorem dX9_takeSolicit_13 : decode cX9_takeSolicit 13 = .ok (.iaload, 1) := by decide +kernel
theorem dX9_takeSolicit_14 : decode cX9_takeSolicit 14 = .ok (.aload_n 0, 1) := by decide +kernel
theorem dX9_takeSolicit_15 : decode cX9_takeSolicit 15 = .ok (.getfield 36, 3) := by decide +kernel
theorem dX9_takeSolicit_18 : decode cX9_takeSolicit 18 = .ok (.iconst 1, 1) := by decide +kernel
theorem dX9_takeSolicit_19 : decode cX9_takeSolicit 19 = .ok (.iaload, 1) := by decide +kernel
theorem dX9_takeSolicit_20 : decode cX9_takeSolicit 20 = .ok (.aload_n 0, 1) := by decide +kernel
theorem dX9_takeSolicit_21 : decode cX9_takeSolicit 21 = .ok (.getfield 135, 3) := by decide +kernel
theorem dX9_takeSolicit_24 : decode cX9_takeSolicit 24 = .ok (.invokevirtual 408, 3) := by decide +kernel
theorem dX9_takeSolicit_27 : decode cX9_takeSolicit 27 = .ok (.return_, 1) := by decide +kernel
def f_X9_takeSolicit (σ : HS) (a0 : Option Nat) (a1 : Option Nat) : Option (Unit × HS) :=
  if a1 = none then
    some ((), σ)
  else
    h_b1 (h_gR σ a1 8 4) fun x2 =>
    h_b1 (h_gR σ a0 10 5) fun x4 =>
    h_b1 (h_aI σ x4 100 0) fun x6 =>
    h_b1 (h_gR σ a0 10 5) fun x8 =>
    h_b1 (h_aI σ x8 100 1) fun x10 =>
    h_b1 (h_gI σ a0 10 9) fun x12 =>
    h_b1 (h_rcv σ x2 3) fun y17 =>
    h_bd (f_X2_lose σ x2 x6 x10 x12) fun _ s15 =>
    some ((), s15)
set_option maxHeartbeats 4000000 in
set_option maxRecDepth 100000 in
theorem m_X9_takeSolicit (l : Launch) (D : va_G) (dA : Nat → ClassId) (bs : Nat) {σ σ' : HS} {a0 : Option Nat} {a1 : Option Nat} (h : f_X9_takeSolicit σ a0 a1 = some ((), σ')) : MetC l yX9_takeSolicit cX9_takeSolicit 2 none 3 65 D dA bs [va_rf a0, va_rf a1] none σ σ' := by
  refine MetC.of (by decide) (h_avR (h_avR h_av0)) (Nat.le_of_ble_eq_true rfl) ?_
  intro p e R s m args below meth c C B hnm
  unfold f_X9_takeSolicit at h
  refine V_sub (lv' := [(0, va_rf a0), (1, va_rf a1)]) [0, 1] rfl ?_
  refine V_aload_n C 1 dX9_takeSolicit_0 rfl rfl ?_
  refine V_ifnull (tgt := 27) C dX9_takeSolicit_1 (by decide) (fun c1 => ?_) (fun c1 => ?_)
  · rw [if_pos c1] at h
    cases h
    exact V_vret C B dX9_takeSolicit_27
  · rw [if_neg c1] at h
    refine V_aload_n C 1 dX9_takeSolicit_4 rfl rfl ?_
    obtain ⟨x2, e3, h⟩ := h_b1_some h
    refine V_getR C fl_RX9_227 dX9_takeSolicit_5 e3 ?_
    refine V_aload_n C 0 dX9_takeSolicit_8 rfl rfl ?_
    obtain ⟨x4, e5, h⟩ := h_b1_some h
    refine V_getR C fl_RX9_36 dX9_takeSolicit_9 e5 ?_
    refine V_iconst (v := 0) C dX9_takeSolicit_12 (by decide) ?_
    obtain ⟨x6, e7, h⟩ := h_b1_some h
    refine V_iald C dX9_takeSolicit_13 e7 ?_
    refine V_aload_n C 0 dX9_takeSolicit_14 rfl rfl ?_
    obtain ⟨x8, e9, h⟩ := h_b1_some h
    refine V_getR C fl_RX9_36 dX9_takeSolicit_15 e9 ?_
    refine V_iconst (v := 1) C dX9_takeSolicit_18 (by decide) ?_
    obtain ⟨x10, e11, h⟩ := h_b1_some h
    refine V_iald C dX9_takeSolicit_19 e11 ?_
    refine V_aload_n C 0 dX9_takeSolicit_20 rfl rfl ?_
    obtain ⟨x12, e13, h⟩ := h_b1_some h
    refine V_getI C fl_RX9_135 dX9_takeSolicit_21 e13 ?_
    obtain ⟨y17, e18, h⟩ := h_b1_some h
    obtain ⟨r14, s15, e16, h⟩ := h_bd_some h
    refine V_cV (As := [.int x6, .int x10, .int x12]) (rest := []) C mv_RX9_408 (m_X2_lose l D dA bs e16) e18 rfl rfl (Nat.le_trans h_w0 (by decide)) (h_fr B (by decide)) (h_lo B (by decide)) dX9_takeSolicit_24 ?_
    cases h
    exact V_vret C B dX9_takeSolicit_27
/-! X9_bring -/
theorem dX9_bring_0 : decode cX9_bring 0 = .ok (.aload_n 0, 1) := by decide +kernel
theorem dX9_bring_1 : decode cX9_bring 1 = .ok (.getfield 32, 3) := by decide +kernel
theorem dX9_bring_4 : decode cX9_bring 4 = .ok (.iload_n 1, 1) := by decide +kernel
theorem dX9_bring_5 : decode cX9_bring 5 = .ok (.aload_n 0, 1) := by decide +kernel
theorem dX9_bring_6 : decode cX9_bring 6 = .ok (.getfield 36, 3) := by decide +kernel
theorem dX9_bring_9 : decode cX9_bring 9 = .ok (.invokevirtual 329, 3) := by decide +kernel
theorem dX9_bring_12 : decode cX9_bring 12 = .ok (.aload_n 0, 1) := by decide +kernel
theorem dX9_bring_13 : decode cX9_bring 13 = .ok (.getfield 32, 3) := by decide +kernel
theorem dX9_bring_16 : decode cX9_bring 16 = .ok (.iload_n 1, 1) := by decide +kernel
theorem dX9_bring_17 : decode cX9_bring 17 = .ok (.invokevirtual 187, 3) := by decide +kernel
theorem dX9_bring_20 : decode cX9_bring 20 = .ok (.aload_n 0, 1) := by decide +kernel
theorem dX9_bring_21 : decode cX9_bring 21 = .ok (.getfield 36, 3) := by decide +kernel
theorem dX9_bring_24 : decode cX9_bring 24 = .ok (.bipush 7, 2) := by decide +kernel
theorem dX9_bring_26 : decode cX9_bring 26 = .ok (.iaload, 1) := by decide +kernel
theorem dX9_bring_27 : decode cX9_bring 27 = .ok (.istore_n 2, 1) := by decide +kernel
theorem dX9_bring_28 : decode cX9_bring 28 = .ok (.aload_n 0, 1) := by decide +kernel
theorem dX9_bring_29 : decode cX9_bring 29 = .ok (.getfield 36, 3) := by decide +kernel
theorem dX9_bring_32 : decode cX9_bring 32 = .ok (.bipush 6, 2) := by decide +kernel
theorem dX9_bring_34 : decode cX9_bring 34 = .ok (.iaload, 1) := by decide +kernel
theorem dX9_bring_35 : decode cX9_bring 35 = .ok (.tableswitch 91 0 4 #[33, 48, 63, 71, 79], 33) := by decide +kernel
theorem dX9_bring_68 : decode cX9_bring 68 = .ok (.aload_n 0, 1) := by decide +kernel
theorem dX9_bring_69 : decode cX9_bring 69 = .ok (.aload_n 0, 1) := by decide +kernel
theorem dX9_bring_70 : decode cX9_bring 70 = .ok (.getfield 10, 3) := by decide +kernel
theorem dX9_bring_73 : decode cX9_bring 73 = .ok (.iload_n 2, 1) := by decide +kernel
theorem dX9_bring_74 : decode cX9_bring 74 = .ok (.invokevirtual 52, 3) := by decide +kernel
theorem dX9_bring_77 : decode cX9_bring 77 = .ok (.invokevirtual 333, 3) := by decide +kernel
theorem dX9_bring_80 : decode cX9_bring 80 = .ok (.goto 46, 3) := by decide +kernel
theorem dX9_bring_83 : decode cX9_bring 83 = .ok (.aload_n 0, 1) := by decide +kernel
theorem dX9_bring_84 : decode cX9_bring 84 = .ok (.aload_n 0, 1) := by decide +kernel
theorem dX9_bring_85 : decode cX9_bring 85 = .ok (.getfield 10, 3) := by decide +kernel
theorem dX9_bring_88 : decode cX9_bring 88 = .ok (.iload_n 2, 1) := by decide +kernel
theorem dX9_bring_89 : decode cX9_bring 89 = .ok (.invokevirtual 52, 3) := by decide +kernel
theorem dX9_bring_92 : decode cX9_bring 92 = .ok (.invokevirtual 336, 3) := by decide +kernel
theorem dX9_bring_95 : decode cX9_bring 95 = .ok (.goto 31, 3) := by decide +kernel
theorem dX9_bring_98 : decode cX9_bring 98 = .ok (.aload_n 0, 1) := by decide +kernel
theorem dX9_bring_99 : decode cX9_bring 99 = .ok (.iload_n 2, 1) := by decide +kernel
theorem dX9_bring_100 : decode cX9_bring 100 = .ok (.invokevirtual 339, 3) := by decide +kernel
theorem dX9_bring_103 : decode cX9_bring 103 = .ok (.goto 23, 3) := by decide +kernel
theorem dX9_bring_106 : decode cX9_bring 106 = .ok (.aload_n 0, 1) := by decide +kernel
theorem dX9_bring_107 : decode cX9_bring 107 = .ok (.iload_n 2, 1) := by decide +kernel
theorem dX9_bring_108 : decode cX9_bring 108 = .ok (.invokevirtual 342, 3) := by decide +kernel
theorem dX9_bring_111 : decode cX9_bring 111 = .ok (.goto 15, 3) := by decide +kernel
theorem dX9_bring_114 : decode cX9_bring 114 = .ok (.aload_n 0, 1) := by decide +kernel
theorem dX9_bring_115 : decode cX9_bring 115 = .ok (.aload_n 0, 1) := by decide +kernel
theorem dX9_bring_116 : decode cX9_bring 116 = .ok (.iload_n 2, 1) := by decide +kernel
theorem dX9_bring_117 : decode cX9_bring 117 = .ok (.invokevirtual 107, 3) := by decide +kernel
theorem dX9_bring_120 : decode cX9_bring 120 = .ok (.invokevirtual 345, 3) := by decide +kernel
theorem dX9_bring_123 : decode cX9_bring 123 = .ok (.goto 3, 3) := by decide +kernel
theorem dX9_bring_126 : decode cX9_bring 126 = .ok (.return_, 1) := by decide +kernel
def f_X9_bring (σ : HS) (a0 : Option Nat) (a1 : Int32) : Option (Unit × HS) :=
  h_b1 (h_gR σ a0 10 4) fun x1 =>
  h_b1 (h_gR σ a0 10 5) fun x3 =>
  h_b1 (h_rcv σ x1 6) fun y8 =>
  h_bd (f_X5_copy σ x1 a1 x3) fun _ s6 =>
  h_b1 (h_gR s6 a0 10 4) fun x10 =>
  h_b1 (h_rcv s6 x10 6) fun y15 =>
  h_bd (f_X5_remove s6 x10 a1) fun _ s13 =>
  h_b1 (h_gR s13 a0 10 5) fun x17 =>
  h_b1 (h_aI s13 x17 100 7) fun x19 =>
  h_b1 (h_gR s13 a0 10 5) fun x21 =>
  h_b1 (h_aI s13 x21 100 6) fun x23 =>
  if x23 = 0 then
    h_b1 (h_gR s13 a0 10 0) fun x26 =>
    h_b1 (h_rcv s13 x26 9) fun y31 =>
    h_bd (f_X8_at s13 x26 x19) fun r28 s29 =>
    h_b1 (h_rcv s29 a0 10) fun y36 =>
    h_bd (f_X9_takeRegister s29 a0 r28) fun _ s34 =>
    some ((), s34)
  else
    if x23 = 1 then
      h_b1 (h_gR s13 a0 10 0) fun x39 =>
      h_b1 (h_rcv s13 x39 9) fun y44 =>
      h_bd (f_X8_at s13 x39 x19) fun r41 s42 =>
      h_b1 (h_rcv s42 a0 10) fun y49 =>
      h_bd (f_X9_takeRequest s42 a0 r41) fun _ s47 =>
      some ((), s47)
    else
      if x23 = 2 then
        h_b1 (h_rcv s13 a0 10) fun y55 =>
        h_bd (f_X9_takeReply s13 a0 x19) fun _ s53 =>
        some ((), s53)
      else
        if x23 = 3 then
          h_b1 (h_rcv s13 a0 10) fun y61 =>
          h_bd (f_X9_takeData s13 a0 x19) fun _ s59 =>
          some ((), s59)
        else
          if x23 = 4 then
            h_b1 (h_rcv s13 a0 10) fun y67 =>
            h_bd (f_X9_siteAt s13 a0 x19) fun r64 s65 =>
            h_b1 (h_rcv s65 a0 10) fun y72 =>
            h_bd (f_X9_takeSolicit s65 a0 r64) fun _ s70 =>
            some ((), s70)
          else
            some ((), s13)
set_option maxHeartbeats 4000000 in
set_option maxRecDepth 100000 in
theorem m_X9_bring (l : Launch) (D : va_G) (dA : Nat → ClassId) (bs : Nat) {σ σ' : HS} {a0 : Option Nat} {a1 : Int32} (h : f_X9_bring σ a0 a1 = some ((), σ')) : MetC l yX9_bring cX9_bring 3 none 6 186 D dA bs [va_rf a0, .int a1] none σ σ' := by
  refine MetC.of (by decide) (h_avR (h_avI h_av0)) (Nat.le_of_ble_eq_true rfl) ?_
  intro p e R s m args below meth c C B hnm
  unfold f_X9_bring at h
  refine V_sub (lv' := [(0, va_rf a0), (1, .int a1)]) [0, 1] rfl ?_
  refine V_aload_n C 0 dX9_bring_0 rfl rfl ?_
  obtain ⟨x1, e2, h⟩ := h_b1_some h
  refine V_getR C fl_RX9_32 dX9_bring_1 e2 ?_
  refine V_iload_n C 1 dX9_bring_4 rfl rfl ?_
  refine V_aload_n C 0 dX9_bring_5 rfl rfl ?_
  obtain ⟨x3, e4, h⟩ := h_b1_some h
  refine V_getR C fl_RX9_36 dX9_bring_6 e4 ?_
  obtain ⟨y8, e9, h⟩ := h_b1_some h
  obtain ⟨r5, s6, e7, h⟩ := h_bd_some h
  refine V_cV (As := [.int a1, va_rf x3]) (rest := []) C mv_RX9_329 (m_X5_copy l D dA bs e7) e9 rfl rfl (Nat.le_trans h_w0 (by decide)) (h_fr B (by decide)) (h_lo B (by decide)) dX9_bring_9 ?_
  refine V_aload_n C 0 dX9_bring_12 rfl rfl ?_
  obtain ⟨x10, e11, h⟩ := h_b1_some h
  refine V_getR C fl_RX9_32 dX9_bring_13 e11 ?_
  refine V_iload_n C 1 dX9_bring_16 rfl rfl ?_
  obtain ⟨y15, e16, h⟩ := h_b1_some h
  obtain ⟨r12, s13, e14, h⟩ := h_bd_some h
  refine V_cV (As := [.int a1]) (rest := []) C mv_RX9_187 (m_X5_remove l D dA bs e14) e16 rfl rfl (Nat.le_trans h_w0 (by decide)) (h_fr B (by decide)) (h_lo B (by decide)) dX9_bring_17 ?_
  refine V_aload_n C 0 dX9_bring_20 rfl rfl ?_
  obtain ⟨x17, e18, h⟩ := h_b1_some h
  refine V_getR C fl_RX9_36 dX9_bring_21 e18 ?_
  refine V_bipush (v := 7) C dX9_bring_24 (by decide) ?_
  obtain ⟨x19, e20, h⟩ := h_b1_some h
  refine V_iald C dX9_bring_26 e20 ?_
  refine V_istore_n (lv' := [(2, .int x19), (0, va_rf a0), (1, .int a1)]) C dX9_bring_27 rfl (by decide) rfl ?_
  refine V_aload_n C 1 dX9_bring_28 rfl rfl ?_
  obtain ⟨x21, e22, h⟩ := h_b1_some h
  refine V_getR C fl_RX9_36 dX9_bring_29 e22 ?_
  refine V_bipush (v := 6) C dX9_bring_32 (by decide) ?_
  obtain ⟨x23, e24, h⟩ := h_b1_some h
  refine V_iald C dX9_bring_34 e24 ?_
  by_cases c25 : x23 = 0
  · rw [if_pos c25] at h
    refine V_tabIn (tgt := 68) C dX9_bring_35 (by rw [c25]; decide) (by rw [c25]; decide) (by rw [c25]; rfl) (by decide) ?_
    refine V_aload_n C 1 dX9_bring_68 rfl rfl ?_
    refine V_aload_n C 1 dX9_bring_69 rfl rfl ?_
    obtain ⟨x26, e27, h⟩ := h_b1_some h
    refine V_getR C fl_RX9_10 dX9_bring_70 e27 ?_
    refine V_iload_n C 0 dX9_bring_73 rfl rfl ?_
    obtain ⟨y31, e32, h⟩ := h_b1_some h
    obtain ⟨r28, s29, e30, h⟩ := h_bd_some h
    refine V_cV (As := [.int x19]) (rest := [va_rf a0]) C mv_RX9_52 (m_X8_at l D dA bs e30) e32 rfl rfl (Nat.le_trans (h_wR h_w0) (by decide)) (h_fr B (by decide)) (h_lo B (by decide)) dX9_bring_74 ?_
    obtain ⟨y36, e37, h⟩ := h_b1_some h
    obtain ⟨r33, s34, e35, h⟩ := h_bd_some h
    refine V_cV (As := [va_rf r28]) (rest := []) C mv_RX9_333 (m_X9_takeRegister l D dA bs e35) e37 rfl rfl (Nat.le_trans h_w0 (by decide)) (h_fr B (by decide)) (h_lo B (by decide)) dX9_bring_77 ?_
    refine V_goto (tgt := 126) C dX9_bring_80 (by decide) ?_
    cases h
    exact V_vret C B dX9_bring_126
  · rw [if_neg c25] at h
    by_cases c38 : x23 = 1
    · rw [if_pos c38] at h
      refine V_tabIn (tgt := 83) C dX9_bring_35 (by rw [c38]; decide) (by rw [c38]; decide) (by rw [c38]; rfl) (by decide) ?_
      refine V_aload_n C 1 dX9_bring_83 rfl rfl ?_
      refine V_aload_n C 1 dX9_bring_84 rfl rfl ?_
      obtain ⟨x39, e40, h⟩ := h_b1_some h
      refine V_getR C fl_RX9_10 dX9_bring_85 e40 ?_
      refine V_iload_n C 0 dX9_bring_88 rfl rfl ?_
      obtain ⟨y44, e45, h⟩ := h_b1_some h
      obtain ⟨r41, s42, e43, h⟩ := h_bd_some h
      refine V_cV (As := [.int x19]) (rest := [va_rf a0]) C mv_RX9_52 (m_X8_at l D dA bs e43) e45 rfl rfl (Nat.le_trans (h_wR h_w0) (by decide)) (h_fr B (by decide)) (h_lo B (by decide)) dX9_bring_89 ?_
      obtain ⟨y49, e50, h⟩ := h_b1_some h
      obtain ⟨r46, s47, e48, h⟩ := h_bd_some h
      refine V_cV (As := [va_rf r41]) (rest := []) C mv_RX9_336 (m_X9_takeRequest l D dA bs e48) e50 rfl rfl (Nat.le_trans h_w0 (by decide)) (h_fr B (by decide)) (h_lo B (by decide)) dX9_bring_92 ?_
      refine V_goto (tgt := 126) C dX9_bring_95 (by decide) ?_
      cases h
      exact V_vret C B dX9_bring_126
    · rw [if_neg c38] at h
      by_cases c51 : x23 = 2
      · rw [if_pos c51] at h
        refine V_tabIn (tgt := 98) C dX9_bring_35 (by rw [c51]; decide) (by rw [c51]; decide) (by rw [c51]; rfl) (by decide) ?_
        refine V_aload_n C 1 dX9_bring_98 rfl rfl ?_
        refine V_iload_n C 0 dX9_bring_99 rfl rfl ?_
        obtain ⟨y55, e56, h⟩ := h_b1_some h
        obtain ⟨r52, s53, e54, h⟩ := h_bd_some h
        refine V_cV (As := [.int x19]) (rest := []) C mv_RX9_339 (m_X9_takeReply l D dA bs e54) e56 rfl rfl (Nat.le_trans h_w0 (by decide)) (h_fr B (by decide)) (h_lo B (by decide)) dX9_bring_100 ?_
        refine V_goto (tgt := 126) C dX9_bring_103 (by decide) ?_
        cases h
        exact V_vret C B dX9_bring_126
      · rw [if_neg c51] at h
        by_cases c57 : x23 = 3
        · rw [if_pos c57] at h
          refine V_tabIn (tgt := 106) C dX9_bring_35 (by rw [c57]; decide) (by rw [c57]; decide) (by rw [c57]; rfl) (by decide) ?_
          refine V_aload_n C 1 dX9_bring_106 rfl rfl ?_
          refine V_iload_n C 0 dX9_bring_107 rfl rfl ?_
          obtain ⟨y61, e62, h⟩ := h_b1_some h
          obtain ⟨r58, s59, e60, h⟩ := h_bd_some h
          refine V_cV (As := [.int x19]) (rest := []) C mv_RX9_342 (m_X9_takeData l D dA bs e60) e62 rfl rfl (Nat.le_trans h_w0 (by decide)) (h_fr B (by decide)) (h_lo B (by decide)) dX9_bring_108 ?_
          refine V_goto (tgt := 126) C dX9_bring_111 (by decide) ?_
          cases h
          exact V_vret C B dX9_bring_126
        · rw [if_neg c57] at h
          by_cases c63 : x23 = 4
          · rw [if_pos c63] at h
            refine V_tabIn (tgt := 114) C dX9_bring_35 (by rw [c63]; decide) (by rw [c63]; decide) (by rw [c63]; rfl) (by decide) ?_
            refine V_aload_n C 1 dX9_bring_114 rfl rfl ?_
            refine V_aload_n C 1 dX9_bring_115 rfl rfl ?_
            refine V_iload_n C 0 dX9_bring_116 rfl rfl ?_
            obtain ⟨y67, e68, h⟩ := h_b1_some h
            obtain ⟨r64, s65, e66, h⟩ := h_bd_some h
            refine V_cV (As := [.int x19]) (rest := [va_rf a0]) C mv_RX9_107 (m_X9_siteAt l D dA bs e66) e68 rfl rfl (Nat.le_trans (h_wR h_w0) (by decide)) (h_fr B (by decide)) (h_lo B (by decide)) dX9_bring_117 ?_
            obtain ⟨y72, e73, h⟩ := h_b1_some h
            obtain ⟨r69, s70, e71, h⟩ := h_bd_some h
            refine V_cV (As := [va_rf r64]) (rest := []) C mv_RX9_345 (m_X9_takeSolicit l D dA bs e71) e73 rfl rfl (Nat.le_trans h_w0 (by decide)) (h_fr B (by decide)) (h_lo B (by decide)) dX9_bring_120 ?_
            refine V_goto (tgt := 126) C dX9_bring_123 (by decide) ?_
            cases h
            exact V_vret C B dX9_bring_126
          · rw [if_neg c63] at h
            refine V_tabOut (tgt := 126) C dX9_bring_35 (by have q0 := lv_neT c25 (show (0 : Int32).toInt = 0 by decide); have q1 := lv_neT c38 (show (1 : Int32).toInt = 1 by decide); have q2 := lv_neT c51 (show (2 : Int32).toInt = 2 by decide); have q3 := lv_neT c57 (show (3 : Int32).toInt = 3 by decide); have q4 := lv_neT c63 (show (4 : Int32).toInt = 4 by decide); omega) (by decide) ?_
            cases h
            exact V_vret C B dX9_bring_126
/-! X9_truth -/
theorem dX9_truth_0 : decode cX9_truth 0 = .ok (.aload_n 0, 1) := by decide +kernel
theorem dX9_truth_1 : decode cX9_truth 1 = .ok (.getfield 10, 3) := by decide +kernel
theorem dX9_truth_4 : decode cX9_truth 4 = .ok (.iload_n 1, 1) := by decide +kernel
theorem dX9_truth_5 : decode cX9_truth 5 = .ok (.aload_n 0, 1) := by decide +kernel
theorem dX9_truth_6 : decode cX9_truth 6 = .ok (.getfield 135, 3) := by decide +kernel
theorem dX9_truth_9 : decode cX9_truth 9 = .ok (.invokevirtual 249, 3) := by decide +kernel
theorem dX9_truth_12 : decode cX9_truth 12 = .ok (.astore_n 2, 1) := by decide +kernel
theorem dX9_truth_13 : decode cX9_truth 13 = .ok (.aload_n 2, 1) := by decide +kernel
theorem dX9_truth_14 : decode cX9_truth 14 = .ok (.ifnonnull 7, 3) := by decide +kernel
theorem dX9_truth_17 : decode cX9_truth 17 = .ok (.iconst (-1), 1) := by decide +kernel
theorem dX9_truth_18 : decode cX9_truth 18 = .ok (.goto 7, 3) := by decide +kernel
theorem dX9_truth_21 : decode cX9_truth 21 = .ok (.aload_n 2, 1) := by decide +kernel
theorem dX9_truth_22 : decode cX9_truth 22 = .ok (.getfield 253, 3) := by decide +kernel
theorem dX9_truth_25 : decode cX9_truth 25 = .ok (.ireturn, 1) := by decide +kernel
def f_X9_truth (σ : HS) (a0 : Option Nat) (a1 : Int32) : Option (Int32 × HS) :=
  h_b1 (h_gR σ a0 10 0) fun x1 =>
  h_b1 (h_gI σ a0 10 9) fun x3 =>
  h_b1 (h_rcv σ x1 9) fun y8 =>
  h_bd (f_X8_longestEntry σ x1 a1 x3) fun r5 s6 =>
  if r5 = none then
    some ((-1), s6)
  else
    h_b1 (h_gI s6 r5 1 1) fun x11 =>
    some (x11, s6)
set_option maxHeartbeats 4000000 in
set_option maxRecDepth 100000 in
theorem m_X9_truth (l : Launch) (D : va_G) (dA : Nat → ClassId) (bs : Nat) {σ σ' : HS} {a0 : Option Nat} {a1 : Int32} {r : Int32} (h : f_X9_truth σ a0 a1 = some (r, σ')) : MetC l yX9_truth cX9_truth 3 (some .int) 4 92 D dA bs [va_rf a0, .int a1] (some (.int r)) σ σ' := by
  refine MetC.of (by decide) (h_avR (h_avI h_av0)) (Nat.le_of_ble_eq_true rfl) ?_
  intro p e R s m args below meth c C B hnm
  unfold f_X9_truth at h
  refine V_sub (lv' := [(0, va_rf a0), (1, .int a1)]) [0, 1] rfl ?_
  refine V_aload_n C 0 dX9_truth_0 rfl rfl ?_
  obtain ⟨x1, e2, h⟩ := h_b1_some h
  refine V_getR C fl_RX9_10 dX9_truth_1 e2 ?_
  refine V_iload_n C 1 dX9_truth_4 rfl rfl ?_
  refine V_aload_n C 0 dX9_truth_5 rfl rfl ?_
  obtain ⟨x3, e4, h⟩ := h_b1_some h
  refine V_getI C fl_RX9_135 dX9_truth_6 e4 ?_
  obtain ⟨y8, e9, h⟩ := h_b1_some h
  obtain ⟨r5, s6, e7, h⟩ := h_bd_some h
  refine V_cV (As := [.int a1, .int x3]) (rest := []) C mv_RX9_249 (m_X8_longestEntry l D dA bs e7) e9 rfl rfl (Nat.le_trans h_w0 (by decide)) (h_fr B (by decide)) (h_lo B (by decide)) dX9_truth_9 ?_
  refine V_astore_n (lv' := [(2, va_rf r5), (0, va_rf a0), (1, .int a1)]) C dX9_truth_12 rfl (by decide) rfl ?_
  refine V_aload_n C 0 dX9_truth_13 rfl rfl ?_
  refine V_ifnonnull (tgt := 21) C dX9_truth_14 (by decide) (fun c10 => ?_) (fun c10 => ?_)
  · rw [if_neg c10] at h
    refine V_aload_n C 0 dX9_truth_21 rfl rfl ?_
    obtain ⟨x11, e12, h⟩ := h_b1_some h
    refine V_getI C fl_RX9_253 dX9_truth_22 e12 ?_
    cases h
    exact V_iret C B dX9_truth_25
  · rw [if_pos c10] at h
    refine V_iconst (v := (-1)) C dX9_truth_17 (by decide) ?_
    refine V_goto (tgt := 25) C dX9_truth_18 (by decide) ?_
    cases h
    exact V_iret C B dX9_truth_25
/-! X9_countNotes -/
theorem dX9_countNotes_0 : decode cX9_countNotes 0 = .ok (.iconst 0, 1) := by decide +kernel
theorem dX9_countNotes_1 : decode cX9_countNotes 1 = .ok (.istore_n 1, 1) := by decide +kernel
theorem dX9_countNotes_2 : decode cX9_countNotes 2 = .ok (.iconst 0, 1) := by decide +kernel
theorem dX9_countNotes_3 : decode cX9_countNotes 3 = .ok (.istore_n 2, 1) := by decide +kernel
theorem dX9_countNotes_4 : decode cX9_countNotes 4 = .ok (.iload_n 2, 1) := by decide +kernel
theorem dX9_countNotes_5 : decode cX9_countNotes 5 = .ok (.bipush 8, 2) := by decide +kernel
theorem dX9_countNotes_7 : decode cX9_countNotes 7 = .ok (.if_icmp .ge 37, 3) := by decide +kernel
theorem dX9_countNotes_10 : decode cX9_countNotes 10 = .ok (.aload_n 0, 1) := by decide +kernel
theorem dX9_countNotes_11 : decode cX9_countNotes 11 = .ok (.getfield 18, 3) := by decide +kernel
theorem dX9_countNotes_14 : decode cX9_countNotes 14 = .ok (.iload_n 2, 1) := by decide +kernel
theorem dX9_countNotes_15 : decode cX9_countNotes 15 = .ok (.aaload, 1) := by decide +kernel
theorem dX9_countNotes_16 : decode cX9_countNotes 16 = .ok (.ifnull 22, 3) := by decide +kernel
theorem dX9_countNotes_19 : decode cX9_countNotes 19 = .ok (.iload_n 1, 1) := by decide +kernel
theorem dX9_countNotes_20 : decode cX9_countNotes 20 = .ok (.aload_n 0, 1) := by decide +kernel
theorem dX9_countNotes_21 : decode cX9_countNotes 21 = .ok (.getfield 18, 3) := by decide +kernel
theorem dX9_countNotes_24 : decode cX9_countNotes 24 = .ok (.iload_n 2, 1) := by decide +kernel
theorem dX9_countNotes_25 : decode cX9_countNotes 25 = .ok (.aaload, 1) := by decide +kernel
theorem dX9_countNotes_26 : decode cX9_countNotes 26 = .ok (.getfield 227, 3) := by decide +kernel
theorem dX9_countNotes_29 : decode cX9_countNotes 29 = .ok (.aload_n 0, 1) := by decide +kernel
theorem dX9_countNotes_30 : decode cX9_countNotes 30 = .ok (.getfield 135, 3) := by decide +kernel
theorem dX9_countNotes_33 : decode cX9_countNotes 33 = .ok (.invokevirtual 280, 3) := by decide +kernel
theorem dX9_countNotes_36 : decode cX9_countNotes 36 = .ok (.iadd, 1) := by decide +kernel
theorem dX9_countNotes_37 : decode cX9_countNotes 37 = .ok (.istore_n 1, 1) := by decide +kernel
theorem dX9_countNotes_38 : decode cX9_countNotes 38 = .ok (.iinc 2 1, 3) := by decide +kernel
theorem dX9_countNotes_41 : decode cX9_countNotes 41 = .ok (.goto (-37), 3) := by decide +kernel
theorem dX9_countNotes_44 : decode cX9_countNotes 44 = .ok (.iload_n 1, 1) := by decide +kernel
theorem dX9_countNotes_45 : decode cX9_countNotes 45 = .ok (.ireturn, 1) := by decide +kernel
def g_X9_countNotes_4 : Nat → HS → Option Nat → Int32 → Int32 → Option (Int32 × HS)
  | 0, _, _, _, _ => none
  | n + 1, σ, l0, l1, l2 =>
    if 8 ≤ l2 then
      some (l1, σ)
    else
      h_b1 (h_gR σ l0 10 1) fun x2 =>
      h_b1 (h_aR σ x2 108 l2) fun x4 =>
      if x4 = none then
        g_X9_countNotes_4 n σ l0 l1 (l2 + 1)
      else
        h_b1 (h_gR σ l0 10 1) fun x7 =>
        h_b1 (h_aR σ x7 108 l2) fun x9 =>
        h_b1 (h_gR σ x9 8 4) fun x11 =>
        h_b1 (h_gI σ l0 10 9) fun x13 =>
        h_b1 (h_rcv σ x11 3) fun y18 =>
        h_bd (f_X2_countThere σ x11 x13) fun r15 s16 =>
        g_X9_countNotes_4 n s16 l0 (l1 + r15) (l2 + 1)
def f_X9_countNotes (σ : HS) (a0 : Option Nat) : Option (Int32 × HS) :=
  g_X9_countNotes_4 h_hN σ a0 0 0
set_option maxHeartbeats 4000000 in
set_option maxRecDepth 100000 in
theorem w_X9_countNotes_4 {p : Program} {l : Launch} {e : Env} {R : Room} {s : State} {m : MethodId} {args : Array Value} {below : List Frame} {meth : Method} {c : Code} {D : va_G} {dA : Nat → ClassId} {bs : Nat} (C : h_C p m c cX9_countNotes 3 s args RX9 D dA) {σ0 : HS} (B : h_B R s meth σ0 (some .int) 2 44) {σ' : HS} {r : Int32} : ∀ (n : Nat) (σ : HS) (l0 : Option Nat) (l1 : Int32) (l2 : Int32), g_X9_countNotes_4 n σ l0 l1 l2 = some (r, σ') → V p l e R s m args below meth c D dA bs 3 (MQ below (h_Q D dA bs (some (.int r)) σ0 σ') args s R.cells R.slots (fun q => bs ≤ q)) σ 4 [(0, va_rf l0), (1, .int l1), (2, .int l2)] [] := by
  intro n
  induction n with
  | zero =>
    intro σ l0 l1 l2 h
    rw [g_X9_countNotes_4] at h
    cases h
  | succ n ih =>
    intro σ l0 l1 l2 h
    rw [g_X9_countNotes_4] at h
    refine V_iload_n C 2 dX9_countNotes_4 rfl rfl ?_
    refine V_bipush (v := 8) C dX9_countNotes_5 (by decide) ?_
    refine V_icmp_ge (tgt := 44) C dX9_countNotes_7 (by decide) (fun c1 => ?_) (fun c1 => ?_)
    · rw [if_pos c1] at h
      refine V_iload_n C 1 dX9_countNotes_44 rfl rfl ?_
      cases h
      exact V_iret C B dX9_countNotes_45
    · rw [if_neg c1] at h
      refine V_aload_n C 0 dX9_countNotes_10 rfl rfl ?_
      obtain ⟨x2, e3, h⟩ := h_b1_some h
      refine V_getR C fl_RX9_18 dX9_countNotes_11 e3 ?_
      refine V_iload_n C 2 dX9_countNotes_14 rfl rfl ?_
      obtain ⟨x4, e5, h⟩ := h_b1_some h
      refine V_aald C h_at108 dX9_countNotes_15 e5 ?_
      refine V_ifnull (tgt := 38) C dX9_countNotes_16 (by decide) (fun c6 => ?_) (fun c6 => ?_)
      · rw [if_pos c6] at h
        refine V_iinc (v := (l2 + 1)) (lv' := [(2, .int (l2 + 1)), (0, va_rf l0), (1, .int l1)]) C 2 dX9_countNotes_38 rfl rfl (by decide) rfl ?_
        refine V_goto (tgt := 4) C dX9_countNotes_41 (by decide) ?_
        exact V_sub [1, 2, 0] rfl (ih σ l0 l1 (l2 + 1) h)
      · rw [if_neg c6] at h
        refine V_iload_n C 1 dX9_countNotes_19 rfl rfl ?_
        refine V_aload_n C 0 dX9_countNotes_20 rfl rfl ?_
        obtain ⟨x7, e8, h⟩ := h_b1_some h
        refine V_getR C fl_RX9_18 dX9_countNotes_21 e8 ?_
        refine V_iload_n C 2 dX9_countNotes_24 rfl rfl ?_
        obtain ⟨x9, e10, h⟩ := h_b1_some h
        refine V_aald C h_at108 dX9_countNotes_25 e10 ?_
        obtain ⟨x11, e12, h⟩ := h_b1_some h
        refine V_getR C fl_RX9_227 dX9_countNotes_26 e12 ?_
        refine V_aload_n C 0 dX9_countNotes_29 rfl rfl ?_
        obtain ⟨x13, e14, h⟩ := h_b1_some h
        refine V_getI C fl_RX9_135 dX9_countNotes_30 e14 ?_
        obtain ⟨y18, e19, h⟩ := h_b1_some h
        obtain ⟨r15, s16, e17, h⟩ := h_bd_some h
        refine V_cV (As := [.int x13]) (rest := [.int l1]) C mv_RX9_280 (m_X2_countThere l D dA bs e17) e19 rfl rfl (Nat.le_trans (h_wI h_w0) (by decide)) (h_fr B (by decide)) (h_lo B (by decide)) dX9_countNotes_33 ?_
        refine V_iadd C dX9_countNotes_36 ?_
        refine V_istore_n (lv' := [(1, .int (l1 + r15)), (0, va_rf l0), (2, .int l2)]) C dX9_countNotes_37 rfl (by decide) rfl ?_
        refine V_iinc (v := (l2 + 1)) (lv' := [(2, .int (l2 + 1)), (1, .int (l1 + r15)), (0, va_rf l0)]) C 2 dX9_countNotes_38 rfl rfl (by decide) rfl ?_
        refine V_goto (tgt := 4) C dX9_countNotes_41 (by decide) ?_
        exact V_sub [2, 1, 0] rfl (ih s16 l0 (l1 + r15) (l2 + 1) h)
set_option maxHeartbeats 4000000 in
set_option maxRecDepth 100000 in
theorem m_X9_countNotes (l : Launch) (D : va_G) (dA : Nat → ClassId) (bs : Nat) {σ σ' : HS} {a0 : Option Nat} {r : Int32} (h : f_X9_countNotes σ a0 = some (r, σ')) : MetC l yX9_countNotes cX9_countNotes 3 (some .int) 2 44 D dA bs [va_rf a0] (some (.int r)) σ σ' := by
  refine MetC.of (by decide) (h_avR h_av0) (Nat.le_of_ble_eq_true rfl) ?_
  intro p e R s m args below meth c C B hnm
  unfold f_X9_countNotes at h
  refine V_sub (lv' := [(0, va_rf a0)]) [0] rfl ?_
  refine V_iconst (v := 0) C dX9_countNotes_0 (by decide) ?_
  refine V_istore_n (lv' := [(1, .int 0), (0, va_rf a0)]) C dX9_countNotes_1 rfl (by decide) rfl ?_
  refine V_iconst (v := 0) C dX9_countNotes_2 (by decide) ?_
  refine V_istore_n (lv' := [(2, .int 0), (1, .int 0), (0, va_rf a0)]) C dX9_countNotes_3 rfl (by decide) rfl ?_
  exact V_sub [2, 1, 0] rfl (w_X9_countNotes_4 C B h_hN σ a0 0 0 h)
/-! X9_count -/
theorem dX9_count_0 : decode cX9_count 0 = .ok (.iload_n 1, 1) := by decide +kernel
theorem dX9_count_1 : decode cX9_count 1 = .ok (.tableswitch 109 0 8 #[51, 59, 64, 69, 74, 82, 87, 92, 104], 51) := by decide +kernel
theorem dX9_count_52 : decode cX9_count 52 = .ok (.aload_n 0, 1) := by decide +kernel
theorem dX9_count_53 : decode cX9_count 53 = .ok (.getfield 32, 3) := by decide +kernel
theorem dX9_count_56 : decode cX9_count 56 = .ok (.getfield 203, 3) := by decide +kernel
theorem dX9_count_59 : decode cX9_count 59 = .ok (.ireturn, 1) := by decide +kernel
theorem dX9_count_60 : decode cX9_count 60 = .ok (.aload_n 0, 1) := by decide +kernel
theorem dX9_count_61 : decode cX9_count 61 = .ok (.getfield 258, 3) := by decide +kernel
theorem dX9_count_64 : decode cX9_count 64 = .ok (.ireturn, 1) := by decide +kernel
theorem dX9_count_65 : decode cX9_count 65 = .ok (.aload_n 0, 1) := by decide +kernel
theorem dX9_count_66 : decode cX9_count 66 = .ok (.getfield 261, 3) := by decide +kernel
theorem dX9_count_69 : decode cX9_count 69 = .ok (.ireturn, 1) := by decide +kernel
theorem dX9_count_70 : decode cX9_count 70 = .ok (.aload_n 0, 1) := by decide +kernel
theorem dX9_count_71 : decode cX9_count 71 = .ok (.getfield 264, 3) := by decide +kernel
theorem dX9_count_74 : decode cX9_count 74 = .ok (.ireturn, 1) := by decide +kernel
theorem dX9_count_75 : decode cX9_count 75 = .ok (.aload_n 0, 1) := by decide +kernel
theorem dX9_count_76 : decode cX9_count 76 = .ok (.getfield 32, 3) := by decide +kernel
theorem dX9_count_79 : decode cX9_count 79 = .ok (.getfield 267, 3) := by decide +kernel
theorem dX9_count_82 : decode cX9_count 82 = .ok (.ireturn, 1) := by decide +kernel
theorem dX9_count_83 : decode cX9_count 83 = .ok (.aload_n 0, 1) := by decide +kernel
theorem dX9_count_84 : decode cX9_count 84 = .ok (.getfield 157, 3) := by decide +kernel
theorem dX9_count_87 : decode cX9_count 87 = .ok (.ireturn, 1) := by decide +kernel
theorem dX9_count_88 : decode cX9_count 88 = .ok (.aload_n 0, 1) := by decide +kernel
theorem dX9_count_89 : decode cX9_count 89 = .ok (.getfield 135, 3) := by decide +kernel
theorem dX9_count_92 : decode cX9_count 92 = .ok (.ireturn, 1) := by decide +kernel
theorem dX9_count_93 : decode cX9_count 93 = .ok (.aload_n 0, 1) := by decide +kernel
theorem dX9_count_94 : decode cX9_count 94 = .ok (.getfield 10, 3) := by decide +kernel
theorem dX9_count_97 : decode cX9_count 97 = .ok (.aload_n 0, 1) := by decide +kernel
theorem dX9_count_98 : decode cX9_count 98 = .ok (.getfield 135, 3) := by decide +kernel
theorem dX9_count_101 : decode cX9_count 101 = .ok (.invokevirtual 270, 3) := by decide +kernel
theorem dX9_count_104 : decode cX9_count 104 = .ok (.ireturn, 1) := by decide +kernel
theorem dX9_count_105 : decode cX9_count 105 = .ok (.aload_n 0, 1) := by decide +kernel
theorem dX9_count_106 : decode cX9_count 106 = .ok (.invokevirtual 273, 3) := by decide +kernel
theorem dX9_count_109 : decode cX9_count 109 = .ok (.ireturn, 1) := by decide +kernel
theorem dX9_count_110 : decode cX9_count 110 = .ok (.iconst (-1), 1) := by decide +kernel
theorem dX9_count_111 : decode cX9_count 111 = .ok (.ireturn, 1) := by decide +kernel
def f_X9_count (σ : HS) (a0 : Option Nat) (a1 : Int32) : Option (Int32 × HS) :=
  if a1 = 0 then
    h_b1 (h_gR σ a0 10 4) fun x2 =>
    h_b1 (h_gI σ x2 6 2) fun x4 =>
    some (x4, σ)
  else
    if a1 = 1 then
      h_b1 (h_gI σ a0 10 11) fun x7 =>
      some (x7, σ)
    else
      if a1 = 2 then
        h_b1 (h_gI σ a0 10 12) fun x10 =>
        some (x10, σ)
      else
        if a1 = 3 then
          h_b1 (h_gI σ a0 10 13) fun x13 =>
          some (x13, σ)
        else
          if a1 = 4 then
            h_b1 (h_gR σ a0 10 4) fun x16 =>
            h_b1 (h_gI σ x16 6 3) fun x18 =>
            some (x18, σ)
          else
            if a1 = 5 then
              h_b1 (h_gI σ a0 10 8) fun x21 =>
              some (x21, σ)
            else
              if a1 = 6 then
                h_b1 (h_gI σ a0 10 9) fun x24 =>
                some (x24, σ)
              else
                if a1 = 7 then
                  h_b1 (h_gR σ a0 10 0) fun x27 =>
                  h_b1 (h_gI σ a0 10 9) fun x29 =>
                  h_b1 (h_rcv σ x27 9) fun y34 =>
                  h_bd (f_X8_countEntries σ x27 x29) fun r31 s32 =>
                  some (r31, s32)
                else
                  if a1 = 8 then
                    h_b1 (h_rcv σ a0 10) fun y40 =>
                    h_bd (f_X9_countNotes σ a0) fun r37 s38 =>
                    some (r37, s38)
                  else
                    some ((-1), σ)
set_option maxHeartbeats 4000000 in
set_option maxRecDepth 100000 in
theorem m_X9_count (l : Launch) (D : va_G) (dA : Nat → ClassId) (bs : Nat) {σ σ' : HS} {a0 : Option Nat} {a1 : Int32} {r : Int32} (h : f_X9_count σ a0 a1 = some (r, σ')) : MetC l yX9_count cX9_count 2 (some .int) 4 89 D dA bs [va_rf a0, .int a1] (some (.int r)) σ σ' := by
  refine MetC.of (by decide) (h_avR (h_avI h_av0)) (Nat.le_of_ble_eq_true rfl) ?_
  intro p e R s m args below meth c C B hnm
  unfold f_X9_count at h
  refine V_sub (lv' := [(0, va_rf a0), (1, .int a1)]) [0, 1] rfl ?_
  refine V_iload_n C 1 dX9_count_0 rfl rfl ?_
  by_cases c1 : a1 = 0
  · rw [if_pos c1] at h
    refine V_tabIn (tgt := 52) C dX9_count_1 (by rw [c1]; decide) (by rw [c1]; decide) (by rw [c1]; rfl) (by decide) ?_
    refine V_aload_n C 0 dX9_count_52 rfl rfl ?_
    obtain ⟨x2, e3, h⟩ := h_b1_some h
    refine V_getR C fl_RX9_32 dX9_count_53 e3 ?_
    obtain ⟨x4, e5, h⟩ := h_b1_some h
    refine V_getI C fl_RX9_203 dX9_count_56 e5 ?_
    cases h
    exact V_iret C B dX9_count_59
  · rw [if_neg c1] at h
    by_cases c6 : a1 = 1
    · rw [if_pos c6] at h
      refine V_tabIn (tgt := 60) C dX9_count_1 (by rw [c6]; decide) (by rw [c6]; decide) (by rw [c6]; rfl) (by decide) ?_
      refine V_aload_n C 0 dX9_count_60 rfl rfl ?_
      obtain ⟨x7, e8, h⟩ := h_b1_some h
      refine V_getI C fl_RX9_258 dX9_count_61 e8 ?_
      cases h
      exact V_iret C B dX9_count_64
    · rw [if_neg c6] at h
      by_cases c9 : a1 = 2
      · rw [if_pos c9] at h
        refine V_tabIn (tgt := 65) C dX9_count_1 (by rw [c9]; decide) (by rw [c9]; decide) (by rw [c9]; rfl) (by decide) ?_
        refine V_aload_n C 0 dX9_count_65 rfl rfl ?_
        obtain ⟨x10, e11, h⟩ := h_b1_some h
        refine V_getI C fl_RX9_261 dX9_count_66 e11 ?_
        cases h
        exact V_iret C B dX9_count_69
      · rw [if_neg c9] at h
        by_cases c12 : a1 = 3
        · rw [if_pos c12] at h
          refine V_tabIn (tgt := 70) C dX9_count_1 (by rw [c12]; decide) (by rw [c12]; decide) (by rw [c12]; rfl) (by decide) ?_
          refine V_aload_n C 0 dX9_count_70 rfl rfl ?_
          obtain ⟨x13, e14, h⟩ := h_b1_some h
          refine V_getI C fl_RX9_264 dX9_count_71 e14 ?_
          cases h
          exact V_iret C B dX9_count_74
        · rw [if_neg c12] at h
          by_cases c15 : a1 = 4
          · rw [if_pos c15] at h
            refine V_tabIn (tgt := 75) C dX9_count_1 (by rw [c15]; decide) (by rw [c15]; decide) (by rw [c15]; rfl) (by decide) ?_
            refine V_aload_n C 0 dX9_count_75 rfl rfl ?_
            obtain ⟨x16, e17, h⟩ := h_b1_some h
            refine V_getR C fl_RX9_32 dX9_count_76 e17 ?_
            obtain ⟨x18, e19, h⟩ := h_b1_some h
            refine V_getI C fl_RX9_267 dX9_count_79 e19 ?_
            cases h
            exact V_iret C B dX9_count_82
          · rw [if_neg c15] at h
            by_cases c20 : a1 = 5
            · rw [if_pos c20] at h
              refine V_tabIn (tgt := 83) C dX9_count_1 (by rw [c20]; decide) (by rw [c20]; decide) (by rw [c20]; rfl) (by decide) ?_
              refine V_aload_n C 0 dX9_count_83 rfl rfl ?_
              obtain ⟨x21, e22, h⟩ := h_b1_some h
              refine V_getI C fl_RX9_157 dX9_count_84 e22 ?_
              cases h
              exact V_iret C B dX9_count_87
            · rw [if_neg c20] at h
              by_cases c23 : a1 = 6
              · rw [if_pos c23] at h
                refine V_tabIn (tgt := 88) C dX9_count_1 (by rw [c23]; decide) (by rw [c23]; decide) (by rw [c23]; rfl) (by decide) ?_
                refine V_aload_n C 0 dX9_count_88 rfl rfl ?_
                obtain ⟨x24, e25, h⟩ := h_b1_some h
                refine V_getI C fl_RX9_135 dX9_count_89 e25 ?_
                cases h
                exact V_iret C B dX9_count_92
              · rw [if_neg c23] at h
                by_cases c26 : a1 = 7
                · rw [if_pos c26] at h
                  refine V_tabIn (tgt := 93) C dX9_count_1 (by rw [c26]; decide) (by rw [c26]; decide) (by rw [c26]; rfl) (by decide) ?_
                  refine V_aload_n C 0 dX9_count_93 rfl rfl ?_
                  obtain ⟨x27, e28, h⟩ := h_b1_some h
                  refine V_getR C fl_RX9_10 dX9_count_94 e28 ?_
                  refine V_aload_n C 0 dX9_count_97 rfl rfl ?_
                  obtain ⟨x29, e30, h⟩ := h_b1_some h
                  refine V_getI C fl_RX9_135 dX9_count_98 e30 ?_
                  obtain ⟨y34, e35, h⟩ := h_b1_some h
                  obtain ⟨r31, s32, e33, h⟩ := h_bd_some h
                  refine V_cV (As := [.int x29]) (rest := []) C mv_RX9_270 (m_X8_countEntries l D dA bs e33) e35 rfl rfl (Nat.le_trans h_w0 (by decide)) (h_fr B (by decide)) (h_lo B (by decide)) dX9_count_101 ?_
                  cases h
                  exact V_iret C B dX9_count_104
                · rw [if_neg c26] at h
                  by_cases c36 : a1 = 8
                  · rw [if_pos c36] at h
                    refine V_tabIn (tgt := 105) C dX9_count_1 (by rw [c36]; decide) (by rw [c36]; decide) (by rw [c36]; rfl) (by decide) ?_
                    refine V_aload_n C 0 dX9_count_105 rfl rfl ?_
                    obtain ⟨y40, e41, h⟩ := h_b1_some h
                    obtain ⟨r37, s38, e39, h⟩ := h_bd_some h
                    refine V_cV (As := []) (rest := []) C mv_RX9_273 (m_X9_countNotes l D dA bs e39) e41 rfl rfl (Nat.le_trans h_w0 (by decide)) (h_fr B (by decide)) (h_lo B (by decide)) dX9_count_106 ?_
                    cases h
                    exact V_iret C B dX9_count_109
                  · rw [if_neg c36] at h
                    refine V_tabOut (tgt := 110) C dX9_count_1 (by have q0 := lv_neT c1 (show (0 : Int32).toInt = 0 by decide); have q1 := lv_neT c6 (show (1 : Int32).toInt = 1 by decide); have q2 := lv_neT c9 (show (2 : Int32).toInt = 2 by decide); have q3 := lv_neT c12 (show (3 : Int32).toInt = 3 by decide); have q4 := lv_neT c15 (show (4 : Int32).toInt = 4 by decide); have q5 := lv_neT c20 (show (5 : Int32).toInt = 5 by decide); have q6 := lv_neT c23 (show (6 : Int32).toInt = 6 by decide); have q7 := lv_neT c26 (show (7 : Int32).toInt = 7 by decide); have q8 := lv_neT c36 (show (8 : Int32).toInt = 8 by decide); omega) (by decide) ?_
                    refine V_iconst (v := (-1)) C dX9_count_110 (by decide) ?_
                    cases h
                    exact V_iret C B dX9_count_111
