/-! ONE CALL: object and reference side by side -/
def lcV (cd : Nat → Option Int32) (F9 : Option (Except Nat Unit × HS)) (F10 : HS → Option (Unit × HS)) (x mo : Option Nat) (σ : HS) (K : HS → Prop) : Prop := ∃ q r σ1, h_rcv σ x 10 = some q ∧ F9 = some (r, σ1) ∧ (∀ k, r = .error k → (cd k).isSome = true) ∧ ∀ k σ2, h_hp cd (fun _ τ => some τ) r σ1 k σ2 → ∃ q2, h_rcv σ2 mo 11 = some q2 ∧ ∃ σ3, F10 σ2 = some ((), σ3) ∧ ∃ q3, h_rcv σ3 mo 11 = some q3 ∧ ∃ σ4, f_X10_thrown σ3 mo = some (k, σ4) ∧ K σ4
/-- what a caught exception may have left -/
def Bmp (σ1 σ2 : HS) : Prop := ∃ z w, h_sz σ1 ≤ z ∧ z ≤ h_sz σ1 + 1 ∧ w ≤ h_sl σ1 + 6 ∧ σ2 = h_bump σ1 z w
theorem lcV_of {cd : Nat → Option Int32} {F9 : Option (Except Nat Unit × HS)} {F10 : HS → Option (Unit × HS)} {x m : Nat} {A : Nat → Nat} {ms ms' : MS} {σ σ1 : HS} {r : Except Nat Unit} {c0 : Int32} {p : Option (Unit × MS)} {K : HS → Prop} (hx : h_tg σ x = 10) (h9 : F9 = some (r, σ1)) (hr : (r = .ok () ∧ c0 = 0) ∨ ∃ k, r = .error k ∧ cd k = some c0) (V : MV σ1 m A ms) (hp : p = some ((), ms')) (hc : ms'.1 0 = c0) (lift : ∀ τ, MV τ m A ms → Rl τ m A (F10 τ) p)
    (hK : ∀ σ2 σ4, (σ2 = σ1 ∧ r = .ok ()) ∨ Bmp σ1 σ2 → MF σ2 σ4 m A → MV σ4 m A ms' → K σ4) : lcV cd F9 F10 (some x) (some m) σ K := by
  refine ⟨x, r, σ1, rcv_s hx, h9, fun k hk => ?_, fun k σ2 h => ?_⟩
  · rcases hr with ⟨h, -⟩ | ⟨k', h, h2⟩
    · rw [h] at hk; cases hk
    · rw [h] at hk; cases hk; rw [h2]; rfl
  · have key : ((σ2 = σ1 ∧ r = .ok ()) ∨ Bmp σ1 σ2) ∧ k = c0 ∧ MV σ2 m A ms := by
      rcases hr with ⟨h1, h2⟩ | ⟨k', h1, h2⟩
      · subst h1
        have h' : k = 0 ∧ some σ1 = some σ2 := h
        obtain ⟨g1, g2⟩ := h'
        cases g2
        exact ⟨Or.inl ⟨rfl, rfl⟩, g1.trans h2.symm, V⟩
      · subst h1
        have h' : cd k' = some k ∧ ∃ z w, h_sz σ1 ≤ z ∧ z ≤ h_sz σ1 + 1 ∧ w ≤ h_sl σ1 + 6 ∧ σ2 = h_bump σ1 z w := h
        obtain ⟨g1, z, w, g2, g3, g4, g5⟩ := h'
        rw [h2] at g1
        refine ⟨Or.inr ⟨z, w, g2, g3, g4, g5⟩, (Option.some.inj g1).symm, ?_⟩
        rw [g5]; exact V
    obtain ⟨k1, k2, k3⟩ := key
    obtain ⟨σ3, l1, l2, l3⟩ := lift σ2 k3 _ _ hp
    obtain ⟨σ4, t1, t2, t3⟩ := q_X10_thrown l2 _ _ rfl
    refine ⟨m, rcv_s k3.1, σ3, l1, m, rcv_s l2.1, σ4, ?_, hK σ2 σ4 k1 (l3.tr t3) t2⟩
    rw [t1, hc, k2]
def lcI (cd : Nat → Option Int32) (F9 : Option (Except Nat Int32 × HS)) (F10 : HS → Option (Int32 × HS)) (x mo o : Option Nat) (σ : HS) (K : HS → Prop) : Prop := ∃ q r σ1, h_rcv σ x 10 = some q ∧ F9 = some (r, σ1) ∧ (∀ k, r = .error k → (cd k).isSome = true) ∧ (∀ v, r = .ok v → (h_sL σ1 o 101 0 (Int32.toInt64 v)).isSome = true) ∧ ∀ k σ2, h_hp cd (fun v τ => h_sL τ o 101 0 (Int32.toInt64 v)) r σ1 k σ2 → ∃ q2, h_rcv σ2 mo 11 = some q2 ∧ ∃ v σ3, F10 σ2 = some (v, σ3) ∧ ∃ q3, h_rcv σ3 mo 11 = some q3 ∧ ∃ σ4, f_X10_thrown σ3 mo = some (k, σ4) ∧ (k = 0 → h_aL σ4 o 101 0 = some (Int32.toInt64 v)) ∧ K σ4
theorem lcI_of {cd : Nat → Option Int32} {F9 : Option (Except Nat Int32 × HS)} {F10 : HS → Option (Int32 × HS)} {x m o : Nat} {A : Nat → Nat} {ms ms' : MS} {σ σ1 : HS} {r : Except Nat Int32} {v c0 : Int32} {p : Option (Int32 × MS)} {K : HS → Prop} (hx : h_tg σ x = 10) (ho : h_tg σ1 o = 101 ∧ h_ln σ1 o = 1) (hoA : o ≠ m ∧ ∀ k, k_tag k ≠ 0 → o ≠ A k) (h9 : F9 = some (r, σ1)) (hr : (r = .ok v ∧ c0 = 0) ∨ ∃ k, r = .error k ∧ cd k = some c0 ∧ ¬ c0 = 0) (V : MV σ1 m A ms) (hp : p = some (v, ms')) (hc : ms'.1 0 = c0) (lift : ∀ τ, MV τ m A ms → Rl τ m A (F10 τ) p)
    (hK : ∀ σ2 σ4, (σ2 = h_setL σ1 o 0 (Int32.toInt64 v) ∧ r = .ok v) ∨ Bmp σ1 σ2 → MF σ2 σ4 m A → MV σ4 m A ms' → K σ4) : lcI cd F9 F10 (some x) (some m) (some o) σ K := by
  have hsL : ∀ w : Int64, h_sL σ1 (some o) 101 0 w = some (h_setL σ1 o 0 w) := fun w => sL_s (i := 0) (n := 1) ho.1 ho.2 (by decide) (by decide)
  refine ⟨x, r, σ1, rcv_s hx, h9, fun k hk => ?_, fun w _ => by rw [hsL]; rfl, fun k σ2 h => ?_⟩
  · rcases hr with ⟨h, -⟩ | ⟨k', h, h2, -⟩
    · rw [h] at hk; cases hk
    · rw [h] at hk; cases hk; rw [h2]; rfl
  · have key : ((σ2 = h_setL σ1 o 0 (Int32.toInt64 v) ∧ r = .ok v) ∨ Bmp σ1 σ2) ∧ k = c0 ∧ MV σ2 m A ms ∧ (k = 0 → σ2 = h_setL σ1 o 0 (Int32.toInt64 v)) := by
      rcases hr with ⟨h1, h2⟩ | ⟨k', h1, h2, h3⟩
      · subst h1
        have h' : k = 0 ∧ h_sL σ1 (some o) 101 0 (Int32.toInt64 v) = some σ2 := h
        obtain ⟨g1, g2⟩ := h'
        rw [hsL] at g2
        have g3 := Option.some.inj g2
        refine ⟨Or.inl ⟨g3.symm, rfl⟩, g1.trans h2.symm, ?_, fun _ => g3.symm⟩
        rw [← g3]
        exact V.to (Sm_L (Ne.symm hoA.1)) (fun k hk => Sm_L (Ne.symm (hoA.2 k hk)))
      · subst h1
        have h' : cd k' = some k ∧ ∃ z w, h_sz σ1 ≤ z ∧ z ≤ h_sz σ1 + 1 ∧ w ≤ h_sl σ1 + 6 ∧ σ2 = h_bump σ1 z w := h
        obtain ⟨g1, z, w, g2, g3, g4, g5⟩ := h'
        rw [h2] at g1
        have hk := (Option.some.inj g1).symm
        refine ⟨Or.inr ⟨z, w, g2, g3, g4, g5⟩, hk, ?_, fun z => absurd (hk.symm.trans z) h3⟩
        rw [g5]; exact V
    obtain ⟨k1, k2, k3, k4⟩ := key
    obtain ⟨σ3, l1, l2, l3⟩ := lift σ2 k3 _ _ hp
    obtain ⟨σ4, t1, t2, t3⟩ := q_X10_thrown l2 _ _ rfl
    refine ⟨m, rcv_s k3.1, v, σ3, l1, m, rcv_s l2.1, σ4, ?_, fun hk0 => ?_, hK σ2 σ4 k1 (l3.tr t3) t2⟩
    · rw [t1, hc, k2]
    · have F := l3.tr t3
      obtain ⟨f1, f2, f3, f4, f5, f6, f7, f8⟩ := F
      have e2 := k4 hk0
      have g1 : h_tg σ4 o = 101 := by rw [f1, e2]; exact ho.1
      have g2 : h_ln σ4 o = 1 := by rw [f2, e2]; exact ho.2
      have g3 : h_lv σ4 o 0 = Int32.toInt64 v := by rw [(f8 o hoA.1 hoA.2 0).2, e2]; exact lv_sL
      have g4 := aL_s (i := 0) (n := 1) g1 g2 (by decide) (by decide)
      rw [g3] at g4
      exact g4
def lcN (F9 : Option (Int32 × HS)) (F10 : HS → Option (Int32 × HS)) (x mo : Option Nat) (σ : HS) (K : HS → Prop) : Prop := ∃ q v σ1, h_rcv σ x 10 = some q ∧ F9 = some (v, σ1) ∧ ∃ q2, h_rcv σ1 mo 11 = some q2 ∧ ∃ σ2, F10 σ1 = some (v, σ2) ∧ K σ2
theorem lcN_of {F9 : Option (Int32 × HS)} {F10 : HS → Option (Int32 × HS)} {x m : Nat} {A : Nat → Nat} {ms ms' : MS} {σ σ1 : HS} {v : Int32} {p : Option (Int32 × MS)} {K : HS → Prop} (hx : h_tg σ x = 10) (h9 : F9 = some (v, σ1)) (V : MV σ1 m A ms) (hp : p = some (v, ms')) (lift : Rl σ1 m A (F10 σ1) p) (hK : ∀ σ4, MF σ1 σ4 m A → MV σ4 m A ms' → K σ4) : lcN F9 F10 (some x) (some m) σ K := by
  obtain ⟨σ3, l1, l2, l3⟩ := lift _ _ hp
  exact ⟨x, v, σ1, rcv_s hx, h9, m, rcv_s V.1, σ3, l1, hK σ3 l3 l2⟩
theorem thr_of {α : Type} {k : Nat} {σ : HS} (h1 : h_sz σ + 1 ≤ h_cz σ) (h2 : h_sl σ + 6 ≤ h_ck σ) : (h_thr k σ : Option (Except Nat α × HS)) = some (.error k, σ) := if_pos ⟨h1, h2⟩
theorem s0_site (s : Int32) : siteB ms0 s = false := by
  cases h : siteB ms0 s with
  | false => rfl
  | true =>
    obtain ⟨i, h1, -, h3⟩ := siteB_nI h
    exact absurd (m0_14 i h1) h3
theorem s0_msg (k : Int32) : msgB 0 k = false := by
  cases h : msgB 0 k with
  | false => rfl
  | true =>
    obtain ⟨i, h1, -⟩ := msgB_some (by decide) h
    exact absurd h1 (Nat.not_lt_zero i)
theorem s0_srv {a : Int32} (h : srvB ms0 a = true) : a = 0 := by
  obtain ⟨i, h1, h2, h3⟩ := srvB_nI h
  have := (m0_pr h1).mp h3
  subst this
  exact h2
theorem s0_srv0 : srvB ms0 0 = true := by decide +kernel
theorem f_ne {b : Bool} (h : b = false) : ¬ b = true := by rw [h]; decide
section FST
variable {fx : Bool} {σ : HS} {x sl : Nat}
theorem St.room (S : St fx σ x sl) : h_sz σ + 1000 ≤ h_cz σ ∧ h_sl σ + 1000 ≤ h_ck σ := by
  obtain ⟨-, -, -, z, l, c, k⟩ := S
  have hcz : h_cz (h_0 x sl) = x + 600002 := rfl
  have hck : h_ck (h_0 x sl) = sl + 7302232 := rfl
  rw [z, l, c, k, hcz, hck]
  omega
theorem St.thr (S : St fx σ x sl) {α : Type} (k : Nat) : (h_thr k σ : Option (Except Nat α × HS)) = some (.error k, σ) := thr_of (by have := S.room; omega) (by have := S.room; omega)
theorem St.nA : x + 49 ≠ x + 15 ∧ ∀ k, k_tag k ≠ 0 → x + 49 ≠ kA (x + 15) k := ⟨by omega, fun k hk => by have := kA_lt (m := x + 15) hk; omega⟩
theorem St.hx (S : St fx σ x sl) : h_tg σ x = 10 := S.1.2.1.1
theorem St.site (S : St fx σ x sl) (s : Int32) : f_X9_siteAt σ (some x) s = some (none, σ) := by
  obtain ⟨-, F, -, -, -, -, -, T⟩ := S.1
  rw [c_siteAt F T, s0_site, if_neg (by decide)]
theorem St.has (S : St fx σ x sl) (k : Int32) : f_X5_has σ (some (x + 10)) k = some (0, σ) := by
  obtain ⟨-, F, -, R, -⟩ := S.1
  rw [c_has F R (n := 0) (m0_1 36 (by decide)) (by decide), s0_msg]
  rfl
theorem St.row (S : St fx σ x sl) : h_gR σ (some x) 10 4 = some (some (x + 10)) ∧ h_rcv σ (some (x + 10)) 6 = some (x + 10) := by
  obtain ⟨-, ⟨t0, ⟨-, -, -, -, r4, -⟩, -, -, -, -, -, ⟨t10, -⟩, -⟩, -⟩ := S.1
  exact ⟨by rw [gR_s t0, r4], rcv_s t10⟩
theorem lcV_err (S : St fx σ x sl) {cd : Nat → Option Int32} {F9 : Option (Except Nat Unit × HS)} {F10 : HS → Option (Unit × HS)} {p : Option (Unit × MS)} {ms' : MS} {c0 : Int32} {σ1 : HS} (k : Nat) (h9 : F9 = some (.error k, σ1)) (E : Ext σ σ1) (hcd : cd k = some c0) (hp : p = some ((), ms')) (hc : ms'.1 0 = c0) (lift : ∀ τ, MV τ (x + 15) (kA (x + 15)) ms0 → Rl τ (x + 15) (kA (x + 15)) (F10 τ) p) : lcV cd F9 F10 (some x) (some (x + 15)) σ (fun _ => True) :=
  lcV_of S.hx h9 (Or.inr ⟨k, rfl, hcd⟩) (S.2.1.ext S.1.1.2.1 E) hp hc lift (fun _ _ _ _ _ => trivial)
theorem Ext.rf (S : St fx σ x sl) : Ext σ σ := ⟨Nat.le_refl _, fun _ _ => Sm.rf, S.1.1.2.1⟩
theorem lcI_err (S : St fx σ x sl) {cd : Nat → Option Int32} {F9 : Option (Except Nat Int32 × HS)} {F10 : HS → Option (Int32 × HS)} {p : Option (Int32 × MS)} {ms' : MS} {v c0 : Int32} (k : Nat) (h9 : F9 = some (.error k, σ)) (hcd : cd k = some c0) (hc0 : ¬ c0 = 0) (hp : p = some (v, ms')) (hc : ms'.1 0 = c0) (lift : ∀ τ, MV τ (x + 15) (kA (x + 15)) ms0 → Rl τ (x + 15) (kA (x + 15)) (F10 τ) p) : lcI cd F9 F10 (some x) (some (x + 15)) (some (x + 49)) σ (fun _ => True) :=
  lcI_of S.hx S.2.2.1 St.nA h9 (Or.inr ⟨k, rfl, hcd, hc0⟩) S.2.1 hp hc lift (fun _ _ _ _ _ => trivial)
theorem first_prefix (S : St fx σ x sl) (a b c : Int32) : lcI cdL_prefix (f_X9_prefix σ (some x) a b c) (fun τ => f_X10_prefix τ (some (x + 15)) a b c) (some x) (some (x + 15)) (some (x + 49)) σ (fun _ => True) := by
  refine lcI_err S 1 (c0 := 1) (v := 0) (ms' := noM ms0) (p := p_X10_prefix ms0 a b c) ?_ rfl (by decide) ?_ noM_0 (fun τ V => q_X10_prefix V a b c)
  · unfold f_X9_prefix
    rw [rcv_s S.hx, h_b1_s, S.site, h_bd_s, if_pos rfl, S.thr]
  · rw [p_prefix_eq ms0 a b c MI_0.2.2.1 MI_0.2.2.2.2.2.2.1, if_neg (f_ne (by unfold prfB; rw [s0_site]; rfl))]
theorem first_register (S : St fx σ x sl) (a : Int32) : lcI cdL_register (f_X9_register σ (some x) a) (fun τ => f_X10_register τ (some (x + 15)) a) (some x) (some (x + 15)) (some (x + 49)) σ (fun _ => True) := by
  refine lcI_err S 1 (c0 := 1) (v := 0) (ms' := noM ms0) (p := p_X10_register ms0 a) ?_ rfl (by decide) ?_ noM_0 (fun τ V => q_X10_register V a)
  · unfold f_X9_register
    rw [rcv_s S.hx, h_b1_s, S.site, h_bd_s, if_pos rfl, S.thr]
  · rw [p_register_eq ms0 a (n := 0) (m0_1 36 (by decide)) (by decide) MI_0, s0_site, if_neg (by decide)]
theorem first_note (S : St fx σ x sl) (a b c : Int32) : lcI cdL_note (f_X9_note σ (some x) a b c) (fun τ => f_X10_note τ (some (x + 15)) a b c) (some x) (some (x + 15)) (some (x + 49)) σ (fun _ => True) := by
  refine lcI_err S 1 (c0 := 1) (v := 0) (ms' := noM ms0) (p := p_X10_note ms0 a b c) ?_ rfl (by decide) ?_ noM_0 (fun τ V => q_X10_note V a b c)
  · unfold f_X9_note
    rw [rcv_s S.hx, h_b1_s, S.site, h_bd_s, if_pos rfl, S.thr]
  · rw [p_note_eq ms0 a b c MI_0.2.2.2.2.2.1, s0_site, if_neg (by decide)]
theorem first_send (S : St fx σ x sl) (a b : Int32) : lcI cdL_send (f_X9_send σ (some x) a b) (fun τ => f_X10_send τ (some (x + 15)) a b) (some x) (some (x + 15)) (some (x + 49)) σ (fun _ => True) := by
  refine lcI_err S 1 (c0 := 2) (v := 0) (ms' := k_pI ms0 0 2) (p := p_X10_send ms0 a b) ?_ rfl (by decide) ?_ pI_s1 (fun τ V => q_X10_send V a b)
  · unfold f_X9_send
    obtain ⟨-, -, N, -⟩ := S.1
    rw [gI_s S.hx, N.1, m0_1 28 (by decide), h_b1_s, if_pos (by decide), rcv_s S.hx, h_b1_s, S.site, h_bd_s, if_pos rfl, S.thr]
  · rw [p_send_eq ms0 a b (n := 0) (np := 0) (m0_1 36 (by decide)) (by decide) (m0_1 28 (by decide)) (by decide) MI_0, s0_site, if_neg (by decide), if_neg (by decide)]
theorem first_message (S : St fx σ x sl) (a b : Int32) : lcI cdL_message (f_X9_message σ (some x) a b) (fun τ => f_X10_message τ (some (x + 15)) a b) (some x) (some (x + 15)) (some (x + 49)) σ (fun _ => True) := by
  refine lcI_err S 3 (c0 := 1) (v := 0) (ms' := noM ms0) (p := p_X10_message ms0 a b) ?_ rfl (by decide) ?_ noM_0 (fun τ V => q_X10_message V a b)
  · unfold f_X9_message
    rw [S.row.1, h_b1_s, S.row.2, h_b1_s, S.has, h_bd_s, if_pos rfl, S.thr]
  · rw [p_message_eq ms0 a b (n := 0) (m0_1 36 (by decide)) (by decide), s0_msg, Bool.false_and, if_neg (by decide)]
theorem first_packet (S : St fx σ x sl) (a b : Int32) : lcI cdL_packet (f_X9_packet σ (some x) a b) (fun τ => f_X10_packet τ (some (x + 15)) a b) (some x) (some (x + 15)) (some (x + 49)) σ (fun _ => True) := by
  have h0 : decide (1 ≤ a ∧ a ≤ (0 : Int32)) = false := decide_eq_false (fun h => absurd (Int32.le_trans h.1 h.2) (by decide))
  refine lcI_err S 1 (c0 := 1) (v := 0) (ms' := noM ms0) (p := p_X10_packet ms0 a b) ?_ rfl (by decide) ?_ noM_0 (fun τ V => q_X10_packet V a b)
  · unfold f_X9_packet
    obtain ⟨-, F, N, -, -, K, -⟩ := S.1
    have e28 : ms0.1 28 = 0 := m0_1 28 (by decide)
    rw [rcv_s S.hx, h_b1_s, c_packetAt F N K, e28, h0, if_neg (by decide), h_bd_s, if_pos rfl, S.thr]
  · rw [p_packet_eq ms0 a b (np := 0) (m0_1 28 (by decide)) (by decide)]
    have e : decide (1 ≤ a ∧ a ≤ nI 0) = false := h0
    rw [e, if_neg (by decide)]
theorem first_move (S : St fx σ x sl) (a b : Int32) : lcV cdL_move (f_X9_move σ (some x) a b) (fun τ => f_X10_move τ (some (x + 15)) a b) (some x) (some (x + 15)) σ (fun _ => True) := by
  refine lcV_err S 1 (c0 := 1) (ms' := noM ms0) (p := p_X10_move ms0 a b) (σ1 := σ) ?_ (Ext.rf S) rfl ?_ noM_0 (fun τ V => q_X10_move V a b)
  · unfold f_X9_move
    rw [rcv_s S.hx, h_b1_s, S.site, h_bd_s, if_pos rfl, S.thr]
  · rw [p_move_eq ms0 a b (i := 0) (p0 := 0) (fun h => by rw [s0_site] at h; cases h), if_neg (f_ne (by unfold moveB; rw [s0_site]; rfl))]
theorem first_carry (S : St fx σ x sl) (a : Int32) : lcV cdL_carry (f_X9_carry σ (some x) a) (fun τ => f_X10_carry τ (some (x + 15)) a) (some x) (some (x + 15)) σ (fun _ => True) := by
  refine lcV_err S 3 (c0 := 1) (ms' := noM ms0) (p := p_X10_carry ms0 a) (σ1 := σ) ?_ (Ext.rf S) rfl ?_ noM_0 (fun τ V => q_X10_carry V a)
  · unfold f_X9_carry
    rw [S.row.1, h_b1_s, S.row.2, h_b1_s, S.has, h_bd_s, if_pos rfl, S.thr]
  · rw [p_carry_eq ms0 a (n := 0) (np := 0) (m0_1 36 (by decide)) (by decide) (m0_1 28 (by decide)) (by decide) (fun i hi => absurd hi (Nat.not_lt_zero i)), s0_msg, if_neg (by decide)]
theorem first_repeat (S : St fx σ x sl) (a : Int32) : lcV cdL_repeat (f_X9_repeat σ (some x) a) (fun τ => f_X10_repeat τ (some (x + 15)) a) (some x) (some (x + 15)) σ (fun _ => True) := by
  refine lcV_err S 3 (c0 := 1) (ms' := noM ms0) (p := p_X10_repeat ms0 a) (σ1 := σ) ?_ (Ext.rf S) rfl ?_ noM_0 (fun τ V => q_X10_repeat V a)
  · unfold f_X9_repeat
    rw [S.row.1, h_b1_s, S.row.2, h_b1_s, S.has, h_bd_s, if_pos rfl, S.thr]
  · rw [p_repeat_eq ms0 a (n := 0) (m0_1 36 (by decide)) (by decide), s0_msg, if_neg (by decide)]
theorem first_drop (S : St fx σ x sl) (a : Int32) : lcV cdL_drop (f_X9_drop σ (some x) a) (fun τ => f_X10_drop τ (some (x + 15)) a) (some x) (some (x + 15)) σ (fun _ => True) := by
  refine lcV_err S 3 (c0 := 1) (ms' := noM ms0) (p := p_X10_drop ms0 a) (σ1 := σ) ?_ (Ext.rf S) rfl ?_ noM_0 (fun τ V => q_X10_drop V a)
  · unfold f_X9_drop
    rw [S.row.1, h_b1_s, S.row.2, h_b1_s, S.has, h_bd_s, if_pos rfl, S.thr]
  · rw [p_drop_eq ms0 a (n := 0) (m0_1 36 (by decide)) (by decide), s0_msg, if_neg (by decide)]
theorem first_forge (S : St fx σ x sl) (a b c : Int32) : lcV cdL_forge (f_X9_forge σ (some x) a b c) (fun τ => f_X10_forge τ (some (x + 15)) a b c) (some x) (some (x + 15)) σ (fun _ => True) := by
  refine lcV_err S 3 (c0 := 1) (ms' := noM ms0) (p := p_X10_forge ms0 a b c) (σ1 := σ) ?_ (Ext.rf S) rfl ?_ noM_0 (fun τ V => q_X10_forge V a b c)
  · unfold f_X9_forge
    rw [S.row.1, h_b1_s, S.row.2, h_b1_s, S.has, h_bd_s, if_pos rfl, S.thr]
  · rw [p_forge_eq ms0 a b c (n := 0) (m0_1 36 (by decide)) (by decide), s0_msg, Bool.false_and, if_neg (by decide)]
theorem p_run_0 {ms : MS} (h : ms.1 36 = 0) (a : Int32) : p_X10_run ms a = some (0, if 0 ≤ a ∧ a ≤ 1000 then okM ms else noM ms) := by
  unfold p_X10_run
  rw [p_in_eq, k_bd_s]
  by_cases hc : 0 ≤ a ∧ a ≤ 1000
  · rw [decide_eq_true hc, if_neg (by decide), if_pos hc]
    show pg_X10_run_22 (1999 + 1) (okM ms) a 0 = _
    rw [pg_X10_run_22, if_pos okM_0]
    by_cases h2 : a ≤ 0
    · rw [if_pos h2]
    · rw [if_neg h2, okM_1 (by decide), h, if_pos (by decide)]
  · rw [decide_eq_false hc, if_pos (by decide), if_neg hc]
    show pg_X10_run_22 (1999 + 1) (noM ms) a 0 = _
    rw [pg_X10_run_22, noM_0, if_neg (by decide)]
theorem first_run (S : St fx σ x sl) (a : Int32) : lcI cdL_run (f_X9_run σ (some x) a) (fun τ => f_X10_run τ (some (x + 15)) a) (some x) (some (x + 15)) (some (x + 49)) σ (fun _ => True) := by
  by_cases h1 : a < 0
  · refine lcI_err S 1 (c0 := 1) (v := 0) (ms' := noM ms0) (p := p_X10_run ms0 a) ?_ rfl (by decide) ?_ noM_0 (fun τ V => q_X10_run V a)
    · unfold f_X9_run
      rw [if_pos h1, S.thr]
    · rw [p_run_0 (m0_1 36 (by decide)), if_neg (fun z => absurd h1 (Int32.not_lt.mpr z.1))]
  · by_cases h2 : a ≤ 1000
    · refine lcI_of S.hx S.2.2.1 St.nA (r := .ok 0) (v := 0) (c0 := 0) (σ1 := σ) (ms' := okM ms0) (p := p_X10_run ms0 a) ?_ (Or.inl ⟨rfl, rfl⟩) S.2.1 ?_ okM_0 (fun τ V => q_X10_run V a) (fun _ _ _ _ _ => trivial)
      · unfold f_X9_run
        rw [if_neg h1, if_pos h2]
        show g_X9_run_23 (1999 + 1) σ (some x) a 0 = _
        rw [g_X9_run_23]
        by_cases h3 : a ≤ 0
        · rw [if_pos h3]
        · obtain ⟨-, ⟨-, -, -, -, -, -, -, ⟨t10, -⟩, -⟩, -, R, -⟩ := S.1
          obtain ⟨f, n, -, hn, -, r2, r3, -⟩ := R
          have e36 : ms0.1 36 = 0 := m0_1 36 (by decide)
          have hv : h_iv σ (x + 10) 2 = 0 := by rw [r2, ← r3, e36]
          rw [if_neg h3, S.row.1, h_b1_s, gI_s t10, hv, h_b1_s, if_pos (by decide)]
      · rw [p_run_0 (m0_1 36 (by decide)), if_pos ⟨Int32.not_lt.mp h1, h2⟩]
    · refine lcI_err S 1 (c0 := 1) (v := 0) (ms' := noM ms0) (p := p_X10_run ms0 a) ?_ rfl (by decide) ?_ noM_0 (fun τ V => q_X10_run V a)
      · unfold f_X9_run
        rw [if_neg h1, if_neg h2, S.thr]
      · rw [p_run_0 (m0_1 36 (by decide)), if_neg (fun z => h2 z.2)]
end FST
section PSS
variable {fx : Bool} {σ : HS} {x : Nat} {G : Nat → Nat → Nat} {ms : MS}
theorem c_pass (F : Fx σ x) (N : Nx σ x ms) (ht : (h_thr 1 σ : Option (Except Nat Unit × HS)) = some (.error 1, σ)) (t : Int32) : f_X9_pass σ (some x) t = some (if passB ms t = true then (.ok (), h_setI σ x 9 (ms.1 1 + t)) else (.error 1, σ)) := by
  unfold f_X9_pass passB
  by_cases h1 : t < 1
  · rw [if_pos h1, ht, decide_eq_false (fun z => absurd h1 (Int32.not_lt.mpr z.1)), Bool.false_and, if_neg (by decide)]
  · rw [if_neg h1]
    by_cases h2 : 1000 < t
    · rw [if_pos h2, ht, decide_eq_false (fun z => absurd h2 (Int32.not_lt.mpr z.2)), Bool.false_and, if_neg (by decide)]
    · rw [if_neg h2, decide_eq_true ⟨Int32.not_lt.mp h1, Int32.not_lt.mp h2⟩, gI_s F.1, N.2.1, h_b1_s, Bool.true_and]
      by_cases h3 : ms.1 1 + t ≤ 1000000
      · rw [if_pos h3, h_b1_s, pI_s F.1, h_b1_s, decide_eq_true h3, if_pos rfl]
      · rw [if_neg h3, ht, decide_eq_false h3, if_neg (by decide)]
end PSS
