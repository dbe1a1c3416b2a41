/-! CALLS, with all that they leave: the row, time, packets, sites, servers -/
def Rm (σ : HS) : Prop := h_sz σ + 64 ≤ h_cz σ ∧ h_sl σ + 512 ≤ h_ck σ
theorem Rm.thr {σ : HS} (h : Rm σ) {α : Type} (k : Nat) : (h_thr k σ : Option (Except Nat α × HS)) = some (.error k, σ) := thr_of (by have := h.1; omega) (by have := h.2; omega)
theorem okM_cong {ms : MS} {v w : Int32} : ∀ k, k ≠ 0 → (k_pI ms 0 v).1 k = (k_pI ms 0 w).1 k := fun k hk => by rw [pI_n1 hk, pI_n1 hk]
theorem Kq_setR {x d s a k : Nat} {σ σ' : HS} {v : Option Nat} (h : Kq x d s σ σ') (ha : a < x + 15) : Kq x d s σ (h_setR σ' a k v) := ⟨h.1, h.2.1, h.2.2.1, h.2.2.2.1, h.2.2.2.2.1, fun c h1 h2 => (h.2.2.2.2.2 c h1 h2).tr (Sm_R (by omega))⟩
section CLA
variable {fx : Bool} {σ σ' : HS} {x : Nat} {G : Nat → Nat → Nat} {ms ms' : MS}
/-- the row alone has changed -/
theorem Rep_row (P : Rep fx σ x G ms) (W : WI [x + 10, x + 11, x + 12, x + 13] σ σ') (R : Rx fx σ' x ms') (e1 : ∀ k, k ≠ 36 → k ≠ 42 → k ≠ 0 → ms'.1 k = ms.1 k) (e2 : ∀ k j, k ≠ 37 → k ≠ 38 → ms'.2.1 k j = ms.2.1 k j) (e3 : ms'.2.2 = ms.2.2) : Rep fx σ' x G ms' := by
  obtain ⟨Z, F, N, -, Wn, K, S, T⟩ := P
  have hL : ∀ a, a ∈ [x + 10, x + 11, x + 12, x + 13] → h_tg σ a = 6 ∨ h_tg σ a = 100 := by
    intro a ha
    simp only [List.mem_cons, List.mem_nil_iff, or_false] at ha
    rcases ha with rfl | rfl | rfl | rfl
    · exact Or.inl F.rw6
    · exact Or.inr F.c100
    · exact Or.inr F.h100
    · exact Or.inr F.d100
  refine ⟨Zx_WI W Z, W.fx F, N.to (W.sm (by simp)) (e1 _ (by decide) (by decide) (by decide)) (e1 _ (by decide) (by decide) (by decide)) (e1 _ (by decide) (by decide) (by decide)) (e1 _ (by decide) (by decide) (by decide)) (e1 _ (by decide) (by decide) (by decide)) (e1 _ (by decide) (by decide) (by decide)), R, Wn.to (W.sm (by simp)) (W.sm (by simp)) (e1 _ (by decide) (by decide) (by decide)) (fun j => e2 _ _ (by decide) (by decide)) (fun j => e2 _ _ (by decide) (by decide)), Kx_WI K F W (fun a ha => ?_) (e1 _ (by decide) (by decide) (by decide)) (fun k j h1 h2 => e2 k j (by omega) (by omega)), Sx_WI S F W (fun a ha => ?_) (e1 _ (by decide) (by decide) (by decide)) (fun k j h1 h2 => e2 k j (by omega) (by omega)) e3, Tx_WI T F W (fun a ha => ?_) (e1 _ (by decide) (by decide) (by decide)) (fun k j h1 h2 => e2 k j (by omega) (by omega))⟩
  · rcases hL a ha with h | h <;> rw [h] <;> decide
  · rcases hL a ha with h | h <;> rw [h] <;> decide
  · rcases hL a ha with h | h <;> rw [h] <;> decide
theorem Kq_row (P : Rep fx σ x G ms) (W : WI [x + 10, x + 11, x + 12, x + 13] σ σ') : Kq x 0 0 σ σ' := (Kp_WI P.1 W (fun a ha => by simp only [List.mem_cons, List.mem_nil_iff, or_false] at ha; exact Or.inl (by omega))).q
theorem rowHas (P : Rep fx σ x G ms) {n : Nat} (hn : ms.1 36 = nI n) (h : n ≤ 200) (k : Int32) : h_gR σ (some x) 10 4 = some (some (x + 10)) ∧ h_rcv σ (some (x + 10)) 6 = some (x + 10) ∧ f_X5_has σ (some (x + 10)) k = some (b2i (msgB n k), σ) := by
  obtain ⟨-, F, -, R, -⟩ := P
  exact ⟨by rw [gR_s F.1, F.rRow], rcv_s F.rw6, c_has F R hn h k⟩
theorem k_drop (h : Bt fx σ x ms) (hm : Rm σ) {n : Nat} (hn : ms.1 36 = nI n) (hn2 : n ≤ 200) (a : Int32) : lcV cdL_drop (f_X9_drop σ (some x) a) (fun τ => f_X10_drop τ (some (x + 15)) a) (some x) (some (x + 15)) σ (fun τ => Bt fx τ x (if msgB n a = true then takeM (okM ms) n a.toNatClampNeg else noM ms) ∧ Gw (0 + 1) (0 + 6) σ τ) := by
  obtain ⟨G, P⟩ := h.1
  obtain ⟨r1, r2, r3⟩ := rowHas P hn hn2 a
  have hp := p_drop_eq ms a hn hn2
  by_cases hb : msgB n a = true
  · obtain ⟨k, hk, rfl⟩ := msgB_some hn2 hb
    rw [if_pos hb] at hp ⊢
    rw [nI_clamp (by omega)] at hp ⊢
    obtain ⟨σ1, c1, c2, c3⟩ := c_remove P.2.1 P.2.2.2.1 hn hn2 hk
    have W : WI [x + 10, x + 11, x + 12, x + 13] σ σ1 := c2.up (fun b hb => by simp only [List.mem_cons, List.mem_nil_iff, or_false] at hb ⊢; omega)
    refine stepV h (σ1 := σ1) (r := .ok ()) (c0 := 0) ?_ (Or.inl ⟨rfl, rfl⟩) (Kq_row P W) ⟨G, ?_⟩ hp ?_ (fun τ V => q_X10_drop V (nI k))
    · unfold f_X9_drop
      rw [r1, h_b1_s, r2, h_b1_s, r3, h_bd_s, hb, if_neg (by decide), r1, h_b1_s, r2, h_b1_s, c1, h_bd_s]
    · have P1 : Rep fx σ1 x G (takeM ms n k) := Rep_row P W c3 (fun q h1 _ _ => takeM_s h1) (fun q j h1 h2 => takeM_k h1 h2) rfl
      refine P1.ms1 rfl (fun q hq => ?_)
      by_cases e : q = 36
      · rw [e, takeM_36, takeM_36]
      · rw [takeM_s e, takeM_s e, okM_1 hq]
    · rw [takeM_s (by decide)]
      exact okM_0
  · have hb' : msgB n a = false := by cases hx : msgB n a with
      | false => rfl
      | true => exact absurd hx hb
    rw [if_neg hb] at hp ⊢
    refine stepV h (σ1 := σ) (r := .error 3) (c0 := 1) ?_ (Or.inr ⟨3, rfl, rfl⟩) Kq.rf ⟨G, P.cd 1⟩ hp noM_0 (fun τ V => q_X10_drop V a)
    unfold f_X9_drop
    rw [r1, h_b1_s, r2, h_b1_s, r3, h_bd_s, hb', if_pos (by rfl), hm.thr]
theorem k_repeat (h : Bt fx σ x ms) (hm : Rm σ) {n : Nat} (hn : ms.1 36 = nI n) (hn2 : n ≤ 200) (a : Int32) : lcV cdL_repeat (f_X9_repeat σ (some x) a) (fun τ => f_X10_repeat τ (some (x + 15)) a) (some x) (some (x + 15)) σ (fun τ => Bt fx τ x (if msgB n a = true then postM (okM ms) n (fun j => ms.2.1 37 (8 * a.toNatClampNeg + (if j < 8 then j else 7))) else noM ms) ∧ Gw (0 + 1) (0 + 6) σ τ) := by
  obtain ⟨G, P⟩ := h.1
  obtain ⟨r1, r2, r3⟩ := rowHas P hn hn2 a
  have hp := p_repeat_eq ms a hn hn2
  by_cases hb : msgB n a = true
  · obtain ⟨k, hk, rfl⟩ := msgB_some hn2 hb
    rw [if_pos hb] at hp ⊢
    rw [nI_clamp (by omega)] at hp ⊢
    obtain ⟨σ1, c1, c2, c3⟩ := c_addAgain P.2.1 P.2.2.2.1 hn hn2 hk
    have W : WI [x + 10, x + 11, x + 12, x + 13] σ σ1 := c2.up (fun b hb => by simp only [List.mem_cons, List.mem_nil_iff, or_false] at hb ⊢; omega)
    refine stepV h (σ1 := σ1) (r := .ok ()) (c0 := 0) ?_ (Or.inl ⟨rfl, rfl⟩) (Kq_row P W) ⟨G, ?_⟩ hp ?_ (fun τ V => q_X10_repeat V (nI k))
    · unfold f_X9_repeat
      rw [r1, h_b1_s, r2, h_b1_s, r3, h_bd_s, hb, if_neg (by decide), r1, h_b1_s, r2, h_b1_s, c1, h_bd_s]
    · have P1 : Rep fx σ1 x G (postM ms n (fun j => ms.2.1 37 (8 * k + (if j < 8 then j else 7)))) := Rep_row P W c3 (fun q h1 h2 _ => postM_s h1 h2) (fun q j h1 _ => postM_k h1) postM_L
      refine P1.ms1 ?_ (fun q hq => ?_)
      · unfold postM
        split <;> rfl
      · by_cases e : q = 36
        · rw [e, postM_36 hn, postM_36 (ms := okM ms) (by rw [okM_1 (by decide)]; exact hn)]
        · by_cases e2 : q = 42
          · rw [e2]
            unfold postM
            by_cases e3 : n = 200
            · rw [if_pos e3, if_pos e3, pI_s1, pI_s1, okM_1 (by decide)]
            · rw [if_neg e3, if_neg e3, pI_n1 (by decide), pI_n1 (by decide)]
              exact okM_1 (k := 42) (by decide)
          · rw [postM_s e e2, postM_s e e2, okM_1 hq]
    · rw [postM_s (by decide) (by decide)]
      exact okM_0
  · have hb' : msgB n a = false := by cases hx : msgB n a with
      | false => rfl
      | true => exact absurd hx hb
    rw [if_neg hb] at hp ⊢
    refine stepV h (σ1 := σ) (r := .error 3) (c0 := 1) ?_ (Or.inr ⟨3, rfl, rfl⟩) Kq.rf ⟨G, P.cd 1⟩ hp noM_0 (fun τ V => q_X10_repeat V a)
    unfold f_X9_repeat
    rw [r1, h_b1_s, r2, h_b1_s, r3, h_bd_s, hb', if_pos (by rfl), hm.thr]
/-- a field becomes v -/
theorem Rx_forge (R : Rx fx σ x ms) {n f k i : Nat} {v : Int32} (hn : ms.1 36 = nI n) (hn2 : n ≤ 200) (hf : h_iv σ (x + 10) 1 = nI f) (hf2 : f < 200) (hk : k < n) (hi : i < 6) : Rx fx (h_setI σ (x + 11) (8 * ring f k + i) v) x (aS ms 37 (8 * k + i) v) := by
  obtain ⟨f', n', a1, a2, a3, a4, a5, a6, a7⟩ := R
  have en : n' = n := (nI_eq (by omega) (by omega)).mp (a5.symm.trans hn)
  have ef : f' = f := (nI_eq (by omega) (by omega)).mp (a3.symm.trans hf)
  subst en
  subst ef
  refine ⟨f', n', a1, a2, by rw [iv_sIa (by omega)]; exact a3, by rw [iv_sIa (by omega)]; exact a4, a5, by rw [iv_sIa (by omega)]; exact a6, fun q j hq hj => ?_⟩
  rw [aS_j (show 8 * q + 6 ≠ 8 * k + i by omega)]
  by_cases e : 8 * q + j = 8 * k + i
  · have eq : q = k := by omega
    have ej : j = i := by omega
    subst eq
    subst ej
    right
    rw [aS_s]
    exact iv_sI
  · rw [aS_j e]
    rcases a7 q j hq hj with h | h
    · exact Or.inl h
    · right
      rw [← h]
      unfold cel
      refine iv_sIk (fun z => e ?_)
      have r1 := ring_lt f' q
      have r2 : ring f' q = ring f' k ∧ j = i := by omega
      have r3 := ring_inj (show q < 200 by omega) (show k < 200 by omega) r2.1
      omega
theorem k_forge (h : Bt fx σ x ms) (hm : Rm σ) {n : Nat} (hn : ms.1 36 = nI n) (hn2 : n ≤ 200) (a b c : Int32) : lcV cdL_forge (f_X9_forge σ (some x) a b c) (fun τ => f_X10_forge τ (some (x + 15)) a b c) (some x) (some (x + 15)) σ (fun τ => Bt fx τ x (if (msgB n a && decide (0 ≤ b ∧ b ≤ 5)) = true then aS (okM ms) 37 (8 * a.toNatClampNeg + b.toNatClampNeg) c else noM ms) ∧ Gw (0 + 1) (0 + 6) σ τ) := by
  obtain ⟨G, P⟩ := h.1
  obtain ⟨r1, r2, r3⟩ := rowHas P hn hn2 a
  have hp := p_forge_eq ms a b c hn hn2
  by_cases hb : (msgB n a && decide (0 ≤ b ∧ b ≤ 5)) = true
  · rw [if_pos hb] at hp ⊢
    obtain ⟨hb1, hb2⟩ := (Bool.and_eq_true _ _).mp hb
    have hb3 := of_decide_eq_true hb2
    obtain ⟨k, hk, rfl⟩ := msgB_some hn2 hb1
    obtain ⟨i, hi, rfl⟩ := nI_of2 (M := 5) (n := 5) (by decide) (Int32.not_lt.mpr hb3.1) hb3.2
    rw [nI_clamp (n := k) (by omega), nI_clamp (n := i) (by omega)] at hp ⊢
    obtain ⟨f, n', a1, a2, a3, a4, a5, a6, a7⟩ := id P.2.2.2.1
    have en : n' = n := (nI_eq (by omega) (by omega)).mp (a5.symm.trans hn)
    have cs := c_set P.2.1 (v := c) (q := k) (j := i) a3 a1 (by omega) (by omega)
    have W : WI [x + 10, x + 11, x + 12, x + 13] σ (h_setI σ (x + 11) (8 * ring f k + i) c) := WI_I (by simp)
    refine stepV h (σ1 := h_setI σ (x + 11) (8 * ring f k + i) c) (r := .ok ()) (c0 := 0) ?_ (Or.inl ⟨rfl, rfl⟩) (Kq_row P W) ⟨G, ?_⟩ hp (okM_0 (ms := ms)) (fun τ V => q_X10_forge V (nI k) (nI i) c)
    · unfold f_X9_forge
      rw [r1, h_b1_s, r2, h_b1_s, r3, h_bd_s, hb1, if_neg (by decide), if_neg (nI_pos (by omega)), if_pos (show nI i < 6 from nI_lt (a := i) (b := 6) (by omega) (by decide)), r1, h_b1_s, r2, h_b1_s, cs, h_bd_s]
    · have P1 : Rep fx (h_setI σ (x + 11) (8 * ring f k + i) c) x G (aS ms 37 (8 * k + i) c) := Rep_row P W (Rx_forge P.2.2.2.1 hn hn2 a3 a1 hk (by omega)) (fun _ _ _ _ => rfl) (fun q j h1 _ => aS_k h1) rfl
      exact P1.ms1 rfl (fun q hq => okM_1 hq)
  · rw [if_neg hb] at hp ⊢
    refine stepV h (σ1 := σ) (r := .error 3) (c0 := 1) ?_ (Or.inr ⟨3, rfl, rfl⟩) Kq.rf ⟨G, P.cd 1⟩ hp noM_0 (fun τ V => q_X10_forge V a b c)
    unfold f_X9_forge
    rw [r1, h_b1_s, r2, h_b1_s, r3, h_bd_s]
    cases hb1 : msgB n a with
    | false => rw [if_pos (by rfl), hm.thr]
    | true =>
      rw [hb1, Bool.true_and] at hb
      rw [if_neg (by decide)]
      by_cases h1 : b < 0
      · rw [if_pos h1, hm.thr]
      · rw [if_neg h1]
        by_cases h2 : b < 6
        · refine absurd (decide_eq_true ⟨Int32.not_lt.mp h1, ?_⟩) hb
          obtain ⟨i, hi, rfl⟩ := nI_of2 (M := 6) (n := 6) (by decide) h1 (Int32.le_of_lt h2)
          have : i < 6 := Nat.lt_of_not_le (fun z => absurd h2 (nI_nlt (a := i) (b := 6) z (by omega)))
          exact nI_le (a := i) (b := 5) (by omega) (by decide)
        · rw [if_neg h2, hm.thr]
theorem k_pass (h : Bt fx σ x ms) (hm : Rm σ) {t : Nat} (ht : ms.1 1 = nI t) (ht2 : t ≤ 1000000) (a : Int32) : lcV cdL_pass (f_X9_pass σ (some x) a) (fun τ => f_X10_pass τ (some (x + 15)) a) (some x) (some (x + 15)) σ (fun τ => Bt fx τ x (if passB ms a = true then k_pI (okM ms) 1 (ms.1 1 + a) else noM ms) ∧ Gw (0 + 1) (0 + 6) σ τ) := by
  obtain ⟨G, P⟩ := h.1
  have h9 := c_pass P.2.1 P.2.2.1 (hm.thr 1) a
  have hp := p_pass_eq ms a
  by_cases hb : passB ms a = true
  · rw [if_pos hb] at h9 hp ⊢
    obtain ⟨hb1, hb2⟩ := (Bool.and_eq_true _ _).mp hb
    have hb3 := of_decide_eq_true hb1
    have hb4 := of_decide_eq_true hb2
    obtain ⟨d, hd, rfl⟩ := nI_of2 (M := 1000) (n := 1000) (by decide) (fun z => absurd (Int32.lt_of_le_of_lt hb3.1 z) (by decide)) hb3.2
    rw [ht, nI_add] at h9 hp hb4 ⊢
    have hle : t + d ≤ 1000000 := Nat.le_of_not_lt (fun z => absurd hb4 (nI_ge (a := 1000000) (b := t + d) z (by omega)))
    have P1 := Rep_pass P ht (Nat.le_add_right t d) hle
    refine stepV h h9 (Or.inl ⟨rfl, rfl⟩) (Kp_x P).q ⟨G, P1.ms1 rfl (fun q hq => ?_)⟩ hp ?_ (fun τ V => q_X10_pass V (nI d))
    · by_cases e : q = 1
      · rw [e, pI_s1, pI_s1]
      · rw [pI_n1 e, pI_n1 e, okM_1 hq]
    · rw [pI_n1 (by decide)]
      exact okM_0
  · rw [if_neg hb] at h9 hp ⊢
    exact stepV h h9 (Or.inr ⟨1, rfl, rfl⟩) Kq.rf ⟨G, P.cd 1⟩ hp noM_0 (fun τ V => q_X10_pass V a)
theorem k_site (h : Bt fx σ x ms) (hm : Rm σ) (hab : ∀ s, s < 8 → ms.2.1 14 s = -1 → ms.2.1 15 s = 0 ∧ ms.2.1 18 s = 0 ∧ lL (fun q => nP (ms.1 1) q.1) (nM ms) (6 * s) 6 = []) (a b : Int32) : lcV cdL_site (f_X9_site σ (some x) a b) (fun τ => f_X10_site τ (some (x + 15)) a b) (some x) (some (x + 15)) σ (fun τ => Bt fx τ x (if siteMB ms a b = true then aS (okM ms) 14 a.toNatClampNeg b else noM ms) ∧ Gw (4 + 1) (17 + 6) σ τ) := by
  obtain ⟨G, P⟩ := h.1
  have h9 := c_site P (by have := hm.1; omega) (by have := hm.2; omega) a b
  have hp := p_site_eq ms a b
  by_cases hb : siteMB ms a b = true
  · rw [if_pos hb] at h9 hp ⊢
    unfold siteMB at hb
    obtain ⟨hb1, hb'⟩ := (Bool.and_eq_true _ _).mp hb
    obtain ⟨hb2, hb''⟩ := (Bool.and_eq_true _ _).mp hb'
    obtain ⟨hb3, -⟩ := (Bool.and_eq_true _ _).mp hb''
    have g1 := of_decide_eq_true hb1
    have g3 := of_decide_eq_true hb3
    obtain ⟨s, hs, rfl⟩ := nI_of2 (M := 7) (n := 7) (by decide) (Int32.not_lt.mpr g1.1) g1.2
    rw [nI_clamp (by omega)] at h9 hp hb2 ⊢
    have g2 := of_decide_eq_true hb2
    obtain ⟨e1, e2, e3⟩ := hab s (by omega) g2
    have P1 := Rep_site P (s := s) (by omega) g2 e1 e2 e3 (pl := b) (fun z => by rw [z] at g3; exact absurd g3.1 (by decide))
    have K1 := Kq_rpl P (sTx b) (dz := 4) (ds := 17) (by exact Nat.le_refl 4) (by exact Nat.le_refl 17)
    have K2 := Kq_setR (a := x + 7) (k := s) (v := some (h_sz σ + 0)) K1 (by omega)
    exact stepV h h9 (Or.inl ⟨rfl, rfl⟩) K2 ⟨_, P1.ms1 rfl (fun q hq => okM_1 hq)⟩ hp (okM_0 (ms := ms)) (fun τ V => q_X10_site V (nI s) b)
  · rw [if_neg hb] at h9 hp ⊢
    exact stepV h h9 (Or.inr ⟨1, rfl, rfl⟩) (Kq.rf.le (by omega) (by omega)) ⟨G, P.cd 1⟩ hp noM_0 (fun τ V => q_X10_site V a b)
theorem k_delegate (h : Bt fx σ x ms) (hm : Rm σ) (Tt : Tr ms) (hab : ∀ i, i < 8 → ms.2.1 3 i = 0 → eL (ms.1 1) (eM ms) (16 * i) 16 = [] ∧ ∀ s, s < 8 → ms.2.2 (8 * i + s) = -3000000000) (p c b l : Int32) : lcV cdL_delegate (f_X9_delegate σ (some x) p c b l) (fun τ => f_X10_delegate τ (some (x + 15)) p c b l) (some x) (some (x + 15)) σ (fun τ => Bt fx τ x (if delB ms p c b l = true then dlgM (okM ms) c.toNatClampNeg b l p else noM ms) ∧ Gw (4 + 1) (31 + 6) σ τ) := by
  obtain ⟨G, P⟩ := h.1
  obtain ⟨r, σ1, h9, hh⟩ := c_delegate P Tt (by have := hm.1; omega) (by have := hm.2; omega) p c b l
  have hp := p_delegate_eq ms p c b l Tt.2.1
  rcases hh with ⟨h1, rfl, rfl⟩ | ⟨h1, rfl, h2⟩
  · rw [if_pos h1] at hp ⊢
    have hb := h1
    unfold delB at hb
    obtain ⟨-, hb'⟩ := (Bool.and_eq_true _ _).mp hb
    obtain ⟨hb2, hb''⟩ := (Bool.and_eq_true _ _).mp hb'
    obtain ⟨hb3, hb4⟩ := (Bool.and_eq_true _ _).mp hb''
    obtain ⟨hb5, -⟩ := (Bool.and_eq_true _ _).mp hb4
    have g2 := of_decide_eq_true hb2
    have g3 := of_decide_eq_true hb3
    obtain ⟨k, hk, rfl⟩ := nI_of2 (M := 7) (n := 7) (by decide) (Int32.not_lt.mpr g2.1) g2.2
    obtain ⟨n, hn, rfl, hv⟩ := vpB_nI hb5
    rw [nI_clamp (by omega)] at h9 hp g3 ⊢
    obtain ⟨e1, e2⟩ := hab k (by omega) g3
    have P1 := Rep_server P (k := k) (n := n) (b := b) (p := p) (by omega) g3 hn hv e1 e2
    have K1 := Kq_rpl P (pSx b (nI n) (nI k) p) (dz := 4) (ds := 31) (by exact Nat.le_refl 4) (by exact Nat.le_refl 31)
    have K2 := Kq_setR (a := x + 2) (k := k) (v := some (h_sz σ + 1)) K1 (by omega)
    exact stepV h h9 (Or.inl ⟨rfl, rfl⟩) K2 ⟨_, P1.ms1 rfl (fun q hq => okM_1 hq)⟩ hp (okM_0 (ms := ms)) (fun τ V => q_X10_delegate V p (nI k) b (nI n))
  · rw [h1, if_neg (by decide)] at hp
    rw [h1, if_neg (by decide)]
    rcases h2 with rfl | rfl
    · exact stepV h h9 (Or.inr ⟨1, rfl, rfl⟩) (Kq.rf.le (by omega) (by omega)) ⟨G, P.cd 1⟩ hp noM_0 (fun τ V => q_X10_delegate V p c b l)
    · exact stepV h h9 (Or.inr ⟨1, rfl, rfl⟩) ((Kq_rpl P _ (dz := 1) (ds := 2) (by exact Nat.le_refl 1) (by exact Nat.le_refl 2)).le (by omega) (by omega)) ⟨G, (P.ext (Ext_rpl P.n0 _)).cd 1⟩ hp noM_0 (fun τ V => q_X10_delegate V p c b l)
theorem k_packet (h : Bt fx σ x ms) (hm : Rm σ) {np : Nat} (hnp : ms.1 28 = nI np) (hnp2 : np ≤ 200) (a w : Int32) : lcI cdL_packet (f_X9_packet σ (some x) a w) (fun τ => f_X10_packet τ (some (x + 15)) a w) (some x) (some (x + 15)) (some (x + 49)) σ (fun τ => Bt fx τ x (if decide (1 ≤ a ∧ a ≤ nI np) = true then okM ms else noM ms) ∧ Gw (0 + 1) (0 + 6) σ τ) := by
  obtain ⟨G, P⟩ := h.1
  have hat := c_packetAt P.2.1 P.2.2.1 P.2.2.2.2.2.1 a
  rw [hnp] at hat
  have hp := p_packet_eq ms a w hnp hnp2
  by_cases hb : decide (1 ≤ a ∧ a ≤ nI np) = true
  · rw [if_pos hb] at hp hat ⊢
    have g := of_decide_eq_true hb
    obtain ⟨i, hi, rfl⟩ := nI_of2 (M := nI np) (n := np) (nI_toInt (by omega)) (fun z => absurd (Int32.lt_of_le_of_lt g.1 z) (by decide)) g.2
    have hi1 : 1 ≤ i := Nat.pos_of_ne_zero (fun z => by rw [z] at g; exact absurd g.1 (by decide))
    rw [nI_clamp (by omega)] at hp hat
    obtain ⟨t1, -, -, -, v3, -, v5, v6, v7⟩ := pkt P hnp hnp2 (i := i - 1) (by omega)
    rw [show i - 1 + 1 = i by omega] at v3 v5 v6 v7
    refine stepI h (σ1 := σ) (r := .ok (pktV ms i w)) (c0 := 0) ?_ (Or.inl ⟨rfl, rfl⟩) Kq.rf ⟨G, P.cd 0⟩ hp okM_0 (fun τ V => q_X10_packet V (nI i) w)
    unfold f_X9_packet pktV
    rw [rcv_s P.2.1.1, h_b1_s, hat, h_bd_s, if_neg (fun z => by cases z)]
    by_cases h0 : w = 0
    · rw [if_pos h0, if_pos h0, gI_s t1, h_b1_s, v3]
    rw [if_neg h0, if_neg h0]
    by_cases h1 : w = 1
    · rw [if_pos h1, if_pos h1, gI_s t1, h_b1_s, v5]
    rw [if_neg h1, if_neg h1]
    by_cases h2 : w = 2
    · rw [if_pos h2, if_pos h2, gI_s t1, h_b1_s, v6]
    rw [if_neg h2, if_neg h2]
    by_cases h3 : w = 3
    · rw [if_pos h3, if_pos h3, gI_s t1, h_b1_s, v7]
    rw [if_neg h3, if_neg h3]
  · rw [if_neg hb] at hp hat ⊢
    refine stepI h (σ1 := σ) (r := .error 1) (c0 := 1) ?_ (Or.inr ⟨1, rfl, rfl, by decide⟩) Kq.rf ⟨G, P.cd 1⟩ hp noM_0 (fun τ V => q_X10_packet V a w)
    unfold f_X9_packet
    rw [rcv_s P.2.1.1, h_b1_s, hat, h_bd_s, if_pos rfl, hm.thr]
end CLA
