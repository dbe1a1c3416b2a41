/-! THE ROW: once more, taken out; posts -/
section ROX
variable {fx : Bool} {σ : HS} {x : Nat} {G : Nat → Nat → Nat} {ms : MS}
theorem iv_sA {σ : HS} {a j : Nat} {g : Nat → Int32} : h_iv (h_setA σ a g) a j = g j := by
  show h_upA _ _ _ _ _ = _
  unfold h_upA
  rw [if_pos rfl]
theorem iv_sAa {σ : HS} {a b j : Nat} {g : Nat → Int32} (h : b ≠ a) : h_iv (h_setA σ a g) b j = h_iv σ b j := upA_ne h
/-- one message copied onto another's place -/
theorem cp_cel {f q q' : Nat} (hq : q < 200) (hq' : q' < 200) {t j : Nat} (ht : t < 200) (hj : j < 8) : cel (h_setA σ (x + 11) (va_cpy (h_iv σ (x + 11)) (h_iv σ (x + 11)) (8 * ring f q) (8 * ring f q') 8)) x f t j = if t = q' then cel σ x f q j else cel σ x f t j := by
  unfold cel
  rw [iv_sA]
  by_cases h : t = q'
  · subst h
    rw [if_pos rfl, pk_cpy_in (by omega) (by omega), show 8 * ring f q + (8 * ring f t + j - 8 * ring f t) = 8 * ring f q + j by omega]
  · have hne : ring f t ≠ ring f q' := fun e => h (ring_inj (by omega) (by omega) e)
    rw [if_neg h, pk_cpy_out (by omega)]
theorem c_addAgain (F : Fx σ x) (R : Rx fx σ x ms) {n k : Nat} (hn : ms.1 36 = nI n) (h : n ≤ 200) (hk : k < n) : ∃ σ', f_X5_addAgain σ (some (x + 10)) (nI k) = some ((), σ') ∧ WI [x + 10, x + 11] σ σ' ∧ Rx fx σ' x (postM ms n (fun j => ms.2.1 37 (8 * k + (if j < 8 then j else 7)))) := by
  have R0 := R
  obtain ⟨f, n', a1, a2, a3, a4, a5, a6, a7⟩ := R
  have en : n' = n := (nI_eq (by omega) (by omega)).mp (a5.symm.trans hn)
  subst en
  unfold f_X5_addAgain
  rw [gI_s F.rw6, a4, h_b1_s]
  by_cases h200 : n' = 200
  · subst h200
    rw [if_neg (by decide), gI_s F.rw6, h_b1_s, pI_s F.rw6, h_b1_s]
    refine ⟨_, rfl, WI_I (by simp), Rx_lost R0 hn (iv_sIk (by decide)) (iv_sIk (by decide)) iv_sI (fun k => up2_ne (by omega))⟩
  · have hr := ring_lt f n'
    have hr2 := ring_lt f k
    rw [if_pos (show nI n' < (200 : Int32) from nI_lt (a := n') (b := 200) (by omega) (by omega)), gR_s F.rw6, F.rwc, h_b1_s, rcv_s F.rw6, h_b1_s, c_cell F a3 a1 (by omega), h_bd_s, gR_s F.rw6, F.rwc, h_b1_s]
    rw [gI_s F.rw6, a4, h_b1_s, rcv_s F.rw6, h_b1_s, c_cell F a3 a1 (by omega), h_bd_s, show (8 : Int32) = nI 8 from rfl, cp_s F.c100 F.c100 F.cln F.cln (by omega) (by omega) (by omega) (by omega), h_b1_s]
    have W1 : WI [x + 10, x + 11] σ (h_setA σ (x + 11) (va_cpy (h_iv σ (x + 11)) (h_iv σ (x + 11)) (8 * ring f k) (8 * ring f n') 8)) := WI_A (by simp)
    have c1 := fun t j ht hj => cp_cel (σ := σ) (x := x) (f := f) (q := k) (q' := n') (by omega) (by omega) (t := t) (j := j) ht hj
    have i1 : ∀ j, h_iv (h_setA σ (x + 11) (va_cpy (h_iv σ (x + 11)) (h_iv σ (x + 11)) (8 * ring f k) (8 * ring f n') 8)) (x + 10) j = h_iv σ (x + 10) j := fun j => iv_sAa (by omega)
    generalize h_setA σ (x + 11) (va_cpy (h_iv σ (x + 11)) (h_iv σ (x + 11)) (8 * ring f k) (8 * ring f n') 8) = s1 at W1 c1 i1
    have F1 := W1.fx F
    rw [gI_s F1.rw6, i1, a4, h_b1_s, pI_s F1.rw6, h_b1_s, nI_c1]
    refine ⟨_, rfl, W1.tr (WI_I (by simp)), ?_⟩
    have ec : ∀ q j, cel (h_setI s1 (x + 10) 2 (nI (n' + 1))) x f q j = cel s1 x f q j := fun q j => iv_sIa (by omega)
    refine Rx_post R0 hn a3 a1 (by omega) (by rw [iv_sIk (by decide), i1]; exact a3) iv_sI (by rw [iv_sIk (by decide), i1]) (fun q j hq hj => ?_) (fun j hj => ?_)
    · rw [ec, c1 q j (by omega) hj, if_neg (by omega)]
    · rw [ec, c1 n' j (by omega) hj, if_pos rfl, if_pos hj]
      exact a7 k j hk hj
/-- a message taken out -/
theorem g_remove {f : Nat} (hf2 : f < 200) : ∀ (i m : Nat) (σ : HS), Fx σ x → h_iv σ (x + 10) 1 = nI f → i < 200 → i < m → ∃ σ', g_X5_remove_2 m σ (some (x + 10)) (nI i) = some ((), σ') ∧ WI [x + 10, x + 11] σ σ' ∧ h_iv σ' (x + 10) 1 = nI (ring f 1) ∧ h_iv σ' (x + 10) 2 = h_iv σ (x + 10) 2 - 1 ∧ h_iv σ' (x + 10) 3 = h_iv σ (x + 10) 3 ∧ ∀ t j, t < 200 → j < 8 → cel σ' x f t j = if 1 ≤ t ∧ t ≤ i then cel σ x f (t - 1) j else cel σ x f t j
  | 0, m, σ, F, hf, h1, h2 => by
    obtain ⟨m', rfl⟩ : ∃ m', m = m' + 1 := ⟨m - 1, by omega⟩
    rw [g_X5_remove_2, if_pos (by decide), gI_s F.rw6, hf, h_b1_s, pI_s F.rw6, h_b1_s]
    have e1 : (nI f + 1) - (nI f + 1) / 200 * 200 = nI (ring f 1) := r200 (q := 1) hf2 (by omega)
    rw [e1]
    have W1 : WI [x + 10, x + 11] σ (h_setI σ (x + 10) 1 (nI (ring f 1))) := WI_I (by simp)
    have F1 := W1.fx F
    rw [gI_s F1.rw6, h_b1_s, pI_s F1.rw6, h_b1_s]
    refine ⟨_, rfl, W1.tr (WI_I (by simp)), by rw [iv_sIk (by decide)]; exact iv_sI, by rw [iv_sI, iv_sIk (by decide)], by rw [iv_sIk (by decide), iv_sIk (by decide)], fun t j ht hj => ?_⟩
    rw [if_neg (by omega)]
    unfold cel
    rw [iv_sIa (by omega), iv_sIa (by omega)]
  | i + 1, m, σ, F, hf, h1, h2 => by
    obtain ⟨m', rfl⟩ : ∃ m', m = m' + 1 := ⟨m - 1, by omega⟩
    have hr := ring_lt f i
    have hr2 := ring_lt f (i + 1)
    rw [g_X5_remove_2, if_neg (show ¬ nI (i + 1) ≤ 0 from nI_nle (by omega) (by omega)), gR_s F.rw6, F.rwc, h_b1_s, rcv_s F.rw6, h_b1_s, show (1 : Int32) = nI 1 from rfl, pk_sub (by omega), show i + 1 - 1 = i by omega, c_cell F hf hf2 (by omega), h_bd_s, gR_s F.rw6, F.rwc, h_b1_s, rcv_s F.rw6, h_b1_s, c_cell F hf hf2 (by omega), h_bd_s, show (8 : Int32) = nI 8 from rfl, cp_s F.c100 F.c100 F.cln F.cln (by omega) (by omega) (by omega) (by omega), h_b1_s]
    have W1 : WI [x + 10, x + 11] σ (h_setA σ (x + 11) (va_cpy (h_iv σ (x + 11)) (h_iv σ (x + 11)) (8 * ring f i) (8 * ring f (i + 1)) 8)) := WI_A (by simp)
    have c1 := fun t j ht hj => cp_cel (σ := σ) (x := x) (f := f) (q := i) (q' := i + 1) (by omega) (by omega) (t := t) (j := j) ht hj
    have i1 : ∀ j, h_iv (h_setA σ (x + 11) (va_cpy (h_iv σ (x + 11)) (h_iv σ (x + 11)) (8 * ring f i) (8 * ring f (i + 1)) 8)) (x + 10) j = h_iv σ (x + 10) j := fun j => iv_sAa (by omega)
    generalize h_setA σ (x + 11) (va_cpy (h_iv σ (x + 11)) (h_iv σ (x + 11)) (8 * ring f i) (8 * ring f (i + 1)) 8) = s1 at W1 c1 i1
    obtain ⟨σ', r1, r2, r3, r4, r5, r6⟩ := g_remove hf2 i m' s1 (W1.fx F) (by rw [i1]; exact hf) (by omega) (by omega)
    have em : nI (i + 1) + -nI 1 = nI i := by
      have : nI (i + 1) + -nI 1 = nI (i + 1) - nI 1 := (Int32.sub_eq_add_neg _ _).symm
      rw [this, pk_sub (by omega)]; rfl
    rw [em]
    refine ⟨σ', r1, W1.tr r2, r3, by rw [r4, i1]; rfl, by rw [r5, i1], fun t j ht hj => ?_⟩
    rw [r6 t j ht hj]
    by_cases ha : 1 ≤ t ∧ t ≤ i
    · rw [if_pos ha, if_pos (by omega), c1 (t - 1) j (by omega) hj, if_neg (by omega)]
    · rw [if_neg ha, c1 t j ht hj]
      by_cases hb : t = i + 1
      · rw [if_pos hb, if_pos (by omega), show t - 1 = i by omega]
      · rw [if_neg hb, if_neg (by omega)]
theorem ring_s (f q : Nat) : ring (ring f 1) q = ring f (q + 1) := by
  unfold ring
  omega
theorem c_remove (F : Fx σ x) (R : Rx fx σ x ms) {n k : Nat} (hn : ms.1 36 = nI n) (h : n ≤ 200) (hk : k < n) : ∃ σ', f_X5_remove σ (some (x + 10)) (nI k) = some ((), σ') ∧ WI [x + 10, x + 11] σ σ' ∧ Rx fx σ' x (takeM ms n k) := by
  obtain ⟨f, n', a1, a2, a3, a4, a5, a6, a7⟩ := R
  have en : n' = n := (nI_eq (by omega) (by omega)).mp (a5.symm.trans hn)
  subst en
  unfold f_X5_remove
  obtain ⟨σ', r1, r2, r3, r4, r5, r6⟩ := g_remove a1 k h_hN σ F a3 (by omega) (h_hN_lt (by omega))
  refine ⟨σ', r1, r2, ring f 1, n' - 1, ring_lt f 1, by omega, r3, ?_, takeM_36, ?_, fun q j hq hj => ?_⟩
  · rw [r4, a4, show (1 : Int32) = nI 1 from rfl, pk_sub (by omega)]
  · rw [r5, a6, takeM_s (by decide)]
  · have e1 : cel σ' x (ring f 1) q j = cel σ' x f (q + 1) j := by unfold cel; rw [ring_s]
    rw [e1, r6 (q + 1) j (by omega) hj, takeM_37 (show 6 < 8 by omega) hk, takeM_37 hj hk]
    by_cases hc : k ≤ q ∧ q < n' - 1
    · rw [if_neg (show ¬(1 ≤ q + 1 ∧ q + 1 ≤ k) by omega), if_pos hc]
      exact a7 (q + 1) j (by omega) hj
    · rw [if_pos (show 1 ≤ q + 1 ∧ q + 1 ≤ k by omega), if_neg hc, show q + 1 - 1 = q by omega]
      exact a7 q j (by omega) hj
-- the draft
theorem d_s (F : Fx σ x) {i : Nat} {v : Int32} (hi : i < 6) : h_gR σ (some x) 10 6 = some (some (x + 13)) ∧ h_sI σ (some (x + 13)) 100 (nI i) v = some (h_setI σ (x + 13) i v) := ⟨by rw [gR_s F.1, F.rDraft], sI_s F.d100 F.dln hi (by omega)⟩
/-- six numbers in the draft, then the message comes -/
theorem c_draft (F : Fx σ x) (R : Rx fx σ x ms) {n : Nat} (hn : ms.1 36 = nI n) (h : n ≤ 200) {σ6 : HS} (W : WI [x + 13] σ σ6) {a b c d e f kd to : Int32} (h0 : h_iv σ6 (x + 13) 0 = a) (h1 : h_iv σ6 (x + 13) 1 = b) (h2 : h_iv σ6 (x + 13) 2 = c) (h3 : h_iv σ6 (x + 13) 3 = d) (h4 : h_iv σ6 (x + 13) 4 = e) (h5 : h_iv σ6 (x + 13) 5 = f) :
    ∃ σ', f_X5_add σ6 (some (x + 10)) kd to (some (x + 13)) = some ((), σ') ∧ WI [x + 10, x + 11, x + 13] σ σ' ∧ Rx fx σ' x (postM ms n (mG a b c d e f kd to)) := by
  have R6 : Rx fx σ6 x ms := R.to (W.sm (by simp)) (W.sm (by simp)) rfl rfl (fun _ => rfl)
  obtain ⟨σ', r1, r2, r3⟩ := c_add (W.fx F) R6 hn h (kd := kd) (to := to) (g := mG a b c d e f kd to) (fun j hj => by
    rcases (show j = 0 ∨ j = 1 ∨ j = 2 ∨ j = 3 ∨ j = 4 ∨ j = 5 by omega) with rfl | rfl | rfl | rfl | rfl | rfl
    · exact Or.inr h0
    · exact Or.inr h1
    · exact Or.inr h2
    · exact Or.inr h3
    · exact Or.inr h4
    · exact Or.inr h5) rfl rfl
  exact ⟨σ', r1, (W.up (by simp)).tr (r2.up (by intro b hb; simp at hb ⊢; omega)), r3⟩
/-- six writes -/
theorem d6 {a b c d e f : Int32} : WI [x + 13] σ (h_setI (h_setI (h_setI (h_setI (h_setI (h_setI σ (x + 13) 0 a) (x + 13) 1 b) (x + 13) 2 c) (x + 13) 3 d) (x + 13) 4 e) (x + 13) 5 f) ∧ ∀ τ, τ = h_setI (h_setI (h_setI (h_setI (h_setI (h_setI σ (x + 13) 0 a) (x + 13) 1 b) (x + 13) 2 c) (x + 13) 3 d) (x + 13) 4 e) (x + 13) 5 f → h_iv τ (x + 13) 0 = a ∧ h_iv τ (x + 13) 1 = b ∧ h_iv τ (x + 13) 2 = c ∧ h_iv τ (x + 13) 3 = d ∧ h_iv τ (x + 13) 4 = e ∧ h_iv τ (x + 13) 5 = f := by
  refine ⟨((((((WI_I (by simp)).tr (WI_I (by simp))).tr (WI_I (by simp))).tr (WI_I (by simp))).tr (WI_I (by simp))).tr (WI_I (by simp))), fun τ ht => ?_⟩
  subst ht
  refine ⟨?_, ?_, ?_, ?_, ?_, ?_⟩
  · rw [iv_sIk (by decide), iv_sIk (by decide), iv_sIk (by decide), iv_sIk (by decide), iv_sIk (by decide), iv_sI]
  · rw [iv_sIk (by decide), iv_sIk (by decide), iv_sIk (by decide), iv_sIk (by decide), iv_sI]
  · rw [iv_sIk (by decide), iv_sIk (by decide), iv_sIk (by decide), iv_sI]
  · rw [iv_sIk (by decide), iv_sIk (by decide), iv_sI]
  · rw [iv_sIk (by decide), iv_sI]
  · rw [iv_sI]
theorem dw (F : Fx σ x) {k i : Nat} {v w : Int32} (hi : i < 6) : h_gR (h_setI σ (x + 13) k w) (some x) 10 6 = some (some (x + 13)) ∧ h_sI (h_setI σ (x + 13) k w) (some (x + 13)) 100 (nI i) v = some (h_setI (h_setI σ (x + 13) k w) (x + 13) i v) := d_s ((WI_I (L := [x + 13]) (by simp) : WI [x + 13] σ _).fx F) hi
theorem c_postShort (F : Fx σ x) (R : Rx fx σ x ms) {n : Nat} (hn : ms.1 36 = nI n) (h : n ≤ 200) (kd to a b c : Int32) : ∃ σ', f_X9_postShort σ (some x) kd to a b c = some ((), σ') ∧ WI [x + 10, x + 11, x + 13] σ σ' ∧ Rx fx σ' x (postM ms n (mG a b c 0 0 0 kd to)) := by
  unfold f_X9_postShort
  have q0 := d_s (v := a) F (i := 0) (by omega)
  have F1 : Fx (h_setI σ (x + 13) 0 a) x := (WI_I (L := [x + 13]) (by simp) : WI [x + 13] σ _).fx F
  have q1 := d_s (v := b) F1 (i := 1) (by omega)
  have F2 : Fx (h_setI (h_setI σ (x + 13) 0 a) (x + 13) 1 b) x := (WI_I (L := [x + 13]) (by simp) : WI [x + 13] _ _).fx F1
  have q2 := d_s (v := c) F2 (i := 2) (by omega)
  have F3 : Fx (h_setI (h_setI (h_setI σ (x + 13) 0 a) (x + 13) 1 b) (x + 13) 2 c) x := (WI_I (L := [x + 13]) (by simp) : WI [x + 13] _ _).fx F2
  have q3 := d_s (v := 0) F3 (i := 3) (by omega)
  have F4 : Fx (h_setI (h_setI (h_setI (h_setI σ (x + 13) 0 a) (x + 13) 1 b) (x + 13) 2 c) (x + 13) 3 0) x := (WI_I (L := [x + 13]) (by simp) : WI [x + 13] _ _).fx F3
  have q4 := d_s (v := 0) F4 (i := 4) (by omega)
  have F5 : Fx (h_setI (h_setI (h_setI (h_setI (h_setI σ (x + 13) 0 a) (x + 13) 1 b) (x + 13) 2 c) (x + 13) 3 0) (x + 13) 4 0) x := (WI_I (L := [x + 13]) (by simp) : WI [x + 13] _ _).fx F4
  have q5 := d_s (v := 0) F5 (i := 5) (by omega)
  obtain ⟨W, hv⟩ := d6 (σ := σ) (x := x) (a := a) (b := b) (c := c) (d := 0) (e := 0) (f := 0)
  obtain ⟨v0, v1, v2, v3, v4, v5⟩ := hv _ rfl
  have F6 := W.fx F
  obtain ⟨σ', r1, r2, r3⟩ := c_draft F R hn h W v0 v1 v2 v3 v4 v5 (kd := kd) (to := to)
  refine ⟨σ', ?_, r2, r3⟩
  rw [q0.1, h_b1_s, (show h_sI σ (some (x + 13)) 100 0 a = _ from q0.2), h_b1_s, q1.1, h_b1_s, (show h_sI _ (some (x + 13)) 100 1 b = _ from q1.2), h_b1_s, q2.1, h_b1_s, (show h_sI _ (some (x + 13)) 100 2 c = _ from q2.2), h_b1_s, q3.1, h_b1_s, (show h_sI _ (some (x + 13)) 100 3 0 = _ from q3.2), h_b1_s, q4.1, h_b1_s, (show h_sI _ (some (x + 13)) 100 4 0 = _ from q4.2), h_b1_s, q5.1, h_b1_s, (show h_sI _ (some (x + 13)) 100 5 0 = _ from q5.2), h_b1_s, gR_s F6.1, F6.rRow, h_b1_s, gR_s F6.1, F6.rDraft, h_b1_s, rcv_s F6.rw6, h_b1_s, r1, h_bd_s]
end ROX
