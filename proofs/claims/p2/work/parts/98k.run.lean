/-! CALLS: run -/
section RUN
variable {fx : Bool} {σ σ' : HS} {x : Nat} {G : Nat → Nat → Nat} {ms ms' : MS} {n np M t : Nat}
theorem lcV_mono {cd : Nat → Option Int32} {F9 : Option (Except Nat Unit × HS)} {F10 : HS → Option (Unit × HS)} {a mo : Option Nat} {K K' : HS → Prop} (h : lcV cd F9 F10 a mo σ K) (hK : ∀ τ, K τ → K' τ) : lcV cd F9 F10 a mo σ K' := by
  obtain ⟨q, r, σ1, h1, h2, h3, h4⟩ := h
  refine ⟨q, r, σ1, h1, h2, h3, fun k σ2 h => ?_⟩
  obtain ⟨q2, a1, σ3, a2, q3, a3, σ4, a4, a5⟩ := h4 k σ2 h
  exact ⟨q2, a1, σ3, a2, q3, a3, σ4, a4, hK _ a5⟩
theorem lcI_mono {cd : Nat → Option Int32} {F9 : Option (Except Nat Int32 × HS)} {F10 : HS → Option (Int32 × HS)} {a mo o : Option Nat} {K K' : HS → Prop} (h : lcI cd F9 F10 a mo o σ K) (hK : ∀ τ, K τ → K' τ) : lcI cd F9 F10 a mo o σ K' := by
  obtain ⟨q, r, σ1, h1, h2, h3, h3', h4⟩ := h
  refine ⟨q, r, σ1, h1, h2, h3, h3', fun k σ2 h => ?_⟩
  obtain ⟨q2, a1, v, σ3, a2, q3, a3, σ4, a4, a5, a6⟩ := h4 k σ2 h
  exact ⟨q2, a1, v, σ3, a2, q3, a3, σ4, a4, a5, hK _ a6⟩
theorem lcN_mono {F9 : Option (Int32 × HS)} {F10 : HS → Option (Int32 × HS)} {a mo : Option Nat} {K K' : HS → Prop} (h : lcN F9 F10 a mo σ K) (hK : ∀ τ, K τ → K' τ) : lcN F9 F10 a mo σ K' := by
  obtain ⟨q, v, σ1, h1, h2, q2, h3, σ2, h4, h5⟩ := h
  exact ⟨q, v, σ1, h1, h2, q2, h3, σ2, h4, hK _ h5⟩
theorem RI.tk2 (r : RI ms n np M t) {k : Nat} (hk : k < n) : RI (takeM ms n k) (n - 1) np M t ∧ kOk ((takeM ms n k).2.1 38 6) ((takeM ms n k).2.1 38 7) ∧ Phi (takeM ms n k) (n - 1) np + phi ((takeM ms n k).2.1 38 6) = Phi ms n np := by
  obtain ⟨h1, h2⟩ := r.take hk
  refine ⟨h1, h2, ?_⟩
  have h3 := ph_take (ms := ms) (n := n) hk
  have h4 : phP (takeM ms n k) np = phP ms np := phP_congr (fun j => takeM_k (by decide) (by decide))
  have h5 : (takeM ms n k).2.1 38 6 = ms.2.1 37 (8 * k + 6) := takeM_38 (show 6 < 8 by omega)
  rw [h5]
  unfold Phi
  omega
theorem g_run (hfx : fx = false) {a : Nat} (ha : a ≤ 1000) : ∀ (c N i : Nat) (σ : HS) (ms : MS) (n M : Nat), i + c = a → c < N → Rep fx σ x G ms → ms.1 0 = 0 → RI ms n np M t → h_sz σ + Phi ms n np + 2 ≤ h_cz σ → h_sl σ + 4 * Phi ms n np + 7 ≤ h_ck σ →
    ∃ v σ' ms' n' M' d, g_X9_run_23 N σ (some x) (nI a) (nI i) = some (.ok v, σ') ∧ pg_X10_run_22 N ms (nI a) (nI i) = some (v, ms') ∧ Rep fx σ' x G ms' ∧ ms'.1 0 = 0 ∧ RI ms' n' np M' t ∧ Kq x d (4 * d) σ σ' ∧ Phi ms' n' np + d ≤ Phi ms n np
  | _, 0, _, _, _, _, _, _, h, _, _, _, _, _ => absurd h (Nat.not_lt_zero _)
  | c, N + 1, i, σ, ms, n, M, hi, hN, P, h0, r, hz, hl => by
    rw [g_X9_run_23, pg_X10_run_22, if_pos h0]
    by_cases hd : a ≤ i
    · have e : nI a ≤ nI i := nI_le hd (by omega)
      rw [if_pos e, if_pos e]
      exact ⟨nI i, σ, ms, n, M, 0, rfl, rfl, P, h0, r, Kq.rf, Nat.le_refl _⟩
    · have e : ¬ nI a ≤ nI i := nI_ge (Nat.lt_of_not_le hd) (by omega)
      obtain ⟨f, n', a1, a2, a3, a4, a5, a6, a7⟩ := id P.2.2.2.1
      have gg := r.2.2.2.2.2.2.2
      have en : n' = n := (nI_eq (by omega) (by have := gg.1; omega)).mp (a5.symm.trans gg.2.1)
      have r4 : h_gR σ (some x) 10 4 = some (some (x + 10)) := by rw [gR_s P.2.1.1, P.2.1.rRow]
      have r5 : h_gI σ (some (x + 10)) 6 2 = some (nI n) := by rw [gI_s P.2.1.rw6, a4, en]
      rw [if_neg e, if_neg e, r4, h_b1_s, r5, h_b1_s, gg.2.1]
      by_cases hn0 : n = 0
      · have e2 : nI n ≤ 0 := by rw [hn0]; decide
        rw [if_pos e2, if_pos e2]
        exact ⟨nI i, σ, ms, n, M, 0, rfl, rfl, P, h0, r, Kq.rf, Nat.le_refl _⟩
      · have e2 : ¬ nI n ≤ 0 := nI_ge (a := 0) (Nat.pos_of_ne_zero hn0) (by have := gg.1; omega)
        obtain ⟨t1, t2, t3⟩ := r.tk2 (k := 0) (Nat.pos_of_ne_zero hn0)
        obtain ⟨n2, M2, q1, q2⟩ := t1.arr t2
        obtain ⟨σ1, b1, b2, b3⟩ := a_bring P hfx (by omega) (by omega) (k := 0) gg.2.1 gg.1 (Nat.pos_of_ne_zero hn0) (t1.ra t2)
        have p1 : p_X10_take ms 0 = some ((), takeM ms n 0) := p_take_eq ms (k := 0) gg.2.1 (Nat.pos_of_ne_zero hn0) gg.1
        have gt := t1.2.2.2.2.2.2.2
        have ft := t1.2.2.2.2.2.2.1
        have p2 := p_arrive_eq (takeM ms n 0) gt.2.1 gt.1 ft.2.1 ft.1 t1.mi (t1.ra t2).ma
        have h0' : (arrM (takeM ms n 0) (n - 1) np).1 0 = 0 := by rw [arrM_s (by decide) (by decide) (by decide) (by decide), takeM_s (by decide)]; exact h0
        have k1 := b3.2.1
        have k2 := b3.2.2.1
        have k3 := b3.2.2.2.1
        have k4 := b3.2.2.2.2.1
        obtain ⟨v, σ', ms', n', M', d, c1, c2, c3, c4, c5, c6, c7⟩ := g_run hfx ha (c - 1) N (i + 1) σ1 _ n2 M2 (by omega) (by omega) b2 h0' q1 (by omega) (by omega)
        have b1' : f_X9_bring σ (some x) 0 = some ((), σ1) := b1
        refine ⟨v, σ', ms', n', M', cz ((takeM ms n 0).2.1 38 6) + d, ?_, ?_, c3, c4, c5, (b3.tr c6).le (Nat.le_refl _) (by omega), by omega⟩
        · rw [if_neg e2, rcv_s P.2.1.1, h_b1_s, b1', h_bd_s, nI_c1]
          exact c1
        · rw [if_neg e2, p1, k_bd_s, p2, k_bd_s, nI_c1]
          exact c2
theorem hN_s : ∃ k, h_hN = k + 1 := ⟨1999, rfl⟩
theorem hN_b : 1000 < h_hN := by unfold h_hN; omega
theorem p_run_no {a : Int32} (z : ¬ (0 ≤ a ∧ a ≤ 1000)) : p_X10_run ms a = some (0, noM ms) := by
  unfold p_X10_run
  rw [p_in_eq, k_bd_s, decide_eq_false z, if_pos (by rfl)]
  obtain ⟨k, hk⟩ := hN_s
  rw [hk]
  show pg_X10_run_22 (k + 1) (noM ms) a 0 = _
  rw [pg_X10_run_22, if_neg (by rw [noM_0]; decide)]
theorem p_run_ok {a : Int32} (z : 0 ≤ a ∧ a ≤ 1000) : p_X10_run ms a = pg_X10_run_22 h_hN (okM ms) a 0 := by
  unfold p_X10_run
  rw [p_in_eq, k_bd_s, decide_eq_true z, if_neg (by decide)]
  generalize h_hN = NN
  rfl
theorem f_run_ok {a : Int32} (h1 : ¬ a < 0) (h2 : a ≤ 1000) : f_X9_run σ (some x) a = g_X9_run_23 h_hN σ (some x) a 0 := by
  unfold f_X9_run
  rw [if_neg h1, if_pos h2]
theorem nI_00 : nI 0 = 0 := rfl
theorem k_run (h : Bt fx σ x ms) (hfx : fx = false) (r : RI ms n np M t) (hz : h_sz σ + Phi ms n np + 64 ≤ h_cz σ) (hl : h_sl σ + 4 * Phi ms n np + 512 ≤ h_ck σ) (a : Int32) : lcI cdL_run (f_X9_run σ (some x) a) (fun τ => f_X10_run τ (some (x + 15)) a) (some x) (some (x + 15)) (some (x + 49)) σ (fun τ => ∃ ms' n' M' d, Bt fx τ x ms' ∧ RI ms' n' np M' t ∧ Gw (d + 1) (4 * d + 6) σ τ ∧ Phi ms' n' np + d ≤ Phi ms n np) := by
  obtain ⟨G, P⟩ := h.1
  have hm : Rm σ := ⟨by omega, by omega⟩
  have bad : ¬ (0 ≤ a ∧ a ≤ 1000) → f_X9_run σ (some x) a = some (.error 1, σ) → lcI cdL_run (f_X9_run σ (some x) a) (fun τ => f_X10_run τ (some (x + 15)) a) (some x) (some (x + 15)) (some (x + 49)) σ (fun τ => ∃ ms' n' M' d, Bt fx τ x ms' ∧ RI ms' n' np M' t ∧ Gw (d + 1) (4 * d + 6) σ τ ∧ Phi ms' n' np + d ≤ Phi ms n np) := fun z h9 =>
    lcI_mono (stepI h h9 (Or.inr ⟨1, rfl, rfl, by decide⟩) Kq.rf ⟨G, P.cd 1⟩ (p_run_no z) noM_0 (fun τ V => q_X10_run V a)) (fun τ hh => ⟨noM ms, n, M, 0, hh.1, r.cd 1, hh.2, Nat.le_refl _⟩)
  by_cases h1 : a < 0
  · refine bad (fun z => absurd h1 (Int32.not_lt.mpr z.1)) ?_
    unfold f_X9_run
    rw [if_pos h1, hm.thr]
  · by_cases h2 : a ≤ 1000
    · obtain ⟨m, hm1, rfl⟩ := nI_of2 (M := 1000) (n := 1000) (by decide) h1 h2
      have e0 : Phi (okM ms) n np = Phi ms n np := rfl
      obtain ⟨v, σ', ms', n', M', d, c1, c2, c3, c4, c5, c6, c7⟩ := g_run (G := G) hfx hm1 m h_hN 0 σ (okM ms) n M (by omega) (Nat.lt_of_le_of_lt hm1 hN_b) (P.cd 0) okM_0 (r.cd 0) (by omega) (by omega)
      rw [nI_00] at c1 c2
      have hp : p_X10_run ms (nI m) = some (v, ms') := (p_run_ok ⟨Int32.not_lt.mp h1, h2⟩).trans c2
      have h9 : f_X9_run σ (some x) (nI m) = some (.ok v, σ') := (f_run_ok h1 h2).trans c1
      clear c1 c2
      exact lcI_mono (stepI h h9 (Or.inl ⟨rfl, rfl⟩) c6 ⟨G, c3⟩ hp c4 (fun τ V => q_X10_run V (nI m))) (fun τ hh => ⟨ms', n', M', d, hh.1, c5, hh.2, by omega⟩)
    · refine bad (fun z => h2 z.2) ?_
      unfold f_X9_run
      rw [if_neg h1, if_neg h2, hm.thr]
end RUN
