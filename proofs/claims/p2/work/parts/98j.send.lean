/-! WHAT IS KNOWN OF THE REFERENCE: send; the start -/
section SNK
variable {ms ms' : MS} {n np M t : Nat}
theorem RI.nw (r : RI ms n np M t) (hlt : np < 200) (e1 : ∀ k, k ≠ 0 → k ≠ 2 → k ≠ 28 → ms'.1 k = ms.1 k) (e28 : ms'.1 28 = nI (np + 1)) (e : ∀ k j, k < 29 ∨ 35 < k → ms'.2.1 k j = ms.2.1 k j) (ej : ∀ k j, j ≠ np + 1 → ms'.2.1 k j = ms.2.1 k j) (eL : ms'.2.2 = ms.2.2) (h34 : ms'.2.1 34 (np + 1) = 0) (hc : (¬ ms'.2.1 31 (np + 1) = 0 ∧ ms'.1 2 = ms.1 2) ∨ (ms'.2.1 31 (np + 1) = 0 ∧ ms'.1 2 = drw (ms.1 2) ∧ ms'.2.1 32 (np + 1) = drw (ms.1 2))) : RI ms' n (np + 1) M t ∧ Phi ms' n (np + 1) = Phi ms n np + 27 := by
  obtain ⟨ti, Tt, b, c, e', d, f, gg⟩ := r
  refine ⟨⟨⟨ti.1, by rw [e1 1 (by decide) (by decide) (by decide)]; exact ti.2⟩, Tr_congr (fun q j h1 h2 => e q j (by omega)) Tt, b.to (e1 1 (by decide) (by decide) (by decide)) (fun q j h1 h2 => e q j (by omega)) eL, c.to (fun q j h1 h2 => e q j (by omega)), e'.to (fun j => e 26 j (by omega)) (fun w _ h => by rw [e 14 w (by omega)]; exact h), d.to (e1 1 (by decide) (by decide) (by decide)) (e1 25 (by decide) (by decide) (by decide)) (fun q j h1 h2 => e q j (by omega)) (fun s _ h => by rw [e 14 s (by omega)] at h; exact h), f.new hlt e28 (fun k j _ hj => ej k j hj) h34 hc, gg.to (e1 36 (by decide) (by decide) (by decide)) (fun j => e 37 j (by omega))⟩, ?_⟩
  unfold Phi
  rw [phM_congr (fun j => e 37 j (by omega))]
  have hs : phP ms' (np + 1) = sm (fun i => 3 * (9 - stp_ ms' i)) 1 np + 3 * (9 - stp_ ms' (1 + np)) := sm_snoc np 1
  have h0 : stp_ ms' (1 + np) = 0 := by
    unfold stp_
    rw [Nat.add_comm 1 np, h34]; rfl
  have h1 : sm (fun i => 3 * (9 - stp_ ms' i)) 1 np = phP ms np := sm_congr np 1 (fun j _ hj => by show 3 * (9 - stp_ ms' j) = 3 * (9 - stp_ ms j); unfold stp_; rw [ej 34 j (by omega)])
  rw [hs, h0, h1]
  omega
theorem RI.snd (r : RI ms n np M t) (hlt : np < 200) {s : Nat} {ep : Int32} (hs : s < 8) : ∃ n', RI (sendM ms n s np ep) n' (np + 1) M t ∧ Phi (sendM ms n s np ep) n' (np + 1) ≤ Phi ms n np + 30 := by
  obtain ⟨-, -, -, -, -, d, f, gg⟩ := id r
  have f0 := f.2.2.1 (np + 1) (by omega) (by omega)
  generalize hm : startM ms (nI s) ep np = m1
  have k1 : ∀ k j, k ≠ 29 → k ≠ 30 → k ≠ 33 → m1.2.1 k j = ms.2.1 k j := fun k j h1 h2 h3 => by
    rw [← hm]; unfold startM; rw [aS_k h3, aS_k h2, aS_k h1]; rfl
  have j1 : ∀ k j, j ≠ np + 1 → m1.2.1 k j = ms.2.1 k j := fun k j h => by
    rw [← hm]; unfold startM; rw [aS_j h, aS_j h, aS_j h]; rfl
  have s1 : ∀ k, k ≠ 0 → k ≠ 28 → m1.1 k = ms.1 k := fun k h0 h => by
    rw [← hm]; show (k_pI (okM ms) 28 (nI (np + 1))).1 k = _; rw [pI_n1 h, okM_1 h0]
  have s28 : m1.1 28 = nI (np + 1) := by rw [← hm]; show (k_pI (okM ms) 28 (nI (np + 1))).1 28 = _; rw [pI_s1]
  have L1 : m1.2.2 = ms.2.2 := by rw [← hm]; rfl
  unfold sendM
  rw [hm]
  have one : ∀ v : Int32, ¬ v = 0 → RI (aS m1 31 (np + 1) v) n (np + 1) M t ∧ Phi (aS m1 31 (np + 1) v) n (np + 1) = Phi ms n np + 27 := fun v hv =>
    r.nw hlt (fun k h0 _ h => s1 k h0 h) s28 (fun k j h => by rw [aS_k (by omega), k1 k j (by omega) (by omega) (by omega)]) (fun k j h => by rw [aS_j h, j1 k j h]) L1 (by rw [aS_k (by decide), k1 34 _ (by decide) (by decide) (by decide)]; exact f0.2.2.1) (Or.inl ⟨by rw [aS_s]; exact hv, s1 2 (by decide) (by decide)⟩)
  by_cases hb : hasB m1 s ep = true
  · rw [if_pos hb]
    obtain ⟨q1, q2⟩ := r.nw (ms' := dlvM m1 (np + 1) (nI s)) hlt (fun k h0 _ h => by rw [dlvM_1]; exact s1 k h0 h) (by rw [dlvM_1]; exact s28) (fun k j h => by rw [dlvM_k (by omega) (by omega) (by omega), k1 k j (by omega) (by omega) (by omega)]) (fun k j h => by rw [dlv_j h, j1 k j h]) (by rw [dlv_L]; exact L1) (by rw [dlvM_k (by decide) (by decide) (by decide), k1 34 _ (by decide) (by decide) (by decide)]; exact f0.2.2.1) (Or.inl ⟨by rw [dlv_31]; decide, by rw [dlvM_1]; exact s1 2 (by decide) (by decide)⟩)
    exact ⟨n, q1, by omega⟩
  · rw [if_neg hb]
    cases hf : ntF m1 s ep with
    | none =>
      show ∃ n', RI (askM m1 n (np + 1) 0) n' (np + 1) M t ∧ Phi (askM m1 n (np + 1) 0) n' (np + 1) ≤ _
      unfold askM
      generalize hm2 : aS (aS (k_pI m1 2 (drw (m1.1 2))) 31 (np + 1) 0) 32 (np + 1) (drw (m1.1 2)) = m2
      have k2 : ∀ q j, q ≠ 31 → q ≠ 32 → m2.2.1 q j = m1.2.1 q j := fun q j a b => by rw [← hm2, aS_k b, aS_k a]; rfl
      have j2 : ∀ q j, j ≠ np + 1 → m2.2.1 q j = m1.2.1 q j := fun q j a => by rw [← hm2, aS_j a, aS_j a]; rfl
      have s2 : ∀ q, q ≠ 2 → m2.1 q = m1.1 q := fun q h => by rw [← hm2]; show (k_pI m1 2 _).1 q = _; rw [pI_n1 h]
      have d2 : m2.1 2 = drw (m1.1 2) := by rw [← hm2]; show (k_pI m1 2 (drw (m1.1 2))).1 2 = _; rw [pI_s1]
      have e31 : m2.2.1 31 (np + 1) = 0 := by rw [← hm2, aS_k (by decide), aS_s]
      have e32 : m2.2.1 32 (np + 1) = drw (m1.1 2) := by rw [← hm2, aS_s]
      have L2 : m2.2.2 = m1.2.2 := by rw [← hm2]; rfl
      have e2 : m1.1 2 = ms.1 2 := s1 2 (by decide) (by decide)
      obtain ⟨q1, q2⟩ := r.nw (ms' := m2) hlt (fun k h0 h2 h => by rw [s2 k h2]; exact s1 k h0 h) (by rw [s2 28 (by decide)]; exact s28) (fun k j h => by rw [k2 k j (by omega) (by omega), k1 k j (by omega) (by omega) (by omega)]) (fun k j h => by rw [j2 k j h, j1 k j h]) (by rw [L2]; exact L1) (by rw [k2 34 _ (by decide) (by decide), k1 34 _ (by decide) (by decide) (by decide)]; exact f0.2.2.1) (Or.inr ⟨e31, by rw [d2, e2], by rw [e32, e2]⟩)
      refine ⟨postN n, q1.post ⟨Or.inr (Or.inl rfl), fun h => absurd (show (1 : Int32) = 3 from h) (by decide)⟩, ?_⟩
      have := Phi_post (ms := m2) (np := np + 1) (f := mG (m1.2.1 29 (np + 1)) (drw (m1.1 2)) (m1.2.1 30 (np + 1)) 0 0 0 1 0) gg.1
      have e3 : phi (mG (m1.2.1 29 (np + 1)) (drw (m1.1 2)) (m1.2.1 30 (np + 1)) 0 0 0 1 0 6) = 3 := rfl
      omega
    | some k =>
      show ∃ n', RI (folM m1 n (np + 1) (m1.2.1 21 k)) n' (np + 1) M t ∧ Phi (folM m1 n (np + 1) (m1.2.1 21 k)) n' (np + 1) ≤ _
      unfold ntF at hf
      obtain ⟨g1, g2, g3, -⟩ := ff_some.mp hf
      have hlv : liveN ms k = true := by
        have := ((Bool.and_eq_true _ _).mp g3).1
        unfold liveN at this ⊢
        rw [s1 1 (by decide) (by decide), k1 23 k (by decide) (by decide) (by decide)] at this
        exact this
      have h21 := (d.2.2.2.2.1 k (by omega) hlv).2.2
      rw [k1 21 k (by decide) (by decide) (by decide)]
      unfold folM
      by_cases hp : ms.2.1 21 k = -1
      · rw [if_pos hp]
        obtain ⟨q1, q2⟩ := one 3 (by decide)
        exact ⟨n, q1, by omega⟩
      · rw [if_neg hp]
        obtain ⟨q1, q2⟩ := one 1 (by decide)
        obtain ⟨q, q3, q4⟩ := h21.resolve_left hp
        refine ⟨postN n, q1.post ⟨Or.inr (Or.inr (Or.inr (Or.inl rfl))), fun _ => ⟨q, q3, q4⟩⟩, ?_⟩
        have := Phi_post (ms := aS m1 31 (np + 1) 1) (np := np + 1) (f := mG (m1.2.1 29 (np + 1)) (nI (np + 1)) (m1.2.1 30 (np + 1)) 0 0 0 3 (ms.2.1 21 k)) gg.1
        have e3 : phi (mG (m1.2.1 29 (np + 1)) (nI (np + 1)) (m1.2.1 30 (np + 1)) 0 0 0 3 (ms.2.1 21 k) 6) = 0 := rfl
        omega
theorem m0_p : ∀ i, i < 201 → ms0.2.1 31 i = 0 ∧ ms0.2.1 32 i = 0 ∧ ms0.2.1 34 i = 0 ∧ ms0.2.1 35 i = 0 := by decide +kernel
theorem m0_18 : ∀ i, i < 8 → ms0.2.1 18 i = 0 := by decide +kernel
theorem m0_lE {k : Nat} (hk : k < 128) : liveE ms0 k = false := by
  unfold liveE
  rw [m0_12 k hk, m0_1 1 (by decide)]
  exact decide_eq_false (by decide)
theorem m0_lN {k : Nat} (hk : k < 48) : liveN ms0 k = false := by
  unfold liveN
  rw [m0_23 k hk, m0_1 1 (by decide)]
  exact decide_eq_false (by decide)
theorem RI_0 : RI ms0 0 0 0 0 := by
  refine ⟨⟨by decide, m0_1 1 (by decide)⟩, Tr_0, ⟨fun k hk => by rw [m0_8 k hk]; exact Ln_0, fun i hi k k' h1 h2 h3 h4 l1 => ?_, fun i hi _ => ⟨fun k h1 h2 => m0_lE (by omega), fun s hs => m0_L _ (by omega)⟩⟩, ⟨fun s hs => ⟨0, m0_15 s hs, by decide⟩, fun k hk => by rw [m0_17 k hk]; exact Ln_0, fun s hs => Or.inl (m0_14 s hs), fun s hs _ => ⟨m0_15 s hs, m0_18 s hs⟩⟩, fun p hp => Or.inl (m0_26 p hp), ⟨fun k hk => by rw [m0_20 k hk]; exact Ln_0, m0_1 25 (by decide), fun s hs k k' h1 h2 h3 h4 l1 => ?_, fun s hs k k' h1 h2 h3 h4 l1 => ?_, fun k hk l1 => ?_, fun s hs _ k h1 h2 => m0_lN (by omega)⟩, ⟨by decide, m0_1 28 (by decide), fun i _ h => m0_p i (by omega), fun i h1 h2 => absurd h2 (by omega), ⟨0, fun _ => 0, m0_1 2 (by decide), Nat.le_refl _, fun i h1 h2 => absurd h2 (by omega), fun i j h1 h2 => absurd h2 (by omega)⟩, Nat.le_refl _⟩, ⟨by decide, m0_1 36 (by decide), fun q hq => absurd hq (Nat.not_lt_zero q)⟩⟩
  · rw [m0_lE (by omega)] at l1; cases l1
  · rw [m0_lN (by omega)] at l1; cases l1
  · rw [m0_lN (by omega)] at l1; cases l1
  · rw [m0_lN hk] at l1; cases l1
theorem Phi_0 : Phi ms0 0 0 = 0 := rfl
end SNK
