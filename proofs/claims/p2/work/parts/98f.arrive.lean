/-! WHAT IS KNOWN OF THE REFERENCE: a message comes -/
section ARV
variable {ms ms' : MS} {n np M t : Nat}
theorem RI.pk (r : RI ms n np M t) (g : GF ms' np M) (e1 : ∀ k, k = 1 ∨ k = 25 ∨ k = 36 → ms'.1 k = ms.1 k) (e : ∀ k j, k < 29 ∨ 35 < k → ms'.2.1 k j = ms.2.1 k j) (eL : ms'.2.2 = ms.2.2) : RI ms' n np M t := by
  obtain ⟨ti, Tt, b, c, e', d, -, gg⟩ := r
  exact ⟨⟨ti.1, by rw [e1 1 (by omega)]; exact ti.2⟩, Tr_congr (fun q j h1 h2 => e q j (by omega)) Tt, b.to (e1 1 (by omega)) (fun q j h1 h2 => e q j (by omega)) eL, c.to (fun q j h1 h2 => e q j (by omega)), e'.to (fun j => e 26 j (by omega)) (fun w _ h => by rw [e 14 w (by omega)]; exact h), d.to (e1 1 (by omega)) (e1 25 (by omega)) (fun q j h1 h2 => e q j (by omega)) (fun s _ h => by rw [e 14 s (by omega)] at h; exact h), g, gg.to (e1 36 (by omega)) (fun j => e 37 j (by omega))⟩
theorem GF.s9 (g : GF ms np M) {p : Nat} (h1 : 1 ≤ p) (h2 : p ≤ np) : ∃ k, k ≤ 9 ∧ ms.2.1 34 p = nI k ∧ stp_ ms p ≤ k := by
  obtain ⟨k, k1, k2, -⟩ := g.2.2.2.1 p h1 h2
  exact ⟨k, k1, k2, by rw [stp_nI k2 k1]; exact Nat.le_refl k⟩
theorem dlv_31 {i : Nat} {s : Int32} : (dlvM ms i s).2.1 31 i = 2 := by unfold dlvM; rw [aS_s]
theorem dlv_j {i : Nat} {s : Int32} {k j : Nat} (h : j ≠ i) : (dlvM ms i s).2.1 k j = ms.2.1 k j := by
  unfold dlvM
  rw [aS_j h, aS_j h]
  split
  · rw [aS_j h]
  · rfl
theorem dlv_L {i : Nat} {s : Int32} : (dlvM ms i s).2.2 = ms.2.2 := by unfold dlvM; split <;> rfl
theorem RI.dlv (r : RI ms n np M t) {p : Nat} {s : Int32} (h1 : 1 ≤ p) (h2 : p ≤ np) : RI (dlvM ms p s) n np M t ∧ Phi (dlvM ms p s) n np = Phi ms n np := by
  have g := r.2.2.2.2.2.2.1
  have e34 : ∀ j, (dlvM ms p s).2.1 34 j = ms.2.1 34 j := fun j => dlvM_k (by decide) (by decide) (by decide)
  refine ⟨r.pk (g.off h1 h2 (by rw [dlvM_1]) (by rw [dlvM_1]) (fun k j _ hj => dlv_j hj) (by rw [dlv_31]; decide) (by rw [e34]; exact g.s9 h1 h2)).1 (fun k _ => by rw [dlvM_1]) (fun k j h => dlvM_k (by omega) (by omega) (by omega)) dlv_L, ?_⟩
  unfold Phi
  rw [phM_congr (fun j => dlvM_k (by decide) (by decide) (by decide)), phP_congr e34]
theorem RI.los (r : RI ms n np M t) {p : Nat} (h1 : 1 ≤ p) (h2 : p ≤ np) : RI (losM ms p) n np M t ∧ Phi (losM ms p) n np = Phi ms n np := by
  have g := r.2.2.2.2.2.2.1
  unfold losM
  by_cases h : ms.2.1 31 p = 1
  · rw [if_pos h]
    have ek : ∀ k j, k ≠ 31 → (aS ms 31 p 4).2.1 k j = ms.2.1 k j := fun k j hk => aS_k hk
    refine ⟨r.pk (g.off (ms' := aS ms 31 p 4) h1 h2 rfl rfl (fun k j _ hj => aS_j hj) (by rw [aS_s]; decide) (by rw [ek _ _ (by decide)]; exact g.s9 h1 h2)).1 (fun k _ => rfl) (fun k j h => ek k j (by omega)) rfl, ?_⟩
    unfold Phi
    rw [phM_congr (fun j => ek _ j (by decide)), phP_congr (fun j => ek _ j (by decide))]
  · rw [if_neg h]
    exact ⟨r, rfl⟩
theorem Phi_post {f : Nat → Int32} (hn : n ≤ 200) : Phi (postM ms n f) (postN n) np ≤ Phi ms n np + phi (f 6) := by
  have h1 := ph_post (ms := ms) (f := f) hn
  have h2 : phP (postM ms n f) np = phP ms np := phP_congr (fun j => postM_k (by decide))
  unfold Phi
  omega
theorem RI.sol (r : RI ms n np M t) : RI (solM ms n) (postN n) np M t ∧ Phi (solM ms n) (postN n) np ≤ Phi ms n np := by
  unfold solM
  have r1 : RI (k_pI ms 41 (ms.1 41 + 1)) n np M t := r.num rfl (fun k hk => pI_n1 (by omega))
  refine ⟨r1.post ⟨Or.inr (Or.inr (Or.inr (Or.inr rfl))), fun h => absurd (show (4 : Int32) = 3 from h) (by decide)⟩, ?_⟩
  have := Phi_post (ms := k_pI ms 41 (ms.1 41 + 1)) (np := np) (f := mG (ms.2.1 38 2) (ms.2.1 38 7) 0 0 0 0 4 (ms.2.1 38 0)) r.2.2.2.2.2.2.2.1
  have e : Phi (k_pI ms 41 (ms.1 41 + 1)) n np = Phi ms n np := rfl
  have e4 : phi (mG (ms.2.1 38 2) (ms.2.1 38 7) 0 0 0 0 4 (ms.2.1 38 0) 6) = 0 := rfl
  omega
theorem RI.fol (r : RI ms n np M t) {p : Nat} {pl : Int32} (h1 : 1 ≤ p) (h2 : p ≤ np) (hpl : pl = -1 ∨ ∃ q, q < 16 ∧ pl = nI q) : ∃ n', RI (folM ms n p pl) n' np M t ∧ Phi (folM ms n p pl) n' np ≤ Phi ms n np := by
  have g := r.2.2.2.2.2.2.1
  have ek : ∀ (v : Int32) k j, k ≠ 31 → (aS ms 31 p v).2.1 k j = ms.2.1 k j := fun v k j hk => aS_k hk
  have one : ∀ v : Int32, ¬ v = 0 → RI (aS ms 31 p v) n np M t ∧ Phi (aS ms 31 p v) n np = Phi ms n np := fun v hv => by
    refine ⟨r.pk (g.off (ms' := aS ms 31 p v) h1 h2 rfl rfl (fun k j _ hj => aS_j hj) (by rw [aS_s]; exact hv) (by rw [ek _ _ _ (by decide)]; exact g.s9 h1 h2)).1 (fun k _ => rfl) (fun k j h => ek _ k j (by omega)) rfl, ?_⟩
    unfold Phi
    rw [phM_congr (fun j => ek _ _ j (by decide)), phP_congr (fun j => ek _ _ j (by decide))]
  unfold folM
  by_cases h : pl = -1
  · rw [if_pos h]
    obtain ⟨q1, q2⟩ := one 3 (by decide)
    exact ⟨n, q1, by omega⟩
  · rw [if_neg h]
    obtain ⟨q1, q2⟩ := one 1 (by decide)
    obtain ⟨q, q3, q4⟩ := hpl.resolve_left h
    refine ⟨postN n, q1.post ⟨Or.inr (Or.inr (Or.inr (Or.inl rfl))), fun _ => ⟨q, q3, q4⟩⟩, ?_⟩
    have := Phi_post (ms := aS ms 31 p 1) (np := np) (f := mG (ms.2.1 29 p) (nI p) (ms.2.1 30 p) 0 0 0 3 pl) r.2.2.2.2.2.2.2.1
    have e3 : phi (mG (ms.2.1 29 p) (nI p) (ms.2.1 30 p) 0 0 0 3 pl 6) = 0 := rfl
    omega
theorem RI.came (r : RI ms n np M t) {pl : Nat} (hpl : pl < 16) : ∃ n', RI (cameM ms n pl) n' np M t ∧ Phi (cameM ms n pl) n' np ≤ Phi ms n np := by
  unfold cameM
  by_cases hc : (siteB ms (ms.2.1 38 0) && decide (1 ≤ ms.2.1 38 1 ∧ ms.2.1 38 1 ≤ ms.1 28)) = true
  · rw [if_pos hc]
    have g := of_decide_eq_true ((Bool.and_eq_true _ _).mp hc).2
    have gF := r.2.2.2.2.2.2.1
    rw [gF.2.1] at g
    obtain ⟨p, hp1, hp2⟩ := nI_of2 (M := nI np) (n := np) (nI_toInt (by have := gF.1; omega)) (fun z => absurd (Int32.lt_of_le_of_lt g.1 z) (by decide)) g.2
    have hpos : 1 ≤ p := Nat.pos_of_ne_zero (fun z => by rw [hp2, z] at g; exact absurd g.1 (by decide))
    have hcl : (ms.2.1 38 1).toNatClampNeg = p := by rw [hp2, nI_clamp (by have := gF.1; omega)]
    rw [hcl]
    cases hh : ff (fun s => decide (ms.2.1 14 s = nI pl)) 0 8 with
    | some h =>
      show ∃ n', RI (if hasB ms h (ms.2.1 38 2) = true then dlvM ms p (nI h) else solM (losM ms p) n) n' np M t ∧ Phi (if hasB ms h (ms.2.1 38 2) = true then dlvM ms p (nI h) else solM (losM ms p) n) n' np ≤ _
      by_cases hb : hasB ms h (ms.2.1 38 2) = true
      · rw [if_pos hb]
        obtain ⟨q1, q2⟩ := r.dlv (s := nI h) hpos hp1
        exact ⟨n, q1, by omega⟩
      · rw [if_neg hb]
        obtain ⟨q1, q2⟩ := r.los hpos hp1
        obtain ⟨q3, q4⟩ := q1.sol
        exact ⟨postN n, q3, by omega⟩
    | none =>
      show ∃ n', RI (if onB ms pl = true then solM (onM ms n (ms.2.1 26 pl).toNatClampNeg) (postN n) else losM ms p) n' np M t ∧ Phi (if onB ms pl = true then solM (onM ms n (ms.2.1 26 pl).toNatClampNeg) (postN n) else losM ms p) n' np ≤ _
      by_cases ho : onB ms pl = true
      · rw [if_pos ho]
        have hm : ¬ ms.2.1 26 pl = -1 := by
          unfold onB at ho
          exact of_decide_eq_true ((Bool.and_eq_true _ _).mp ho).1
        obtain ⟨w, w1, w2, w3⟩ := (r.2.2.2.2.1 pl hpl).resolve_left hm
        have hw : (ms.2.1 26 pl).toNatClampNeg = w := by rw [w2, nI_clamp (by omega)]
        obtain ⟨q, q1, q2⟩ := (r.2.2.2.1.2.2.1 w w1).resolve_left w3
        rw [hw]
        have r1 : RI (onM ms n w) (postN n) np M t := r.post ⟨Or.inr (Or.inr (Or.inr (Or.inl rfl))), fun _ => ⟨q, q1, q2⟩⟩
        have p1 := Phi_post (ms := ms) (np := np) (f := mG (ms.2.1 38 0) (ms.2.1 38 1) (ms.2.1 38 2) (ms.2.1 38 3) (ms.2.1 38 4) (ms.2.1 38 5) 3 (ms.2.1 14 w)) r.2.2.2.2.2.2.2.1
        have e3 : phi (mG (ms.2.1 38 0) (ms.2.1 38 1) (ms.2.1 38 2) (ms.2.1 38 3) (ms.2.1 38 4) (ms.2.1 38 5) 3 (ms.2.1 14 w) 6) = 0 := rfl
        obtain ⟨q3, q4⟩ := r1.sol
        have p1' : Phi (onM ms n w) (postN n) np ≤ _ := p1
        exact ⟨postN (postN n), q3, by omega⟩
      · rw [if_neg ho]
        obtain ⟨q1, q2⟩ := r.los hpos hp1
        exact ⟨n, q1, by omega⟩
  · rw [if_neg hc]
    exact ⟨n, r, Nat.le_refl _⟩
theorem RI.req (r : RI ms n np M t) {sv : Nat} : ∃ n', RI (reqM ms n sv) n' np M t ∧ Phi (reqM ms n sv) n' np ≤ Phi ms n np + 2 := by
  have k2 : ∀ f : Nat → Int32, f 6 = 2 → RI (postM ms n f) (postN n) np M t ∧ Phi (postM ms n f) (postN n) np ≤ Phi ms n np + 2 := fun f hf => by
    refine ⟨r.post ⟨Or.inr (Or.inr (Or.inl hf)), fun h => absurd (hf.symm.trans h) (by decide)⟩, ?_⟩
    have := Phi_post (ms := ms) (np := np) (f := f) r.2.2.2.2.2.2.2.1
    rw [hf] at this
    have e2 : phi 2 = 2 := rfl
    omega
  unfold reqM
  by_cases hc : (siteB ms (ms.2.1 38 0) && ag (ln (ms.2.1 5 sv)) (ms.2.1 4 sv) (ms.2.1 38 2)) = true
  · rw [if_pos hc]
    cases chiF ms sv (ms.2.1 38 2) with
    | some c =>
      obtain ⟨q1, q2⟩ := k2 (mG (ms.2.1 38 1) 0 (ms.2.1 4 c) (ms.2.1 5 c) (nI c) 0 2 (ms.2.1 38 0)) rfl
      exact ⟨postN n, q1, q2⟩
    | none =>
      cases pieL ms sv (ms.2.1 38 2) with
      | none => exact ⟨n, r, by show Phi ms n np ≤ _; omega⟩
      | some L =>
        show ∃ n', RI (repM ms n sv L) n' np M t ∧ Phi (repM ms n sv L) n' np ≤ _
        unfold repM
        cases bestE ms (ms.2.1 38 2) sv with
        | none =>
          obtain ⟨q1, q2⟩ := k2 (mG (ms.2.1 38 1) 2 (ms.2.1 38 2 &&& mk L) (nI L) 0 0 2 (ms.2.1 38 0)) rfl
          exact ⟨postN n, q1, q2⟩
        | some k =>
          obtain ⟨q1, q2⟩ := k2 (mG (ms.2.1 38 1) 1 (ms.2.1 38 2 &&& mk L) (nI L) (ms.2.1 10 k) (ms.2.1 11 k) 2 (ms.2.1 38 0)) rfl
          exact ⟨postN n, q1, q2⟩
  · rw [if_neg hc]
    exact ⟨n, r, by omega⟩
theorem RI.fgt (r : RI ms n np M t) {s : Nat} {ep pl : Int32} : RI (fgtM ms s ep pl) n np M t ∧ Phi (fgtM ms s ep pl) n np = Phi ms n np := by
  obtain ⟨ti, Tt, b, c, e', d, f, gg⟩ := r
  have ek : ∀ k j, k ≠ 23 → (fgtM ms s ep pl).2.1 k j = ms.2.1 k j := fun k j h => fgtM_k h
  have e1 : (fgtM ms s ep pl).1 = ms.1 := fgtM_1
  have eL : (fgtM ms s ep pl).2.2 = ms.2.2 := by
    unfold fgtM
    cases ntF ms s ep with
    | none => rfl
    | some k0 =>
      show (if ms.2.1 21 k0 = pl then aS ms 23 k0 0 else ms).2.2 = _
      split <;> rfl
  have hlv : ∀ k, k < 48 → liveN (fgtM ms s ep pl) k = true → liveN ms k = true ∧ (fgtM ms s ep pl).2.1 23 k = ms.2.1 23 k := by
    intro k _ h
    have : (fgtM ms s ep pl).2.1 23 k = 0 ∨ (fgtM ms s ep pl).2.1 23 k = ms.2.1 23 k := by
      unfold fgtM
      cases ntF ms s ep with
      | none => exact Or.inr rfl
      | some k0 =>
        show (if ms.2.1 21 k0 = pl then aS ms 23 k0 0 else ms).2.1 23 k = 0 ∨ (if ms.2.1 21 k0 = pl then aS ms 23 k0 0 else ms).2.1 23 k = ms.2.1 23 k
        by_cases hpl : ms.2.1 21 k0 = pl
        · rw [if_pos hpl]
          by_cases ek : k = k0
          · rw [ek, aS_s]; exact Or.inl rfl
          · rw [aS_j ek]; exact Or.inr rfl
        · rw [if_neg hpl]; exact Or.inr rfl
    unfold liveN at h ⊢
    rw [e1] at h
    rcases this with h0 | h0
    · rw [h0, ti.2] at h
      exact absurd (of_decide_eq_true h) (nI_pos (by omega))
    · rw [h0] at h
      exact ⟨h, h0⟩
  refine ⟨⟨⟨ti.1, by rw [e1]; exact ti.2⟩, Tr_congr (fun q j h1 h2 => ek q j (by omega)) Tt, b.to (by rw [e1]) (fun q j h1 h2 => ek q j (by omega)) eL, c.to (fun q j h1 h2 => ek q j (by omega)), e'.to (fun j => ek 26 j (by omega)) (fun w _ h => by rw [ek 14 w (by omega)]; exact h), d.sub (Nat.le_refl t) (by rw [e1]) (fun k j h => ek k j (by omega)) hlv (fun s _ h => by rw [ek 14 s (by omega)] at h; exact h), f.to (by rw [e1]) (by rw [e1]) (fun k j h => ek k j (by omega)), gg.to (by rw [e1]) (fun j => ek 37 j (by omega))⟩, ?_⟩
  unfold Phi
  rw [phM_congr (fun j => ek _ j (by decide)), phP_congr (fun j => ek _ j (by decide))]
end ARV
