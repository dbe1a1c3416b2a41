/-! WHAT IS KNOWN OF THE REFERENCE: kept by each call -/
section CLK
variable {ms ms' : MS} {n np M t : Nat}
theorem RI.cd (r : RI ms n np M t) (c : Int32) : RI (k_pI ms 0 c) n np M t := r.num rfl (fun k hk => pI_n1 (by omega))
theorem Phi_cd {c : Int32} : Phi (k_pI ms 0 c) n np = Phi ms n np := rfl
theorem RI.pass (r : RI ms n np M t) {a : Int32} (hb : passB ms a = true) : ∃ t', RI (k_pI (okM ms) 1 (ms.1 1 + a)) n np M t' := by
  obtain ⟨ti, Tt, b, c, e', d, f, gg⟩ := r
  obtain ⟨hb1, hb2⟩ := (Bool.and_eq_true _ _).mp hb
  have hb3 := of_decide_eq_true hb1
  have hb4 := of_decide_eq_true hb2
  obtain ⟨dd, hd, rfl⟩ := nI_of2 (M := 1000) (n := 1000) (by decide) (fun z => absurd (Int32.lt_of_le_of_lt hb3.1 z) (by decide)) hb3.2
  rw [ti.2, nI_add] at hb4 ⊢
  have hle : t + dd ≤ 1000000 := Nat.le_of_not_lt (fun z => absurd hb4 (nI_ge (a := 1000000) (b := t + dd) z (by omega)))
  have h1 : (k_pI (okM ms) 1 (nI (t + dd))).1 1 = nI (t + dd) := pI_s1
  have es : ∀ q, q ≠ 0 → q ≠ 1 → (k_pI (okM ms) 1 (nI (t + dd))).1 q = ms.1 q := fun q h0 h => by rw [pI_n1 h, okM_1 h0]
  have hlt : ∀ v : Int32, nI (t + dd) < v → nI t < v := fun v h => Int32.lt_of_le_of_lt (nI_le (Nat.le_add_right t dd) (by omega)) h
  refine ⟨t + dd, ⟨hle, h1⟩, Tr_congr (fun q j _ _ => rfl) Tt, b.sub (fun _ _ => rfl) (fun _ _ => rfl) (fun k _ h => ?_) (fun _ _ h => h) rfl, c.to (fun _ _ _ _ => rfl), e'.to (fun _ => rfl) (fun _ _ h => h), d.sub (Nat.le_add_right t dd) (es 25 (by decide) (by decide)) (fun _ _ _ => rfl) (fun k _ h => ⟨?_, rfl⟩) (fun _ _ h => h), f.to (es 28 (by decide) (by decide)) (es 2 (by decide) (by decide)) (fun _ _ _ => rfl), gg.to (es 36 (by decide) (by decide)) (fun _ => rfl)⟩
  · unfold liveE at h ⊢
    rw [h1] at h
    rw [ti.2]
    exact decide_eq_true (hlt _ (of_decide_eq_true h))
  · unfold liveN at h ⊢
    rw [h1] at h
    rw [ti.2]
    exact decide_eq_true (hlt _ (of_decide_eq_true h))
/-- sites have changed -/
theorem RI.st (r : RI ms n np M t) (e1 : ∀ k, k ≠ 0 → ms'.1 k = ms.1 k) (eL : ms'.2.2 = ms.2.2) (e : ∀ k j, (k < 14 ∨ 18 < k) → k ≠ 26 → k ≠ 27 → ms'.2.1 k j = ms.2.1 k j) (c : GC ms') (e' : GE ms') (e14 : ∀ s, s < 8 → ms'.2.1 14 s = -1 → ms.2.1 14 s = -1) : RI ms' n np M t := by
  obtain ⟨ti, Tt, b, -, -, d, f, gg⟩ := r
  exact ⟨⟨ti.1, by rw [e1 1 (by decide)]; exact ti.2⟩, Tr_congr (fun q j h1 h2 => e q j (by omega) (by omega) (by omega)) Tt, b.to (e1 1 (by decide)) (fun q j h1 h2 => e q j (by omega) (by omega) (by omega)) eL, c, e', d.to (e1 1 (by decide)) (e1 25 (by decide)) (fun q j h1 h2 => e q j (by omega) (by omega) (by omega)) e14, f.to (e1 28 (by decide)) (e1 2 (by decide)) (fun k j h => e k j (by omega) (by omega) (by omega)), gg.to (e1 36 (by decide)) (fun j => e 37 j (by omega) (by decide) (by decide))⟩
theorem Phi_congr (h1 : ∀ j, ms'.2.1 37 j = ms.2.1 37 j) (h2 : ∀ j, ms'.2.1 34 j = ms.2.1 34 j) : Phi ms' n np = Phi ms n np := by
  unfold Phi
  rw [phM_congr h1, phP_congr h2]
theorem RI.site (r : RI ms n np M t) {i pl : Nat} (hi : i < 8) (h : ms.2.1 14 i = -1) (hpl : pl < 16) : RI (aS (okM ms) 14 i (nI pl)) n np M t := by
  have e0 : ∀ k j, k ≠ 14 → (aS (okM ms) 14 i (nI pl)).2.1 k j = ms.2.1 k j := fun k j h => aS_k h
  have e1 : ∀ s, s ≠ i → (aS (okM ms) 14 i (nI pl)).2.1 14 s = ms.2.1 14 s := fun s h => aS_j h
  have e2 : (aS (okM ms) 14 i (nI pl)).2.1 14 i = nI pl := aS_s
  have e14 : ∀ s, s < 8 → (aS (okM ms) 14 i (nI pl)).2.1 14 s = -1 → ms.2.1 14 s = -1 := fun s _ hh => by
    by_cases es : s = i
    · rw [es, e2] at hh; exact absurd hh (nI_ne_m1 (by omega))
    · rw [e1 s es] at hh; exact hh
  obtain ⟨c1, c2, c3, c4⟩ := r.2.2.2.1
  refine r.st (fun k hk => okM_1 hk) rfl (fun k j h _ _ => e0 k j (by omega)) ⟨fun s hs => by rw [e0 15 s (by decide)]; exact c1 s hs, fun k hk => by rw [e0 17 k (by decide)]; exact c2 k hk, fun s hs => ?_, fun s hs hh => by rw [e0 15 s (by decide), e0 18 s (by decide)]; exact c4 s hs (e14 s hs hh)⟩ (r.2.2.2.2.1.to (fun j => e0 26 j (by decide)) (fun w hw hh z => hh (e14 w hw z))) e14
  by_cases es : s = i
  · rw [es, e2]; exact Or.inr ⟨pl, hpl, rfl⟩
  · rw [e1 s es]; exact c3 s hs
theorem RI.del (r : RI ms n np M t) {p c b l : Int32} (hb : delB ms p c b l = true) : RI (dlgM (okM ms) c.toNatClampNeg b l p) n np M t := by
  obtain ⟨ti, Tt, bb, cc, e', d, f, gg⟩ := r
  unfold delB at hb
  obtain ⟨hb1, hb'⟩ := (Bool.and_eq_true _ _).mp hb
  obtain ⟨hb2, hb''⟩ := (Bool.and_eq_true _ _).mp hb'
  obtain ⟨hb3, hb4⟩ := (Bool.and_eq_true _ _).mp hb''
  obtain ⟨hb5, hb6⟩ := (Bool.and_eq_true _ _).mp hb4
  obtain ⟨hb7, hb8⟩ := (Bool.and_eq_true _ _).mp hb6
  obtain ⟨i, hi, rfl, hpr⟩ := srvB_nI hb1
  obtain ⟨k, hk, rfl⟩ := i8 (of_decide_eq_true hb2)
  obtain ⟨m, hm, rfl, hv⟩ := vpB_nI hb5
  have g3 := of_decide_eq_true hb3
  have g7 := of_decide_eq_true hb7
  have g8 := of_decide_eq_true hb8
  rw [nI_clamp (by omega)] at g3 g7 g8 ⊢
  rw [ln_nI hm] at g7
  have ek : ∀ q j, q < 3 ∨ 6 < q → (dlgM (okM ms) k b (nI m) (nI i)).2.1 q j = ms.2.1 q j := fun q j h => by
    unfold dlgM
    rw [aS_k (by omega), aS_k (by omega), aS_k (by omega), aS_k (by omega)]; rfl
  have e3 : ∀ j, (dlgM (okM ms) k b (nI m) (nI i)).2.1 3 j = if j = k then 1 else ms.2.1 3 j := fun j => by
    unfold dlgM
    rw [aS_k (by decide), aS_k (by decide), aS_k (by decide)]
    by_cases h : j = k
    · rw [if_pos h, h, aS_s]
    · rw [if_neg h, aS_j h]; rfl
  have e4 : ∀ j, (dlgM (okM ms) k b (nI m) (nI i)).2.1 4 j = if j = k then b else ms.2.1 4 j := fun j => by
    unfold dlgM
    rw [aS_k (by decide), aS_k (by decide)]
    by_cases h : j = k
    · rw [if_pos h, h, aS_s]
    · rw [if_neg h, aS_j h, aS_k (by decide)]; rfl
  have e5 : ∀ j, (dlgM (okM ms) k b (nI m) (nI i)).2.1 5 j = if j = k then nI m else ms.2.1 5 j := fun j => by
    unfold dlgM
    rw [aS_k (by decide)]
    by_cases h : j = k
    · rw [if_pos h, h, aS_s]
    · rw [if_neg h, aS_j h, aS_k (by decide), aS_k (by decide)]; rfl
  have e6 : ∀ j, (dlgM (okM ms) k b (nI m) (nI i)).2.1 6 j = if j = k then nI i else ms.2.1 6 j := fun j => by
    unfold dlgM
    by_cases h : j = k
    · rw [if_pos h, h, aS_s]
    · rw [if_neg h, aS_j h, aS_k (by decide), aS_k (by decide), aS_k (by decide)]; rfl
  have es : ∀ q, q ≠ 0 → (dlgM (okM ms) k b (nI m) (nI i)).1 q = ms.1 q := fun q h => okM_1 h
  have hne : pL ms i ≠ m := fun z => g8 (by rw [(Ln_nI (Tt.2.1 i hi)).1]; exact congrArg nI z)
  refine ⟨⟨ti.1, by rw [es 1 (by decide)]; exact ti.2⟩, Tr_del Tt hi hk g3 hm hv ((ownE_iff Tt hm).mp g7) hne e3 e4 e5 e6, bb.sub (fun j _ => ek 8 j (by omega)) (fun j _ => ek 7 j (by omega)) (fun j _ h => ?_) (fun j _ h => ?_) rfl, cc.to (fun q j h1 h2 => ek q j (by omega)), e'.to (fun j => ek 26 j (by omega)) (fun w _ h => by rw [ek 14 w (by omega)]; exact h), d.to (es 1 (by decide)) (es 25 (by decide)) (fun q j h1 h2 => ek q j (by omega)) (fun s _ h => by rw [ek 14 s (by omega)] at h; exact h), f.to (es 28 (by decide)) (es 2 (by decide)) (fun q j h => ek q j (by omega)), gg.to (es 36 (by decide)) (fun j => ek 37 j (by omega))⟩
  · unfold liveE at h ⊢
    rw [es 1 (by decide), ek 12 j (by omega)] at h
    exact h
  · rw [e3] at h
    by_cases ej : j = k
    · rw [if_pos ej] at h; exact absurd h (by decide)
    · rw [if_neg ej] at h; exact h
theorem RI.prf (r : RI ms n np M t) {s c : Nat} {b l : Int32} (hs : s < 8) (hp : ¬ ms.2.1 14 s = -1) (hc : c < 4) (hl : Ln l) : RI (prfM ms s c b l) n np M t := by
  have e0 : ∀ k j, k ≠ 15 → k ≠ 16 → k ≠ 17 → (prfM ms s c b l).2.1 k j = ms.2.1 k j := fun k j h1 h2 h3 => by
    unfold prfM
    rw [aS_k h1, aS_k h3, aS_k h2]; rfl
  obtain ⟨c1, c2, c3, c4⟩ := r.2.2.2.1
  refine r.st (fun k hk => okM_1 hk) rfl (fun k j h _ _ => e0 k j (by omega) (by omega) (by omega)) ⟨fun s' hs' => ?_, fun k hk => ?_, fun s' hs' => by rw [e0 14 s' (by decide) (by decide) (by decide)]; exact c3 s' hs', fun s' hs' hh => ?_⟩ (r.2.2.2.2.1.to (fun j => e0 26 j (by decide) (by decide) (by decide)) (fun w hw hh z => hh (by rw [e0 14 w (by decide) (by decide) (by decide)] at z; exact z))) (fun s' _ h => by rw [e0 14 s' (by decide) (by decide) (by decide)] at h; exact h)
  · unfold prfM
    by_cases e : s' = s
    · rw [e, aS_s]; exact ⟨c + 1, rfl, by omega⟩
    · rw [aS_j e, aS_k (by decide), aS_k (by decide)]; exact c1 s' hs'
  · unfold prfM
    rw [aS_k (by decide)]
    by_cases e : k = 4 * s + c
    · rw [e, aS_s]; exact hl
    · rw [aS_j e, aS_k (by decide)]; exact c2 k hk
  · rw [e0 14 s' (by decide) (by decide) (by decide)] at hh
    have hne : s' ≠ s := fun z => hp (by rw [← z]; exact hh)
    obtain ⟨q1, q2⟩ := c4 s' hs' hh
    rw [e0 18 s' (by decide) (by decide) (by decide)]
    refine ⟨?_, q2⟩
    unfold prfM
    rw [aS_j hne, aS_k (by decide), aS_k (by decide)]; exact q1
theorem RI.mov (r : RI ms n np M t) {i p0 pl : Nat} (hi : i < 8) (hp : ¬ ms.2.1 14 i = -1) (hpl : pl < 16) : RI (aS (wntM (okM ms) p0 (nI i)) 14 i (nI pl)) n np M t := by
  have e0 : ∀ k j, k ≠ 14 → k ≠ 26 → k ≠ 27 → (aS (wntM (okM ms) p0 (nI i)) 14 i (nI pl)).2.1 k j = ms.2.1 k j := fun k j h h2 h3 => by
    rw [aS_k h]; unfold wntM; rw [aS_k h3, aS_k h2]; rfl
  have e1 : ∀ s, s ≠ i → (aS (wntM (okM ms) p0 (nI i)) 14 i (nI pl)).2.1 14 s = ms.2.1 14 s := fun s h => by rw [aS_j h]; unfold wntM; rw [aS_k (by decide), aS_k (by decide)]; rfl
  have e2 : (aS (wntM (okM ms) p0 (nI i)) 14 i (nI pl)).2.1 14 i = nI pl := aS_s
  have e26 : ∀ j, (aS (wntM (okM ms) p0 (nI i)) 14 i (nI pl)).2.1 26 j = if j = p0 then nI i else ms.2.1 26 j := fun j => by
    rw [aS_k (by decide)]; unfold wntM; rw [aS_k (by decide)]
    by_cases h : j = p0
    · rw [if_pos h, h, aS_s]
    · rw [if_neg h, aS_j h]; rfl
  have e14 : ∀ s, s < 8 → (aS (wntM (okM ms) p0 (nI i)) 14 i (nI pl)).2.1 14 s = -1 → ms.2.1 14 s = -1 := fun s _ hh => by
    by_cases es : s = i
    · rw [es, e2] at hh; exact absurd hh (nI_ne_m1 (by omega))
    · rw [e1 s es] at hh; exact hh
  obtain ⟨c1, c2, c3, c4⟩ := r.2.2.2.1
  have eg := r.2.2.2.2.1
  refine r.st (fun k hk => okM_1 hk) rfl (fun k j h h2 h3 => e0 k j (by omega) h2 h3) ⟨fun s hs => by rw [e0 15 s (by decide) (by decide) (by decide)]; exact c1 s hs, fun k hk => by rw [e0 17 k (by decide) (by decide) (by decide)]; exact c2 k hk, fun s hs => ?_, fun s hs hh => by rw [e0 15 s (by decide) (by decide) (by decide), e0 18 s (by decide) (by decide) (by decide)]; exact c4 s hs (e14 s hs hh)⟩ (fun p hp' => ?_) e14
  · by_cases es : s = i
    · rw [es, e2]; exact Or.inr ⟨pl, hpl, rfl⟩
    · rw [e1 s es]; exact c3 s hs
  · rw [e26]
    by_cases ep : p = p0
    · rw [if_pos ep]
      exact Or.inr ⟨i, hi, rfl, by rw [e2]; exact nI_ne_m1 (by omega)⟩
    · rw [if_neg ep]
      rcases eg p hp' with h | ⟨w, w1, w2, w3⟩
      · exact Or.inl h
      · exact Or.inr ⟨w, w1, w2, fun z => w3 (e14 w w1 z)⟩
theorem RI.rgs {s np M t : Nat} (hs : s < 8) : ∀ (c i : Nat) (q : MS × Nat) (n : Nat), RI q.1 n np M t → ¬ q.1.2.1 14 s = -1 → ∃ n', RI (fo (stR s) i c q).1 n' np M t ∧ Phi (fo (stR s) i c q).1 n' np ≤ Phi q.1 n np + 2 * c
  | 0, i, q, n, r, _ => ⟨n, r, by show Phi q.1 n np ≤ _; omega⟩
  | c + 1, i, q, n, r, hp => by
    show ∃ n', RI (fo (stR s) (i + 1) c (stR s i q)).1 n' np M t ∧ Phi (fo (stR s) (i + 1) c (stR s i q)).1 n' np ≤ _
    unfold stR
    cases ho : ownE q.1 (q.1.2.1 16 i) (ln (q.1.2.1 17 i)) with
    | none =>
      obtain ⟨n', h1, h2⟩ := RI.rgs hs c (i + 1) q n r hp
      exact ⟨n', h1, by unfold stR at h2; show Phi (fo (stR s) (i + 1) c q).1 n' np ≤ _; unfold stR; omega⟩
    | some w =>
      have gg := r.2.2.2.2.2.2.2
      have hn : (q.1.1 36).toNatClampNeg = n := by rw [gg.2.1, nI_clamp (by have := gg.1; omega)]
      obtain ⟨c1, c2, c3, c4⟩ := r.2.2.2.1
      have e0 : ∀ k j, k ≠ 18 → (aS q.1 18 s (q.1.2.1 18 s + 1)).2.1 k j = q.1.2.1 k j := fun k j h => aS_k h
      have r1 : RI (aS q.1 18 s (q.1.2.1 18 s + 1)) n np M t := by
        refine r.st (fun _ _ => rfl) rfl (fun k j h _ _ => e0 k j (by omega)) ⟨fun s' hs' => by rw [e0 15 s' (by decide)]; exact c1 s' hs', fun k hk => by rw [e0 17 k (by decide)]; exact c2 k hk, fun s' hs' => by rw [e0 14 s' (by decide)]; exact c3 s' hs', fun s' hs' hh => ?_⟩ (r.2.2.2.2.1.to (fun j => e0 26 j (by decide)) (fun w _ hh => by rw [e0 14 w (by decide)]; exact hh)) (fun s' _ h => by rw [e0 14 s' (by decide)] at h; exact h)
        rw [e0 14 s' (by decide)] at hh
        have hne : s' ≠ s := fun z => hp (by rw [← z]; exact hh)
        rw [e0 15 s' (by decide), aS_j hne]
        exact c4 s' hs' hh
      have pe : Phi (aS q.1 18 s (q.1.2.1 18 s + 1)) n np = Phi q.1 n np := Phi_congr (fun j => e0 37 j (by decide)) (fun j => e0 34 j (by decide))
      have hp1 : ¬ (aS q.1 18 s (q.1.2.1 18 s + 1)).2.1 14 s = -1 := by rw [e0 14 s (by decide)]; exact hp
      generalize aS q.1 18 s (q.1.2.1 18 s + 1) = m1 at r1 pe hp1
      have step : ∀ f : Nat → Int32, f 6 = 0 → ∀ v, ∃ n', RI (fo (stR s) (i + 1) c (postM m1 n f, v)).1 n' np M t ∧ Phi (fo (stR s) (i + 1) c (postM m1 n f, v)).1 n' np ≤ Phi q.1 n np + 2 * (c + 1) := by
        intro f hf v
        have r2 : RI (postM m1 n f) (postN n) np M t := r1.post ⟨Or.inl hf, fun z => absurd (hf.symm.trans z) (by decide)⟩
        have p2 := Phi_post (ms := m1) (np := np) (f := f) gg.1
        have e2 : phi (f 6) = 2 := by rw [hf]; rfl
        obtain ⟨n', h1, h2⟩ := RI.rgs hs c (i + 1) (postM m1 n f, v) (postN n) r2 (by show ¬ (postM m1 n f).2.1 14 s = -1; rw [postM_k (by decide)]; exact hp1)
        exact ⟨n', h1, by have h2' : _ ≤ Phi (postM m1 n f) (postN n) np + 2 * c := h2; omega⟩
      dsimp only
      rw [hn]
      exact step _ rfl _
theorem RI.fge (r : RI ms n np M t) {k b : Nat} {v : Int32} (hb : b < 6) : RI (aS (okM ms) 37 (8 * k + b) v) n np M t ∧ Phi (aS (okM ms) 37 (8 * k + b) v) n np = Phi ms n np := by
  obtain ⟨ti, Tt, bb, c, e', d, f, gg⟩ := r
  have e0 : ∀ q j, q ≠ 37 → (aS (okM ms) 37 (8 * k + b) v).2.1 q j = ms.2.1 q j := fun q j h => aS_k h
  have e1 : ∀ q, q ≠ 0 → (aS (okM ms) 37 (8 * k + b) v).1 q = ms.1 q := fun q h => okM_1 h
  have e37 : ∀ q, (aS (okM ms) 37 (8 * k + b) v).2.1 37 (8 * q + 6) = ms.2.1 37 (8 * q + 6) ∧ (aS (okM ms) 37 (8 * k + b) v).2.1 37 (8 * q + 7) = ms.2.1 37 (8 * q + 7) := fun q => ⟨by rw [aS_j (by omega)]; rfl, by rw [aS_j (by omega)]; rfl⟩
  refine ⟨⟨⟨ti.1, by rw [e1 1 (by decide)]; exact ti.2⟩, Tr_congr (fun q j h1 h2 => e0 q j (by omega)) Tt, bb.to (e1 1 (by decide)) (fun q j h1 h2 => e0 q j (by omega)) rfl, c.to (fun q j h1 h2 => e0 q j (by omega)), e'.to (fun j => e0 26 j (by decide)) (fun w _ h => by rw [e0 14 w (by decide)]; exact h), d.to (e1 1 (by decide)) (e1 25 (by decide)) (fun q j h1 h2 => e0 q j (by omega)) (fun s _ h => by rw [e0 14 s (by decide)] at h; exact h), f.to (e1 28 (by decide)) (e1 2 (by decide)) (fun q j h => e0 q j (by omega)), ⟨gg.1, by rw [e1 36 (by decide)]; exact gg.2.1, fun q hq => by rw [(e37 q).1, (e37 q).2]; exact gg.2.2 q hq⟩⟩, ?_⟩
  unfold Phi
  rw [phP_congr (fun j => e0 34 j (by decide))]
  have : phM (aS (okM ms) 37 (8 * k + b) v) n = phM ms n := sm_congr n 0 (fun j _ _ => by rw [(e37 j).1])
  omega
theorem phi_le (k : Int32) : phi k ≤ 3 := by
  unfold phi
  split
  · omega
  · split
    · omega
    · split <;> omega
theorem RI.rpt (r : RI ms n np M t) {k : Nat} (hk : k < n) : RI (postM (okM ms) n (fun j => ms.2.1 37 (8 * k + (if j < 8 then j else 7)))) (postN n) np M t ∧ Phi (postM (okM ms) n (fun j => ms.2.1 37 (8 * k + (if j < 8 then j else 7)))) (postN n) np ≤ Phi ms n np + 3 := by
  have gg := r.2.2.2.2.2.2.2
  refine ⟨(r.cd 0).post (gg.2.2 k hk), ?_⟩
  have := Phi_post (ms := okM ms) (np := np) (f := fun j => ms.2.1 37 (8 * k + (if j < 8 then j else 7))) gg.1
  have h2 : phi (ms.2.1 37 (8 * k + (if 6 < 8 then 6 else 7))) ≤ 3 := phi_le _
  have h3 : Phi (okM ms) n np = Phi ms n np := rfl
  omega
/-- the row has one less -/
theorem RI.tk (r : RI ms n np M t) {k : Nat} (hk : k < n) : RI (takeM (okM ms) n k) (n - 1) np M t ∧ kOk ((takeM (okM ms) n k).2.1 38 6) ((takeM (okM ms) n k).2.1 38 7) ∧ Phi (takeM (okM ms) n k) (n - 1) np + phi ((takeM (okM ms) n k).2.1 38 6) = Phi ms n np := by
  obtain ⟨h1, h2⟩ := (r.cd 0).take hk
  refine ⟨h1, h2, ?_⟩
  have h3 := ph_take (ms := okM ms) (n := n) hk
  have h4 : phP (takeM (okM ms) n k) np = phP ms np := phP_congr (fun j => by rw [takeM_k (by decide) (by decide)]; rfl)
  have h5 : (takeM (okM ms) n k).2.1 38 6 = (okM ms).2.1 37 (8 * k + 6) := takeM_38 (show 6 < 8 by omega)
  have h6 : phM (okM ms) n = phM ms n := rfl
  rw [h5]
  unfold Phi
  omega
/-- a message is taken from the row, and comes -/
theorem RI.crr (r : RI ms n np M t) {k : Nat} (hk : k < n) : ∃ n' M', RI (arrM (takeM (okM ms) n k) (n - 1) np) n' np M' t ∧ Phi (arrM (takeM (okM ms) n k) (n - 1) np) n' np + cz ((takeM (okM ms) n k).2.1 38 6) ≤ Phi ms n np := by
  obtain ⟨h1, h2, h3⟩ := r.tk hk
  obtain ⟨n', M', h4, h5⟩ := h1.arr h2
  exact ⟨n', M', h4, by omega⟩
end CLK
