/-! WHAT IS KNOWN OF THE REFERENCE: REGISTER, REPLY -/
section AR2
variable {ms ms' : MS} {n np M t : Nat}
theorem GB.set (g : GB ms) {sv e s : Nat} {b l pl no : Int32} (hl : ms.1 1 < ms.1 1 + 180) (hsv : sv < 8) (hpr : ¬ ms.2.1 3 sv = 0) (he : 16 * sv ≤ e ∧ e < 16 * sv + 16) (hL : Ln l) (hs : s < 8) (hno : ∀ k, 16 * sv ≤ k → k < 16 * sv + 16 → liveE ms k = true → k ≠ e → ¬ (ms.2.1 7 k = b ∧ ms.2.1 8 k = l)) : GB (setM ms sv e s b l pl no) := by
  obtain ⟨g1, g2, g3⟩ := g
  have e7 : (setM ms sv e s b l pl no).2.1 7 e = b := congrArg (fun q : E6 => q.1) (setM_e (ms := ms) (sv := sv) (e := e) (s := s) (b := b) (l := l) (pl := pl) (no := no))
  have e8 : (setM ms sv e s b l pl no).2.1 8 e = l := congrArg (fun q : E6 => q.2.1) (setM_e (ms := ms) (sv := sv) (e := e) (s := s) (b := b) (l := l) (pl := pl) (no := no))
  refine ⟨fun k hk => ?_, fun i hi k k' h1 h2 h3 h4 l1 l2 q1 q2 => ?_, fun i hi h => ?_⟩
  · by_cases ek : k = e
    · rw [ek, e8]; exact hL
    · rw [setM_k (Or.inl ek)]; exact g1 k hk
  · rw [setM_live hl] at l1 l2
    by_cases ek : k = e
    · by_cases ek' : k' = e
      · rw [ek, ek']
      · exfalso
        have ei : i = sv := by omega
        rw [if_neg ek'] at l2
        rw [ek, e7, setM_k (Or.inl ek')] at q1
        rw [ek, e8, setM_k (Or.inl ek')] at q2
        exact hno k' (by omega) (by omega) l2 ek' ⟨q1.symm, q2.symm⟩
    · rw [if_neg ek] at l1
      by_cases ek' : k' = e
      · exfalso
        have ei : i = sv := by omega
        rw [ek', e7, setM_k (Or.inl ek)] at q1
        rw [ek', e8, setM_k (Or.inl ek)] at q2
        exact hno k (by omega) (by omega) l1 ek ⟨q1, q2⟩
      · rw [if_neg ek'] at l2
        rw [setM_k (Or.inl ek), setM_k (Or.inl ek')] at q1 q2
        exact g2 i hi k k' h1 h2 h3 h4 l1 l2 q1 q2
  · rw [setM_k (Or.inr (by omega))] at h
    have hne : i ≠ sv := fun z => hpr (by rw [← z]; exact h)
    obtain ⟨a1, a2⟩ := g3 i hi h
    refine ⟨fun k h1 h2 => ?_, fun s' hs' => ?_⟩
    · rw [setM_live hl, if_neg (by omega)]; exact a1 k h1 h2
    · rw [setM_L, if_neg (by omega)]; exact a2 s' hs'
theorem RI.reg (r : RI ms n np M t) {sv : Nat} (hsv : sv < 8) (hpr : ¬ ms.2.1 3 sv = 0) : RI (regM ms sv) n np M t ∧ Phi (regM ms sv) n np = Phi ms n np ∧ (regM ms sv).1 0 = ms.1 0 := by
  have rf : RI (refM ms) n np M t ∧ Phi (refM ms) n np = Phi ms n np ∧ (refM ms).1 0 = ms.1 0 := ⟨r.num rfl (fun k hk => pI_n1 (by omega)), rfl, pI_n1 (by decide)⟩
  unfold regM
  by_cases hg : goodR ms sv = true
  · rw [if_pos hg]
    unfold slotR
    cases hsl : slotM ms sv (ms.2.1 38 0) (ms.2.1 38 1) (ms.2.1 38 2) with
    | none => exact rf
    | some e =>
      show RI (setE ms sv e) n np M t ∧ Phi (setE ms sv e) n np = Phi ms n np ∧ (setE ms sv e).1 0 = ms.1 0
      unfold goodR at hg
      obtain ⟨h1, h2⟩ := (Bool.and_eq_true _ _).mp hg
      obtain ⟨-, h3⟩ := (Bool.and_eq_true _ _).mp h2
      obtain ⟨h4, -⟩ := (Bool.and_eq_true _ _).mp h3
      obtain ⟨s, hs, hs0, hps⟩ := siteB_nI h1
      obtain ⟨m, hm, hl, -⟩ := vpB_nI h4
      have hcl : (ms.2.1 38 0).toNatClampNeg = s := by rw [hs0, nI_clamp (by omega)]
      have hse : setE ms sv e = setM ms sv e s (ms.2.1 38 1) (ms.2.1 38 2) (ms.2.1 38 3) (ms.2.1 38 4) := by
        unfold setE setM
        rw [hcl, ← hs0]
      obtain ⟨ti, Tt, b, c, e', d, f, gg⟩ := r
      have h180 : ms.1 1 < ms.1 1 + 180 := by
        rw [ti.2, show nI t + 180 = nI (t + 180) from nI_add t 180]
        exact nI_lt (by omega) (by omega)
      have hrange : (16 * sv ≤ e ∧ e < 16 * sv + 16) ∧ ∀ k, 16 * sv ≤ k → k < 16 * sv + 16 → liveE ms k = true → k ≠ e → ¬ (ms.2.1 7 k = ms.2.1 38 1 ∧ ms.2.1 8 k = ms.2.1 38 2) := by
        unfold slotM at hsl
        cases hf : entF ms sv (ms.2.1 38 1) (ms.2.1 38 2) with
        | some e0 =>
          rw [hf] at hsl
          have hsl' : (if ms.2.1 9 e0 = ms.2.1 38 0 then some e0 else none) = some e := hsl
          have ee : e0 = e := by
            by_cases hc : ms.2.1 9 e0 = ms.2.1 38 0
            · rw [if_pos hc] at hsl'; exact Option.some.inj hsl'
            · rw [if_neg hc] at hsl'; cases hsl'
          obtain ⟨q1, q2, q3, -⟩ := ff_some.mp hf
          obtain ⟨q4, q5⟩ := (Bool.and_eq_true _ _).mp q3
          obtain ⟨q6, q7⟩ := (Bool.and_eq_true _ _).mp q5
          rw [ee] at q1 q2 q4 q6 q7
          exact ⟨⟨q1, q2⟩, fun k g1 g2 g3 g4 g5 => g4 (b.2.1 sv hsv k e g1 g2 q1 q2 g3 q4 (g5.1.trans (of_decide_eq_true q6).symm) (g5.2.trans (of_decide_eq_true q7).symm))⟩
        | none =>
          rw [hf] at hsl
          have hsl' : freF ms sv = some e := hsl
          obtain ⟨q1, q2, -, -⟩ := ff_some.mp hsl'
          refine ⟨⟨q1, q2⟩, fun k g1 g2 g3 _ g5 => ?_⟩
          have := ff_none.mp hf k g1 g2
          rw [g3, decide_eq_true g5.1, decide_eq_true g5.2] at this
          cases this
      rw [hse]
      have ek : ∀ k j, k < 7 ∨ 12 < k → (setM ms sv e s (ms.2.1 38 1) (ms.2.1 38 2) (ms.2.1 38 3) (ms.2.1 38 4)).2.1 k j = ms.2.1 k j := fun k j h => setM_k (Or.inr h)
      refine ⟨⟨ti, Tr_congr (fun q j h1 h2 => ek q j (by omega)) Tt, b.set h180 hsv hpr hrange.1 ⟨m, hm, hl⟩ hs hrange.2, c.to (fun q j h1 h2 => ek q j (by omega)), e'.to (fun j => ek 26 j (by omega)) (fun w _ h => by rw [ek 14 w (by omega)]; exact h), d.to rfl rfl (fun q j h1 h2 => ek q j (by omega)) (fun s _ h => by rw [ek 14 s (by omega)] at h; exact h), f.to rfl rfl (fun k j h => ek k j (by omega)), gg.to rfl (fun j => ek 37 j (by omega))⟩, ?_, rfl⟩
      unfold Phi
      rw [phM_congr (fun j => ek _ j (by omega)), phP_congr (fun j => ek _ j (by omega))]
  · rw [if_neg hg]
    exact rf
theorem phP_upd {p : Nat} (h1 : 1 ≤ p) (h2 : p ≤ np) (e : ∀ j, j ≠ p → ms'.2.1 34 j = ms.2.1 34 j) : phP ms' np + 3 * (9 - stp_ ms p) = phP ms np + 3 * (9 - stp_ ms' p) := sm_upd (f := fun i => 3 * (9 - stp_ ms i)) (f' := fun i => 3 * (9 - stp_ ms' i)) (p := p) np 1 h1 (by omega) (fun j _ _ h => by show 3 * (9 - stp_ ms' j) = 3 * (9 - stp_ ms j); unfold stp_; rw [e j h])
theorem RI.rfr (r : RI ms n np M t) {p : Nat} (h1 : 1 ≤ p) (h2 : p ≤ np) (h31 : ms.2.1 31 p = 0) : ∃ n', RI (rfrM ms n p) n' np M t ∧ Phi (rfrM ms n p) n' np ≤ Phi ms n np ∧ (rfrM ms n p).1 0 = ms.1 0 := by
  have g := r.2.2.2.2.2.2.1
  obtain ⟨k, k1, k2, k3⟩ := g.2.2.2.1 p h1 h2
  have k8 := k3 h31
  have hst : stp_ ms p = k := stp_nI k2 k1
  unfold rfrM
  rw [k2, nI_c1]
  by_cases h9 : k = 8
  · rw [if_pos (show nI (k + 1) = 9 by rw [h9]; decide)]
    have ek : ∀ q j, q ≠ 31 → q ≠ 34 → (aS (aS ms 34 p (nI (k + 1))) 31 p 3).2.1 q j = ms.2.1 q j := fun q j a b => by rw [aS_k a, aS_k b]
    have ej : ∀ q j, j ≠ p → (aS (aS ms 34 p (nI (k + 1))) 31 p 3).2.1 q j = ms.2.1 q j := fun q j a => by rw [aS_j a, aS_j a]
    have e34 : (aS (aS ms 34 p (nI (k + 1))) 31 p 3).2.1 34 p = nI 9 := by rw [aS_k (by decide), aS_s, h9]
    refine ⟨n, r.pk (g.off (ms' := aS (aS ms 34 p (nI (k + 1))) 31 p 3) h1 h2 rfl rfl (fun q j _ hj => ej q j hj) (by rw [aS_s]; decide) ⟨9, by omega, e34, by omega⟩).1 (fun q _ => rfl) (fun q j h => ek q j (by omega) (by omega)) rfl, ?_, rfl⟩
    have hp := phP_upd (ms' := aS (aS ms 34 p (nI (k + 1))) 31 p 3) h1 h2 (fun j hj => ej 34 j hj)
    have hs' : stp_ (aS (aS ms 34 p (nI (k + 1))) 31 p 3) p = 9 := stp_nI e34 (by omega)
    unfold Phi
    rw [phM_congr (fun j => ek _ j (by decide) (by decide))]
    omega
  · have hne : ¬ nI (k + 1) = 9 := fun z => h9 (by have := (nI_eq (a := k + 1) (b := 9) (by omega) (by omega)).mp z; omega)
    rw [if_neg hne]
    unfold askM
    generalize hm2 : aS (aS (k_pI (aS ms 34 p (nI (k + 1))) 2 (drw ((aS ms 34 p (nI (k + 1))).1 2))) 31 p 0) 32 p (drw ((aS ms 34 p (nI (k + 1))).1 2)) = m2
    have ek : ∀ q j, q ≠ 31 → q ≠ 32 → q ≠ 34 → m2.2.1 q j = ms.2.1 q j := fun q j a b c => by rw [← hm2, aS_k b, aS_k a]; show (aS ms 34 p (nI (k + 1))).2.1 q j = _; rw [aS_k c]
    have ej : ∀ q j, j ≠ p → m2.2.1 q j = ms.2.1 q j := fun q j a => by rw [← hm2, aS_j a, aS_j a]; show (aS ms 34 p (nI (k + 1))).2.1 q j = _; rw [aS_j a]
    have e1 : ∀ q, q ≠ 2 → m2.1 q = ms.1 q := fun q h => by rw [← hm2]; show (k_pI (aS ms 34 p (nI (k + 1))) 2 _).1 q = _; rw [pI_n1 h]; rfl
    have e2 : m2.1 2 = drw (ms.1 2) := by rw [← hm2]; show (k_pI (aS ms 34 p (nI (k + 1))) 2 _).1 2 = _; rw [pI_s1]; rfl
    have e31 : m2.2.1 31 p = 0 := by rw [← hm2, aS_k (by decide), aS_s]
    have e32 : m2.2.1 32 p = drw (ms.1 2) := by rw [← hm2, aS_s]; rfl
    have e34 : m2.2.1 34 p = nI (k + 1) := by rw [← hm2, aS_k (by decide), aS_k (by decide)]; show (aS ms 34 p (nI (k + 1))).2.1 34 p = _; rw [aS_s]
    have eL : m2.2.2 = ms.2.2 := by rw [← hm2]; rfl
    have r2 : RI m2 n np M t := r.pk (g.again h1 h2 h31 k2 (by omega) (e1 28 (by decide)) e2 (fun q j _ hj => ej q j hj) e31 e32 e34) (fun q h => e1 q (by omega)) (fun q j h => ek q j (by omega) (by omega) (by omega)) eL
    refine ⟨postN n, r2.post ⟨Or.inr (Or.inl rfl), fun h => absurd (show (1 : Int32) = 3 from h) (by decide)⟩, ?_, ?_⟩
    · have hp := phP_upd (ms' := m2) h1 h2 (fun j hj => ej 34 j hj)
      have hs' : stp_ m2 p = k + 1 := stp_nI e34 (by omega)
      have hq := Phi_post (ms := m2) (np := np) (f := mG ((aS ms 34 p (nI (k + 1))).2.1 29 p) (drw ((aS ms 34 p (nI (k + 1))).1 2)) ((aS ms 34 p (nI (k + 1))).2.1 30 p) 0 0 0 1 (ms.2.1 38 4)) r.2.2.2.2.2.2.2.1
      have e3 : phi (mG ((aS ms 34 p (nI (k + 1))).2.1 29 p) (drw ((aS ms 34 p (nI (k + 1))).1 2)) ((aS ms 34 p (nI (k + 1))).2.1 30 p) 0 0 0 1 (ms.2.1 38 4) 6) = 3 := rfl
      have hm : phM m2 n = phM ms n := phM_congr (fun j => ek _ j (by decide) (by decide) (by decide))
      unfold Phi at hq ⊢
      omega
    · rw [postM_s (by decide) (by decide)]
      exact e1 0 (by decide)
end AR2
