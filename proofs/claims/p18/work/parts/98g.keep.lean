/-! from 98g.arrive2 -/
section
/-! WHAT IS KNOWN OF THE REFERENCE: REGISTER, REPLY -/
section AR2
variable {ms ms' : MS} {n np M t : Nat}
theorem GB.set (g : GB ms) {sv e s : Nat} {b l pl no : Int32} (hl : ms.1 1 < ms.1 1 + 180) (hsv : sv < 8) (hpr : ¬ ms.2.1 3 sv = 0) (he : 16 * sv ≤ e ∧ e < 16 * sv + 16) (hL : Ln l) (hs : s < 8) (hno : ∀ k, 16 * sv ≤ k → k < 16 * sv + 16 → liveE ms k = true → k ≠ e → ¬ (ms.2.1 7 k = b ∧ ms.2.1 8 k = l)) : GB (setM ms sv e s b l pl no) := by
  obtain ⟨g1, g2, g3⟩ := g
  have e7 : (setM ms sv e s b l pl no).2.1 7 e = b := congrArg (fun q : E6 => q.1) (setM_e (ms := ms) (sv := sv) (e := e) (s := s) (b := b) (l := l) (pl := pl) (no := no))
  have e8 : (setM ms sv e s b l pl no).2.1 8 e = l := congrArg (fun q : E6 => q.2.1) (setM_e (ms := ms) (sv := sv) (e := e) (s := s) (b := b) (l := l) (pl := pl) (no := no))
  refine ⟨fun k hk => ?_, fun i hi k k' h1 h2 h3 h4 l1 l2 q1 q2 => ?_, fun i hi h => ?_⟩
  · by_cases ek : k = e
    · rw [ek, e8]; exact hL
    · rw [setM_k (Or.inl ek)]; exact g1 k hk
  · rw [setM_live hl] at l1 l2
    by_cases ek : k = e
    · by_cases ek' : k' = e
      · rw [ek, ek']
      · exfalso
        have ei : i = sv := by omega
        rw [if_neg ek'] at l2
        rw [ek, e7, setM_k (Or.inl ek')] at q1
        rw [ek, e8, setM_k (Or.inl ek')] at q2
        exact hno k' (by omega) (by omega) l2 ek' ⟨q1.symm, q2.symm⟩
    · rw [if_neg ek] at l1
      by_cases ek' : k' = e
      · exfalso
        have ei : i = sv := by omega
        rw [ek', e7, setM_k (Or.inl ek)] at q1
        rw [ek', e8, setM_k (Or.inl ek)] at q2
        exact hno k (by omega) (by omega) l1 ek ⟨q1, q2⟩
      · rw [if_neg ek'] at l2
        rw [setM_k (Or.inl ek), setM_k (Or.inl ek')] at q1 q2
        exact g2 i hi k k' h1 h2 h3 h4 l1 l2 q1 q2
  · rw [setM_k (Or.inr (by omega))] at h
    have hne : i ≠ sv := fun z => hpr (by rw [← z]; exact h)
    obtain ⟨a1, a2⟩ := g3 i hi h
    refine ⟨fun k h1 h2 => ?_, fun s' hs' => ?_⟩
    · rw [setM_live hl, if_neg (by omega)]; exact a1 k h1 h2
    · rw [setM_L, if_neg (by omega)]; exact a2 s' hs'
theorem RI.reg (r : RI ms n np M t) {sv : Nat} (hsv : sv < 8) (hpr : ¬ ms.2.1 3 sv = 0) : RI (regM ms sv) n np M t ∧ Phi (regM ms sv) n np = Phi ms n np ∧ (regM ms sv).1 0 = ms.1 0 := by
  have rf : RI (refM ms) n np M t ∧ Phi (refM ms) n np = Phi ms n np ∧ (refM ms).1 0 = ms.1 0 := ⟨r.num rfl (fun k hk => pI_n1 (by omega)), rfl, pI_n1 (by decide)⟩
  unfold regM
  by_cases hg : goodR ms sv = true
  · rw [if_pos hg]
    unfold slotR
    cases hsl : slotM ms sv (ms.2.1 38 0) (ms.2.1 38 1) (ms.2.1 38 2) with
    | none => exact rf
    | some e =>
      show RI (setE ms sv e) n np M t ∧ Phi (setE ms sv e) n np = Phi ms n np ∧ (setE ms sv e).1 0 = ms.1 0
      unfold goodR at hg
      obtain ⟨h1, h2⟩ := (Bool.and_eq_true _ _).mp hg
      obtain ⟨-, h3⟩ := (Bool.and_eq_true _ _).mp h2
      obtain ⟨h4, -⟩ := (Bool.and_eq_true _ _).mp h3
      obtain ⟨s, hs, hs0, hps⟩ := siteB_nI h1
      obtain ⟨m, hm, hl, -⟩ := vpB_nI h4
      have hcl : (ms.2.1 38 0).toNatClampNeg = s := by rw [hs0, nI_clamp (by omega)]
      have hse : setE ms sv e = setM ms sv e s (ms.2.1 38 1) (ms.2.1 38 2) (ms.2.1 38 3) (ms.2.1 38 4) := by
        unfold setE setM
        rw [hcl, ← hs0]
      obtain ⟨ti, Tt, b, c, e', d, f, gg⟩ := r
      have h180 : ms.1 1 < ms.1 1 + 180 := by
        rw [ti.2, show nI t + 180 = nI (t + 180) from nI_add t 180]
        exact nI_lt (by omega) (by omega)
      have hrange : (16 * sv ≤ e ∧ e < 16 * sv + 16) ∧ ∀ k, 16 * sv ≤ k → k < 16 * sv + 16 → liveE ms k = true → k ≠ e → ¬ (ms.2.1 7 k = ms.2.1 38 1 ∧ ms.2.1 8 k = ms.2.1 38 2) := by
        unfold slotM at hsl
        cases hf : entF ms sv (ms.2.1 38 1) (ms.2.1 38 2) with
        | some e0 =>
          rw [hf] at hsl
          have hsl' : (if ms.2.1 9 e0 = ms.2.1 38 0 then some e0 else none) = some e := hsl
          have ee : e0 = e := by
            by_cases hc : ms.2.1 9 e0 = ms.2.1 38 0
            · rw [if_pos hc] at hsl'; exact Option.some.inj hsl'
            · rw [if_neg hc] at hsl'; cases hsl'
          obtain ⟨q1, q2, q3, -⟩ := ff_some.mp hf
          obtain ⟨q4, q5⟩ := (Bool.and_eq_true _ _).mp q3
          obtain ⟨q6, q7⟩ := (Bool.and_eq_true _ _).mp q5
          rw [ee] at q1 q2 q4 q6 q7
          exact ⟨⟨q1, q2⟩, fun k g1 g2 g3 g4 g5 => g4 (b.2.1 sv hsv k e g1 g2 q1 q2 g3 q4 (g5.1.trans (of_decide_eq_true q6).symm) (g5.2.trans (of_decide_eq_true q7).symm))⟩
        | none =>
          rw [hf] at hsl
          have hsl' : freF ms sv = some e := hsl
          obtain ⟨q1, q2, -, -⟩ := ff_some.mp hsl'
          refine ⟨⟨q1, q2⟩, fun k g1 g2 g3 _ g5 => ?_⟩
          have := ff_none.mp hf k g1 g2
          rw [g3, decide_eq_true g5.1, decide_eq_true g5.2] at this
          cases this
      rw [hse]
      have ek : ∀ k j, k < 7 ∨ 12 < k → (setM ms sv e s (ms.2.1 38 1) (ms.2.1 38 2) (ms.2.1 38 3) (ms.2.1 38 4)).2.1 k j = ms.2.1 k j := fun k j h => setM_k (Or.inr h)
      refine ⟨⟨ti, Tr_congr (fun q j h1 h2 => ek q j (by omega)) Tt, b.set h180 hsv hpr hrange.1 ⟨m, hm, hl⟩ hs hrange.2, c.to (fun q j h1 h2 => ek q j (by omega)), e'.to (fun j => ek 26 j (by omega)) (fun w _ h => by rw [ek 14 w (by omega)]; exact h), d.to rfl rfl (fun q j h1 h2 => ek q j (by omega)) (fun s _ h => by rw [ek 14 s (by omega)] at h; exact h), f.to rfl rfl (fun k j h => ek k j (by omega)), gg.to rfl (fun j => ek 37 j (by omega))⟩, ?_, rfl⟩
      unfold Phi
      rw [phM_congr (fun j => ek _ j (by omega)), phP_congr (fun j => ek _ j (by omega))]
  · rw [if_neg hg]
    exact rf
theorem phP_upd {p : Nat} (h1 : 1 ≤ p) (h2 : p ≤ np) (e : ∀ j, j ≠ p → ms'.2.1 34 j = ms.2.1 34 j) : phP ms' np + 3 * (9 - stp_ ms p) = phP ms np + 3 * (9 - stp_ ms' p) := sm_upd (f := fun i => 3 * (9 - stp_ ms i)) (f' := fun i => 3 * (9 - stp_ ms' i)) (p := p) np 1 h1 (by omega) (fun j _ _ h => by show 3 * (9 - stp_ ms' j) = 3 * (9 - stp_ ms j); unfold stp_; rw [e j h])
theorem RI.rfr (r : RI ms n np M t) {p : Nat} (h1 : 1 ≤ p) (h2 : p ≤ np) (h31 : ms.2.1 31 p = 0) : ∃ n', RI (rfrM ms n p) n' np M t ∧ Phi (rfrM ms n p) n' np ≤ Phi ms n np ∧ (rfrM ms n p).1 0 = ms.1 0 := by
  have g := r.2.2.2.2.2.2.1
  obtain ⟨k, k1, k2, k3⟩ := g.2.2.2.1 p h1 h2
  have k8 := k3 h31
  have hst : stp_ ms p = k := stp_nI k2 k1
  unfold rfrM
  rw [k2, nI_c1]
  by_cases h9 : k = 8
  · rw [if_pos (show nI (k + 1) = 9 by rw [h9]; decide)]
    have ek : ∀ q j, q ≠ 31 → q ≠ 34 → (aS (aS ms 34 p (nI (k + 1))) 31 p 3).2.1 q j = ms.2.1 q j := fun q j a b => by rw [aS_k a, aS_k b]
    have ej : ∀ q j, j ≠ p → (aS (aS ms 34 p (nI (k + 1))) 31 p 3).2.1 q j = ms.2.1 q j := fun q j a => by rw [aS_j a, aS_j a]
    have e34 : (aS (aS ms 34 p (nI (k + 1))) 31 p 3).2.1 34 p = nI 9 := by rw [aS_k (by decide), aS_s, h9]
    refine ⟨n, r.pk (g.off (ms' := aS (aS ms 34 p (nI (k + 1))) 31 p 3) h1 h2 rfl rfl (fun q j _ hj => ej q j hj) (by rw [aS_s]; decide) ⟨9, by omega, e34, by omega⟩).1 (fun q _ => rfl) (fun q j h => ek q j (by omega) (by omega)) rfl, ?_, rfl⟩
    have hp := phP_upd (ms' := aS (aS ms 34 p (nI (k + 1))) 31 p 3) h1 h2 (fun j hj => ej 34 j hj)
    have hs' : stp_ (aS (aS ms 34 p (nI (k + 1))) 31 p 3) p = 9 := stp_nI e34 (by omega)
    unfold Phi
    rw [phM_congr (fun j => ek _ j (by decide) (by decide))]
    omega
  · have hne : ¬ nI (k + 1) = 9 := fun z => h9 (by have := (nI_eq (a := k + 1) (b := 9) (by omega) (by omega)).mp z; omega)
    rw [if_neg hne]
    unfold askM
    generalize hm2 : aS (aS (k_pI (aS ms 34 p (nI (k + 1))) 2 (drw ((aS ms 34 p (nI (k + 1))).1 2))) 31 p 0) 32 p (drw ((aS ms 34 p (nI (k + 1))).1 2)) = m2
    have ek : ∀ q j, q ≠ 31 → q ≠ 32 → q ≠ 34 → m2.2.1 q j = ms.2.1 q j := fun q j a b c => by rw [← hm2, aS_k b, aS_k a]; show (aS ms 34 p (nI (k + 1))).2.1 q j = _; rw [aS_k c]
    have ej : ∀ q j, j ≠ p → m2.2.1 q j = ms.2.1 q j := fun q j a => by rw [← hm2, aS_j a, aS_j a]; show (aS ms 34 p (nI (k + 1))).2.1 q j = _; rw [aS_j a]
    have e1 : ∀ q, q ≠ 2 → m2.1 q = ms.1 q := fun q h => by rw [← hm2]; show (k_pI (aS ms 34 p (nI (k + 1))) 2 _).1 q = _; rw [pI_n1 h]; rfl
    have e2 : m2.1 2 = drw (ms.1 2) := by rw [← hm2]; show (k_pI (aS ms 34 p (nI (k + 1))) 2 _).1 2 = _; rw [pI_s1]; rfl
    have e31 : m2.2.1 31 p = 0 := by rw [← hm2, aS_k (by decide), aS_s]
    have e32 : m2.2.1 32 p = drw (ms.1 2) := by rw [← hm2, aS_s]; rfl
    have e34 : m2.2.1 34 p = nI (k + 1) := by rw [← hm2, aS_k (by decide), aS_k (by decide)]; show (aS ms 34 p (nI (k + 1))).2.1 34 p = _; rw [aS_s]
    have eL : m2.2.2 = ms.2.2 := by rw [← hm2]; rfl
    have r2 : RI m2 n np M t := r.pk (g.again h1 h2 h31 k2 (by omega) (e1 28 (by decide)) e2 (fun q j _ hj => ej q j hj) e31 e32 e34) (fun q h => e1 q (by omega)) (fun q j h => ek q j (by omega) (by omega) (by omega)) eL
    refine ⟨postN n, r2.post ⟨Or.inr (Or.inl rfl), fun h => absurd (show (1 : Int32) = 3 from h) (by decide)⟩, ?_, ?_⟩
    · have hp := phP_upd (ms' := m2) h1 h2 (fun j hj => ej 34 j hj)
      have hs' : stp_ m2 p = k + 1 := stp_nI e34 (by omega)
      have hq := Phi_post (ms := m2) (np := np) (f := mG ((aS ms 34 p (nI (k + 1))).2.1 29 p) (drw ((aS ms 34 p (nI (k + 1))).1 2)) ((aS ms 34 p (nI (k + 1))).2.1 30 p) 0 0 0 1 (ms.2.1 38 4)) r.2.2.2.2.2.2.2.1
      have e3 : phi (mG ((aS ms 34 p (nI (k + 1))).2.1 29 p) (drw ((aS ms 34 p (nI (k + 1))).1 2)) ((aS ms 34 p (nI (k + 1))).2.1 30 p) 0 0 0 1 (ms.2.1 38 4) 6) = 3 := rfl
      have hm : phM m2 n = phM ms n := phM_congr (fun j => ek _ j (by decide) (by decide) (by decide))
      unfold Phi at hq ⊢
      omega
    · rw [postM_s (by decide) (by decide)]
      exact e1 0 (by decide)
end AR2
end
/-! from 98h.arrive3 -/
section
/-! WHAT IS KNOWN OF THE REFERENCE: a note is made, a REPLY comes, a message comes -/
section AR3
variable {ms ms' : MS} {n np M t : Nat}
theorem mnM_is {s : Nat} {b l pl v : Int32} : ∃ tt, mnM ms s b l pl v = notM (clrM ms s b (ln l)) tt b l pl v ∧ 6 * s ≤ tt ∧ tt < 6 * s + 6 := by
  obtain ⟨tt, t1, t2, t3, -⟩ := fo_pk (clrM ms s b (ln l)) s
  refine ⟨tt, ?_, t2, t3⟩
  unfold mnM
  rw [t1]
theorem GD.mk (g : GD ms M t) (ht : ms.1 1 = nI t) (ht2 : t ≤ 1000000) (hM : M ≤ 200) {s : Nat} (hs : s < 8) (hp : ¬ ms.2.1 14 s = -1) {b l pl v : Int32} (hl : Ln l) (hpl : pl = -1 ∨ ∃ q, q < 16 ∧ pl = nI q) : GD (mnM ms s b l pl v) (M + 1) t := by
  obtain ⟨g1, g2, g3, g4, g5, g6⟩ := g
  obtain ⟨tt, t1, t2, t3⟩ := mnM_is (ms := ms) (s := s) (b := b) (l := l) (pl := pl) (v := v)
  rw [t1]
  have hT := notM_t (ms := clrM ms s b (ln l)) (t := tt) (b := b) (l := l) (pl := pl) (v := v)
  generalize hN : notM (clrM ms s b (ln l)) tt b l pl v = N at hT ⊢
  have e19 : N.2.1 19 tt = b := congrArg (fun q : N5 × Int32 => q.1.1) hT
  have e20 : N.2.1 20 tt = l := congrArg (fun q : N5 × Int32 => q.1.2.1) hT
  have e21 : N.2.1 21 tt = pl := congrArg (fun q : N5 × Int32 => q.1.2.2.1) hT
  have e23 : N.2.1 23 tt = nI (t + 60) := by
    have : N.2.1 23 tt = ms.1 1 + 60 := congrArg (fun q : N5 × Int32 => q.1.2.2.2.2) hT
    rw [this, ht]; exact nI_add t 60
  have e24 : N.2.1 24 tt = nI (M + 1) := by
    have : N.2.1 24 tt = ms.1 25 + 1 := congrArg (fun q : N5 × Int32 => q.2) hT
    rw [this, g2]; exact nI_c1 M
  have eN : ∀ q k, k ≠ tt → q ≠ 23 → N.2.1 q k = ms.2.1 q k := fun q k h1 h2 => by rw [← hN, notM_k (Or.inl h1), clrM_k h2]
  have e14 : ∀ k, N.2.1 14 k = ms.2.1 14 k := fun k => by rw [← hN, notM_k (Or.inr (by omega)), clrM_k (by decide)]
  have eT : N.1 1 = ms.1 1 := by rw [← hN]; show (k_pI (clrM ms s b (ln l)) 25 ((clrM ms s b (ln l)).1 25 + 1)).1 1 = _; rw [pI_n1 (by decide)]; rfl
  have e25 : N.1 25 = nI (M + 1) := by rw [← hN]; show (k_pI (clrM ms s b (ln l)) 25 ((clrM ms s b (ln l)).1 25 + 1)).1 25 = _; rw [pI_s1]; show ms.1 25 + 1 = _; rw [g2]; exact nI_c1 M
  have hln := (Ln_nI hl).2
  have hlv : ∀ k, k < 48 → k ≠ tt → liveN N k = true → liveN ms k = true ∧ N.2.1 23 k = ms.2.1 23 k ∧ (6 * s ≤ k → k < 6 * s + 6 → mtB (ms.2.1 19 k) (ln (ms.2.1 20 k)) b (ln l) = false) := by
    intro k hk hne h
    have e : N.2.1 23 k = if (6 * s ≤ k ∧ k < 6 * s + 6) ∧ mtN ms b (ln l) k = true then 0 else ms.2.1 23 k := by rw [← hN, notM_k (Or.inl hne), clrM_23]
    unfold liveN at h ⊢
    rw [eT] at h
    by_cases hc : (6 * s ≤ k ∧ k < 6 * s + 6) ∧ mtN ms b (ln l) k = true
    · rw [e, if_pos hc, ht] at h
      exact absurd (of_decide_eq_true h) (nI_pos (by omega))
    · rw [if_neg hc] at e
      rw [e] at h
      refine ⟨h, e, fun h1 h2 => bool_f (fun z => hc ⟨⟨h1, h2⟩, ?_⟩)⟩
      rw [mtN_nMt hln (g1 k hk)]
      exact z
  refine ⟨fun k hk => ?_, e25, fun s' hs' k k' h1 h2 h3 h4 l1 l2 hne => ?_, fun s' hs' k k' h1 h2 h3 h4 l1 l2 hlt => ?_, fun k hk lv => ?_, fun s' hs' h k h1 h2 => ?_⟩
  · by_cases ek : k = tt
    · rw [ek, e20]; exact hl
    · rw [eN 20 k ek (by decide)]; exact g1 k hk
  · by_cases ek : k = tt
    · have ek' : k' ≠ tt := fun z => hne (ek.trans z.symm)
      have es : s' = s := by omega
      have := (hlv k' (by omega) ek' l2).2.2 (by omega) (by omega)
      rw [ek, e19, e20, eN 19 k' ek' (by decide), eN 20 k' ek' (by decide)]
      exact bool_f (fun z => by rw [mtB_iff.mpr (mtB_iff.mp z).symm] at this; cases this)
    · by_cases ek' : k' = tt
      · have es : s' = s := by omega
        have := (hlv k (by omega) ek l1).2.2 (by omega) (by omega)
        rw [ek', e19, e20, eN 19 k ek (by decide), eN 20 k ek (by decide)]
        exact this
      · rw [eN 19 k ek (by decide), eN 20 k ek (by decide), eN 19 k' ek' (by decide), eN 20 k' ek' (by decide)]
        exact g3 s' hs' k k' h1 h2 h3 h4 (hlv k (by omega) ek l1).1 (hlv k' (by omega) ek' l2).1 hne
  · by_cases ek : k = tt
    · exfalso
      by_cases ek' : k' = tt
      · rw [ek, ek'] at hlt
        exact Int32.lt_irrefl hlt
      · obtain ⟨⟨m, m1, m2⟩, -⟩ := g5 k' (by omega) (hlv k' (by omega) ek' l2).1
        rw [ek, e24, eN 24 k' ek' (by decide), m2] at hlt
        have := (nI_ltI (a := M + 1) (b := m) (by omega) (by omega)).mp hlt
        omega
    · by_cases ek' : k' = tt
      · obtain ⟨-, ⟨e, q2, q3⟩, -⟩ := g5 k (by omega) (hlv k (by omega) ek l1).1
        rw [ek', e23, (hlv k (by omega) ek l1).2.1, q3]
        exact nI_le (by omega) (by omega)
      · rw [(hlv k (by omega) ek l1).2.1, (hlv k' (by omega) ek' l2).2.1]
        rw [eN 24 k ek (by decide), eN 24 k' ek' (by decide)] at hlt
        exact g4 s' hs' k k' h1 h2 h3 h4 (hlv k (by omega) ek l1).1 (hlv k' (by omega) ek' l2).1 hlt
  · by_cases ek : k = tt
    · rw [ek, e24, e23, e21]
      exact ⟨⟨M + 1, Nat.le_refl _, rfl⟩, ⟨t + 60, Nat.le_refl _, rfl⟩, hpl⟩
    · obtain ⟨⟨m, m1, m2⟩, q2, q3⟩ := g5 k hk (hlv k hk ek lv).1
      rw [eN 24 k ek (by decide), (hlv k hk ek lv).2.1, eN 21 k ek (by decide)]
      exact ⟨⟨m, by omega, m2⟩, q2, q3⟩
  · rw [e14] at h
    refine bool_f (fun z => ?_)
    by_cases ek : k = tt
    · have es : s' = s := by omega
      rw [es] at h
      exact hp h
    · have := g6 s' hs' h k h1 h2
      rw [(hlv k (by omega) ek z).1] at this
      cases this
theorem mnM_1q {s q : Nat} {b l pl v : Int32} (h : q ≠ 25) : (mnM ms s b l pl v).1 q = ms.1 q := by
  obtain ⟨tt, t1, -⟩ := mnM_is (ms := ms) (s := s) (b := b) (l := l) (pl := pl) (v := v)
  rw [t1]
  show (k_pI (clrM ms s b (ln l)) 25 ((clrM ms s b (ln l)).1 25 + 1)).1 q = _
  rw [pI_n1 h]; rfl
theorem mnM_L {s : Nat} {b l pl v : Int32} : (mnM ms s b l pl v).2.2 = ms.2.2 := by
  obtain ⟨tt, t1, -⟩ := mnM_is (ms := ms) (s := s) (b := b) (l := l) (pl := pl) (v := v)
  rw [t1]; rfl
/-- a note is made, and the packet waits no more -/
theorem RI.mk (r : RI ms n np M t) {s p : Nat} (hs : s < 8) (hp : ¬ ms.2.1 14 s = -1) {b l pl v w : Int32} (hl : Ln l) (hpl : pl = -1 ∨ ∃ q, q < 16 ∧ pl = nI q) (h1 : 1 ≤ p) (h2 : p ≤ np) (h31 : ms.2.1 31 p = 0) (hw : ¬ w = 0) : RI (aS (mnM ms s b l pl v) 31 p w) n np (M + 1) t ∧ Phi (aS (mnM ms s b l pl v) 31 p w) n np = Phi ms n np := by
  have hMl := r.2.2.2.2.2.2.1.M_le
  obtain ⟨ti, Tt, b', c, e', d, f, gg⟩ := r
  have ek : ∀ k j, k < 19 ∨ 24 < k → k ≠ 31 → (aS (mnM ms s b l pl v) 31 p w).2.1 k j = ms.2.1 k j := fun k j h hk => by rw [aS_k hk, mnM_k h]
  have es : ∀ q, q ≠ 25 → (aS (mnM ms s b l pl v) 31 p w).1 q = ms.1 q := fun q h => mnM_1q h
  have hd := d.mk ti.2 ti.1 hMl hs hp (b := b) (v := v) hl hpl
  refine ⟨⟨⟨ti.1, by rw [es 1 (by decide)]; exact ti.2⟩, Tr_congr (fun q j h1 h2 => ek q j (by omega) (by omega)) Tt, b'.to (es 1 (by decide)) (fun q j h1 h2 => ek q j (by omega) (by omega)) mnM_L, c.to (fun q j h1 h2 => ek q j (by omega) (by omega)), e'.to (fun j => ek 26 j (by omega) (by decide)) (fun w _ h => by rw [ek 14 w (by omega) (by decide)]; exact h), hd.to rfl rfl (fun q j h1 h2 => aS_k (by omega)) (fun s _ h => by rw [aS_k (by decide)] at h; exact h), ?_, gg.to (es 36 (by decide)) (fun j => ek 37 j (by omega) (by decide))⟩, ?_⟩
  · refine (f.off (ms' := aS (mnM ms s b l pl v) 31 p w) h1 h2 (es 28 (by decide)) (es 2 (by decide)) (fun k j hk hj => ?_) (by rw [aS_s]; exact hw) (by rw [ek 34 p (by omega) (by decide)]; exact f.s9 h1 h2)).2 h31
    rw [aS_j hj, mnM_k (by omega)]
  · unfold Phi
    rw [phM_congr (fun j => ek _ j (by omega) (by decide)), phP_congr (fun j => ek _ j (by omega) (by decide))]
theorem RI.hit (r : RI ms n np M t) {s p : Nat} (hs : s < 8) (hp : ¬ ms.2.1 14 s = -1) (h1 : 1 ≤ p) (h2 : p ≤ np) (h31 : ms.2.1 31 p = 0) (ho : okR ms p = true) (h0 : ¬ ms.2.1 38 1 = 0) : ∃ n', RI (hitM ms n s p) n' np (M + 1) t ∧ Phi (hitM ms n s p) n' np ≤ Phi ms n np := by
  unfold okR at ho
  obtain ⟨-, o2⟩ := (Bool.and_eq_true _ _).mp ho
  obtain ⟨o3, o4⟩ := (Bool.and_eq_true _ _).mp o2
  obtain ⟨-, o5⟩ := (Bool.and_eq_true _ _).mp o4
  obtain ⟨m, hm, hl, -⟩ := vpB_nI o3
  unfold hitM
  by_cases hc : ms.2.1 38 1 = 2
  · rw [if_pos hc]
    unfold folM
    rw [if_pos rfl]
    obtain ⟨q1, q2⟩ := r.mk (s := s) (b := ms.2.1 38 2) (l := ms.2.1 38 3) (pl := -1) (v := 0) (w := 3) hs hp ⟨m, hm, hl⟩ (Or.inl rfl) h1 h2 h31 (by decide)
    exact ⟨n, q1, by omega⟩
  · rw [if_neg hc]
    have hv : ∃ q, q < 16 ∧ ms.2.1 38 4 = nI q := by
      unfold valB at o5
      rw [if_neg h0, if_neg hc] at o5
      have hh := of_decide_eq_true o5
      obtain ⟨j, j1, j2⟩ := nI_of2 (M := 15) (n := 15) (by decide) (Int32.not_lt.mpr hh.1) hh.2
      exact ⟨j, by omega, j2⟩
    unfold folM
    have hne : ¬ ms.2.1 38 4 = -1 := by
      obtain ⟨q, q1, q2⟩ := hv
      rw [q2]
      exact nI_ne_m1 (by omega)
    rw [if_neg hne]
    obtain ⟨q1, q2⟩ := r.mk (s := s) (b := ms.2.1 38 2) (l := ms.2.1 38 3) (pl := ms.2.1 38 4) (v := ms.2.1 38 5) (w := 1) hs hp ⟨m, hm, hl⟩ (Or.inr hv) h1 h2 h31 (by decide)
    generalize aS (mnM ms s (ms.2.1 38 2) (ms.2.1 38 3) (ms.2.1 38 4) (ms.2.1 38 5)) 31 p 1 = m2 at q1 q2 ⊢
    generalize (mnM ms s (ms.2.1 38 2) (ms.2.1 38 3) (ms.2.1 38 4) (ms.2.1 38 5)).2.1 29 p = w1
    generalize (mnM ms s (ms.2.1 38 2) (ms.2.1 38 3) (ms.2.1 38 4) (ms.2.1 38 5)).2.1 30 p = w2
    refine ⟨postN n, q1.post ⟨Or.inr (Or.inr (Or.inr (Or.inl rfl))), fun _ => hv⟩, ?_⟩
    have := Phi_post (ms := m2) (np := np) (f := mG w1 (nI p) w2 0 0 0 3 (ms.2.1 38 4)) r.2.2.2.2.2.2.2.1
    have e3 : phi (mG w1 (nI p) w2 0 0 0 3 (ms.2.1 38 4) 6) = 0 := rfl
    omega
theorem RI.rpl (r : RI ms n np M t) {s : Nat} (hs : s < 8) (hp : ¬ ms.2.1 14 s = -1) : ∃ n' M', RI (rplM ms n s (wtF ms (nI s) np)) n' np M' t ∧ Phi (rplM ms n s (wtF ms (nI s) np)) n' np ≤ Phi ms n np := by
  have ig : ∃ n' M', RI (ignM ms) n' np M' t ∧ Phi (ignM ms) n' np ≤ Phi ms n np := ⟨n, M, r.num rfl (fun k hk => pI_n1 (by omega)), Nat.le_refl _⟩
  unfold wtF
  rcases lst_fo (ms := ms) (nI s) np 1 none with ⟨j, h1, h2, h3, h4⟩ | ⟨h1, h2⟩
  · rw [h4]
    show ∃ n' M', RI (if okR ms j = true then (if ms.2.1 38 1 = 0 then rfrM ms n j else hitM ms n s j) else ignM ms) n' np M' t ∧ Phi (if okR ms j = true then (if ms.2.1 38 1 = 0 then rfrM ms n j else hitM ms n s j) else ignM ms) n' np ≤ Phi ms n np
    unfold lstB at h3
    have h31 := of_decide_eq_true ((Bool.and_eq_true _ _).mp ((Bool.and_eq_true _ _).mp h3).2).1
    by_cases ho : okR ms j = true
    · rw [if_pos ho]
      by_cases h0 : ms.2.1 38 1 = 0
      · rw [if_pos h0]
        obtain ⟨n', q1, q2, -⟩ := r.rfr h1 (by omega) h31
        exact ⟨n', M, q1, q2⟩
      · rw [if_neg h0]
        obtain ⟨n', q1, q2⟩ := r.hit hs hp h1 (by omega) h31 ho h0
        exact ⟨n', M + 1, q1, q2⟩
    · rw [if_neg ho]
      exact ig
  · rw [h2]
    exact ig
/-- a message comes -/
theorem RI.arr (r : RI ms n np M t) (hk : kOk (ms.2.1 38 6) (ms.2.1 38 7)) : ∃ n' M', RI (arrM ms n np) n' np M' t ∧ Phi (arrM ms n np) n' np + cz (ms.2.1 38 6) ≤ Phi ms n np + phi (ms.2.1 38 6) := by
  have same : cz (ms.2.1 38 6) ≤ phi (ms.2.1 38 6) → ∃ n' M', RI ms n' np M' t ∧ Phi ms n' np + cz (ms.2.1 38 6) ≤ Phi ms n np + phi (ms.2.1 38 6) := fun h => ⟨n, M, r, by omega⟩
  unfold arrM
  rcases hk.1 with h | h | h | h | h
  · have e1 : cz (ms.2.1 38 6) = 2 := by rw [h]; rfl
    have e2 : phi (ms.2.1 38 6) = 2 := by rw [h]; rfl
    rw [if_pos h]
    by_cases hb : srvB ms (ms.2.1 38 7) = true
    · rw [if_pos hb]
      obtain ⟨i, hi, e, hpr⟩ := srvB_nI hb
      rw [e, nI_clamp (by omega)]
      obtain ⟨q1, q2, -⟩ := r.reg hi hpr
      exact ⟨n, M, q1, by omega⟩
    · rw [if_neg hb]; exact same (by omega)
  · have e1 : cz (ms.2.1 38 6) = 1 := by rw [h]; rfl
    have e2 : phi (ms.2.1 38 6) = 3 := by rw [h]; rfl
    rw [if_neg (by rw [h]; decide), if_pos h]
    by_cases hb : srvB ms (ms.2.1 38 7) = true
    · rw [if_pos hb]
      obtain ⟨n', q1, q2⟩ := r.req (sv := (ms.2.1 38 7).toNatClampNeg)
      exact ⟨n', M, q1, by omega⟩
    · rw [if_neg hb]; exact same (by omega)
  · have e1 : cz (ms.2.1 38 6) = 2 := by rw [h]; rfl
    have e2 : phi (ms.2.1 38 6) = 2 := by rw [h]; rfl
    rw [if_neg (by rw [h]; decide), if_neg (by rw [h]; decide), if_pos h]
    by_cases hb : siteB ms (ms.2.1 38 7) = true
    · rw [if_pos hb]
      obtain ⟨s, hs, e, hpr⟩ := siteB_nI hb
      rw [e, nI_clamp (by omega)]
      obtain ⟨n', M', q1, q2⟩ := r.rpl hs hpr
      exact ⟨n', M', q1, by omega⟩
    · rw [if_neg hb]; exact same (by omega)
  · have e1 : cz (ms.2.1 38 6) = 0 := by rw [h]; rfl
    have e2 : phi (ms.2.1 38 6) = 0 := by rw [h]; rfl
    rw [if_neg (by rw [h]; decide), if_neg (by rw [h]; decide), if_neg (by rw [h]; decide), if_pos h]
    obtain ⟨pl, p1, p2⟩ := hk.2 h
    rw [p2, nI_clamp (by omega)]
    obtain ⟨n', q1, q2⟩ := r.came p1
    exact ⟨n', M, q1, by omega⟩
  · have e1 : cz (ms.2.1 38 6) = 0 := by rw [h]; rfl
    have e2 : phi (ms.2.1 38 6) = 0 := by rw [h]; rfl
    rw [if_neg (by rw [h]; decide), if_neg (by rw [h]; decide), if_neg (by rw [h]; decide), if_neg (by rw [h]; decide)]
    by_cases hb : siteB ms (ms.2.1 38 7) = true
    · rw [if_pos hb]
      obtain ⟨q1, q2⟩ := r.fgt (s := (ms.2.1 38 7).toNatClampNeg) (ep := ms.2.1 38 0) (pl := ms.2.1 38 1)
      exact ⟨n, M, q1, by omega⟩
    · rw [if_neg hb]; exact same (by omega)
end AR3
end
/-! from 98i.calls -/
section
/-! WHAT IS KNOWN OF THE REFERENCE: kept by each call -/
section CLK
variable {ms ms' : MS} {n np M t : Nat}
theorem RI.cd (r : RI ms n np M t) (c : Int32) : RI (k_pI ms 0 c) n np M t := r.num rfl (fun k hk => pI_n1 (by omega))
theorem Phi_cd {c : Int32} : Phi (k_pI ms 0 c) n np = Phi ms n np := rfl
theorem RI.pass (r : RI ms n np M t) {a : Int32} (hb : passB ms a = true) : ∃ t', RI (k_pI (okM ms) 1 (ms.1 1 + a)) n np M t' := by
  obtain ⟨ti, Tt, b, c, e', d, f, gg⟩ := r
  obtain ⟨hb1, hb2⟩ := (Bool.and_eq_true _ _).mp hb
  have hb3 := of_decide_eq_true hb1
  have hb4 := of_decide_eq_true hb2
  obtain ⟨dd, hd, rfl⟩ := nI_of2 (M := 1000) (n := 1000) (by decide) (fun z => absurd (Int32.lt_of_le_of_lt hb3.1 z) (by decide)) hb3.2
  rw [ti.2, nI_add] at hb4 ⊢
  have hle : t + dd ≤ 1000000 := Nat.le_of_not_lt (fun z => absurd hb4 (nI_ge (a := 1000000) (b := t + dd) z (by omega)))
  have h1 : (k_pI (okM ms) 1 (nI (t + dd))).1 1 = nI (t + dd) := pI_s1
  have es : ∀ q, q ≠ 0 → q ≠ 1 → (k_pI (okM ms) 1 (nI (t + dd))).1 q = ms.1 q := fun q h0 h => by rw [pI_n1 h, okM_1 h0]
  have hlt : ∀ v : Int32, nI (t + dd) < v → nI t < v := fun v h => Int32.lt_of_le_of_lt (nI_le (Nat.le_add_right t dd) (by omega)) h
  refine ⟨t + dd, ⟨hle, h1⟩, Tr_congr (fun q j _ _ => rfl) Tt, b.sub (fun _ _ => rfl) (fun _ _ => rfl) (fun k _ h => ?_) (fun _ _ h => h) rfl, c.to (fun _ _ _ _ => rfl), e'.to (fun _ => rfl) (fun _ _ h => h), d.sub (Nat.le_add_right t dd) (es 25 (by decide) (by decide)) (fun _ _ _ => rfl) (fun k _ h => ⟨?_, rfl⟩) (fun _ _ h => h), f.to (es 28 (by decide) (by decide)) (es 2 (by decide) (by decide)) (fun _ _ _ => rfl), gg.to (es 36 (by decide) (by decide)) (fun _ => rfl)⟩
  · unfold liveE at h ⊢
    rw [h1] at h
    rw [ti.2]
    exact decide_eq_true (hlt _ (of_decide_eq_true h))
  · unfold liveN at h ⊢
    rw [h1] at h
    rw [ti.2]
    exact decide_eq_true (hlt _ (of_decide_eq_true h))
/-- sites have changed -/
theorem RI.st (r : RI ms n np M t) (e1 : ∀ k, k ≠ 0 → ms'.1 k = ms.1 k) (eL : ms'.2.2 = ms.2.2) (e : ∀ k j, (k < 14 ∨ 18 < k) → k ≠ 26 → k ≠ 27 → ms'.2.1 k j = ms.2.1 k j) (c : GC ms') (e' : GE ms') (e14 : ∀ s, s < 8 → ms'.2.1 14 s = -1 → ms.2.1 14 s = -1) : RI ms' n np M t := by
  obtain ⟨ti, Tt, b, -, -, d, f, gg⟩ := r
  exact ⟨⟨ti.1, by rw [e1 1 (by decide)]; exact ti.2⟩, Tr_congr (fun q j h1 h2 => e q j (by omega) (by omega) (by omega)) Tt, b.to (e1 1 (by decide)) (fun q j h1 h2 => e q j (by omega) (by omega) (by omega)) eL, c, e', d.to (e1 1 (by decide)) (e1 25 (by decide)) (fun q j h1 h2 => e q j (by omega) (by omega) (by omega)) e14, f.to (e1 28 (by decide)) (e1 2 (by decide)) (fun k j h => e k j (by omega) (by omega) (by omega)), gg.to (e1 36 (by decide)) (fun j => e 37 j (by omega) (by decide) (by decide))⟩
theorem Phi_congr (h1 : ∀ j, ms'.2.1 37 j = ms.2.1 37 j) (h2 : ∀ j, ms'.2.1 34 j = ms.2.1 34 j) : Phi ms' n np = Phi ms n np := by
  unfold Phi
  rw [phM_congr h1, phP_congr h2]
theorem RI.site (r : RI ms n np M t) {i pl : Nat} (hi : i < 8) (h : ms.2.1 14 i = -1) (hpl : pl < 16) : RI (aS (okM ms) 14 i (nI pl)) n np M t := by
  have e0 : ∀ k j, k ≠ 14 → (aS (okM ms) 14 i (nI pl)).2.1 k j = ms.2.1 k j := fun k j h => aS_k h
  have e1 : ∀ s, s ≠ i → (aS (okM ms) 14 i (nI pl)).2.1 14 s = ms.2.1 14 s := fun s h => aS_j h
  have e2 : (aS (okM ms) 14 i (nI pl)).2.1 14 i = nI pl := aS_s
  have e14 : ∀ s, s < 8 → (aS (okM ms) 14 i (nI pl)).2.1 14 s = -1 → ms.2.1 14 s = -1 := fun s _ hh => by
    by_cases es : s = i
    · rw [es, e2] at hh; exact absurd hh (nI_ne_m1 (by omega))
    · rw [e1 s es] at hh; exact hh
  obtain ⟨c1, c2, c3, c4⟩ := r.2.2.2.1
  refine r.st (fun k hk => okM_1 hk) rfl (fun k j h _ _ => e0 k j (by omega)) ⟨fun s hs => by rw [e0 15 s (by decide)]; exact c1 s hs, fun k hk => by rw [e0 17 k (by decide)]; exact c2 k hk, fun s hs => ?_, fun s hs hh => by rw [e0 15 s (by decide), e0 18 s (by decide)]; exact c4 s hs (e14 s hs hh)⟩ (r.2.2.2.2.1.to (fun j => e0 26 j (by decide)) (fun w hw hh z => hh (e14 w hw z))) e14
  by_cases es : s = i
  · rw [es, e2]; exact Or.inr ⟨pl, hpl, rfl⟩
  · rw [e1 s es]; exact c3 s hs
theorem RI.del (r : RI ms n np M t) {p c b l : Int32} (hb : delB ms p c b l = true) : RI (dlgM (okM ms) c.toNatClampNeg b l p) n np M t := by
  obtain ⟨ti, Tt, bb, cc, e', d, f, gg⟩ := r
  unfold delB at hb
  obtain ⟨hb1, hb'⟩ := (Bool.and_eq_true _ _).mp hb
  obtain ⟨hb2, hb''⟩ := (Bool.and_eq_true _ _).mp hb'
  obtain ⟨hb3, hb4⟩ := (Bool.and_eq_true _ _).mp hb''
  obtain ⟨hb5, hb6⟩ := (Bool.and_eq_true _ _).mp hb4
  obtain ⟨hb7, hb8⟩ := (Bool.and_eq_true _ _).mp hb6
  obtain ⟨i, hi, rfl, hpr⟩ := srvB_nI hb1
  obtain ⟨k, hk, rfl⟩ := i8 (of_decide_eq_true hb2)
  obtain ⟨m, hm, rfl, hv⟩ := vpB_nI hb5
  have g3 := of_decide_eq_true hb3
  have g7 := of_decide_eq_true hb7
  have g8 := of_decide_eq_true hb8
  rw [nI_clamp (by omega)] at g3 g7 g8 ⊢
  rw [ln_nI hm] at g7
  have ek : ∀ q j, q < 3 ∨ 6 < q → (dlgM (okM ms) k b (nI m) (nI i)).2.1 q j = ms.2.1 q j := fun q j h => by
    unfold dlgM
    rw [aS_k (by omega), aS_k (by omega), aS_k (by omega), aS_k (by omega)]; rfl
  have e3 : ∀ j, (dlgM (okM ms) k b (nI m) (nI i)).2.1 3 j = if j = k then 1 else ms.2.1 3 j := fun j => by
    unfold dlgM
    rw [aS_k (by decide), aS_k (by decide), aS_k (by decide)]
    by_cases h : j = k
    · rw [if_pos h, h, aS_s]
    · rw [if_neg h, aS_j h]; rfl
  have e4 : ∀ j, (dlgM (okM ms) k b (nI m) (nI i)).2.1 4 j = if j = k then b else ms.2.1 4 j := fun j => by
    unfold dlgM
    rw [aS_k (by decide), aS_k (by decide)]
    by_cases h : j = k
    · rw [if_pos h, h, aS_s]
    · rw [if_neg h, aS_j h, aS_k (by decide)]; rfl
  have e5 : ∀ j, (dlgM (okM ms) k b (nI m) (nI i)).2.1 5 j = if j = k then nI m else ms.2.1 5 j := fun j => by
    unfold dlgM
    rw [aS_k (by decide)]
    by_cases h : j = k
    · rw [if_pos h, h, aS_s]
    · rw [if_neg h, aS_j h, aS_k (by decide), aS_k (by decide)]; rfl
  have e6 : ∀ j, (dlgM (okM ms) k b (nI m) (nI i)).2.1 6 j = if j = k then nI i else ms.2.1 6 j := fun j => by
    unfold dlgM
    by_cases h : j = k
    · rw [if_pos h, h, aS_s]
    · rw [if_neg h, aS_j h, aS_k (by decide), aS_k (by decide), aS_k (by decide)]; rfl
  have es : ∀ q, q ≠ 0 → (dlgM (okM ms) k b (nI m) (nI i)).1 q = ms.1 q := fun q h => okM_1 h
  have hne : pL ms i ≠ m := fun z => g8 (by rw [(Ln_nI (Tt.2.1 i hi)).1]; exact congrArg nI z)
  refine ⟨⟨ti.1, by rw [es 1 (by decide)]; exact ti.2⟩, Tr_del Tt hi hk g3 hm hv ((ownE_iff Tt hm).mp g7) hne e3 e4 e5 e6, bb.sub (fun j _ => ek 8 j (by omega)) (fun j _ => ek 7 j (by omega)) (fun j _ h => ?_) (fun j _ h => ?_) rfl, cc.to (fun q j h1 h2 => ek q j (by omega)), e'.to (fun j => ek 26 j (by omega)) (fun w _ h => by rw [ek 14 w (by omega)]; exact h), d.to (es 1 (by decide)) (es 25 (by decide)) (fun q j h1 h2 => ek q j (by omega)) (fun s _ h => by rw [ek 14 s (by omega)] at h; exact h), f.to (es 28 (by decide)) (es 2 (by decide)) (fun q j h => ek q j (by omega)), gg.to (es 36 (by decide)) (fun j => ek 37 j (by omega))⟩
  · unfold liveE at h ⊢
    rw [es 1 (by decide), ek 12 j (by omega)] at h
    exact h
  · rw [e3] at h
    by_cases ej : j = k
    · rw [if_pos ej] at h; exact absurd h (by decide)
    · rw [if_neg ej] at h; exact h
theorem RI.prf (r : RI ms n np M t) {s c : Nat} {b l : Int32} (hs : s < 8) (hp : ¬ ms.2.1 14 s = -1) (hc : c < 4) (hl : Ln l) : RI (prfM ms s c b l) n np M t := by
  have e0 : ∀ k j, k ≠ 15 → k ≠ 16 → k ≠ 17 → (prfM ms s c b l).2.1 k j = ms.2.1 k j := fun k j h1 h2 h3 => by
    unfold prfM
    rw [aS_k h1, aS_k h3, aS_k h2]; rfl
  obtain ⟨c1, c2, c3, c4⟩ := r.2.2.2.1
  refine r.st (fun k hk => okM_1 hk) rfl (fun k j h _ _ => e0 k j (by omega) (by omega) (by omega)) ⟨fun s' hs' => ?_, fun k hk => ?_, fun s' hs' => by rw [e0 14 s' (by decide) (by decide) (by decide)]; exact c3 s' hs', fun s' hs' hh => ?_⟩ (r.2.2.2.2.1.to (fun j => e0 26 j (by decide) (by decide) (by decide)) (fun w hw hh z => hh (by rw [e0 14 w (by decide) (by decide) (by decide)] at z; exact z))) (fun s' _ h => by rw [e0 14 s' (by decide) (by decide) (by decide)] at h; exact h)
  · unfold prfM
    by_cases e : s' = s
    · rw [e, aS_s]; exact ⟨c + 1, rfl, by omega⟩
    · rw [aS_j e, aS_k (by decide), aS_k (by decide)]; exact c1 s' hs'
  · unfold prfM
    rw [aS_k (by decide)]
    by_cases e : k = 4 * s + c
    · rw [e, aS_s]; exact hl
    · rw [aS_j e, aS_k (by decide)]; exact c2 k hk
  · rw [e0 14 s' (by decide) (by decide) (by decide)] at hh
    have hne : s' ≠ s := fun z => hp (by rw [← z]; exact hh)
    obtain ⟨q1, q2⟩ := c4 s' hs' hh
    rw [e0 18 s' (by decide) (by decide) (by decide)]
    refine ⟨?_, q2⟩
    unfold prfM
    rw [aS_j hne, aS_k (by decide), aS_k (by decide)]; exact q1
theorem RI.mov (r : RI ms n np M t) {i p0 pl : Nat} (hi : i < 8) (hp : ¬ ms.2.1 14 i = -1) (hpl : pl < 16) : RI (aS (wntM (okM ms) p0 (nI i)) 14 i (nI pl)) n np M t := by
  have e0 : ∀ k j, k ≠ 14 → k ≠ 26 → k ≠ 27 → (aS (wntM (okM ms) p0 (nI i)) 14 i (nI pl)).2.1 k j = ms.2.1 k j := fun k j h h2 h3 => by
    rw [aS_k h]; unfold wntM; rw [aS_k h3, aS_k h2]; rfl
  have e1 : ∀ s, s ≠ i → (aS (wntM (okM ms) p0 (nI i)) 14 i (nI pl)).2.1 14 s = ms.2.1 14 s := fun s h => by rw [aS_j h]; unfold wntM; rw [aS_k (by decide), aS_k (by decide)]; rfl
  have e2 : (aS (wntM (okM ms) p0 (nI i)) 14 i (nI pl)).2.1 14 i = nI pl := aS_s
  have e26 : ∀ j, (aS (wntM (okM ms) p0 (nI i)) 14 i (nI pl)).2.1 26 j = if j = p0 then nI i else ms.2.1 26 j := fun j => by
    rw [aS_k (by decide)]; unfold wntM; rw [aS_k (by decide)]
    by_cases h : j = p0
    · rw [if_pos h, h, aS_s]
    · rw [if_neg h, aS_j h]; rfl
  have e14 : ∀ s, s < 8 → (aS (wntM (okM ms) p0 (nI i)) 14 i (nI pl)).2.1 14 s = -1 → ms.2.1 14 s = -1 := fun s _ hh => by
    by_cases es : s = i
    · rw [es, e2] at hh; exact absurd hh (nI_ne_m1 (by omega))
    · rw [e1 s es] at hh; exact hh
  obtain ⟨c1, c2, c3, c4⟩ := r.2.2.2.1
  have eg := r.2.2.2.2.1
  refine r.st (fun k hk => okM_1 hk) rfl (fun k j h h2 h3 => e0 k j (by omega) h2 h3) ⟨fun s hs => by rw [e0 15 s (by decide) (by decide) (by decide)]; exact c1 s hs, fun k hk => by rw [e0 17 k (by decide) (by decide) (by decide)]; exact c2 k hk, fun s hs => ?_, fun s hs hh => by rw [e0 15 s (by decide) (by decide) (by decide), e0 18 s (by decide) (by decide) (by decide)]; exact c4 s hs (e14 s hs hh)⟩ (fun p hp' => ?_) e14
  · by_cases es : s = i
    · rw [es, e2]; exact Or.inr ⟨pl, hpl, rfl⟩
    · rw [e1 s es]; exact c3 s hs
  · rw [e26]
    by_cases ep : p = p0
    · rw [if_pos ep]
      exact Or.inr ⟨i, hi, rfl, by rw [e2]; exact nI_ne_m1 (by omega)⟩
    · rw [if_neg ep]
      rcases eg p hp' with h | ⟨w, w1, w2, w3⟩
      · exact Or.inl h
      · exact Or.inr ⟨w, w1, w2, fun z => w3 (e14 w w1 z)⟩
theorem RI.rgs {s np M t : Nat} (hs : s < 8) : ∀ (c i : Nat) (q : MS × Nat) (n : Nat), RI q.1 n np M t → ¬ q.1.2.1 14 s = -1 → ∃ n', RI (fo (stR s) i c q).1 n' np M t ∧ Phi (fo (stR s) i c q).1 n' np ≤ Phi q.1 n np + 2 * c
  | 0, i, q, n, r, _ => ⟨n, r, by show Phi q.1 n np ≤ _; omega⟩
  | c + 1, i, q, n, r, hp => by
    show ∃ n', RI (fo (stR s) (i + 1) c (stR s i q)).1 n' np M t ∧ Phi (fo (stR s) (i + 1) c (stR s i q)).1 n' np ≤ _
    unfold stR
    cases ho : ownE q.1 (q.1.2.1 16 i) (ln (q.1.2.1 17 i)) with
    | none =>
      obtain ⟨n', h1, h2⟩ := RI.rgs hs c (i + 1) q n r hp
      exact ⟨n', h1, by unfold stR at h2; show Phi (fo (stR s) (i + 1) c q).1 n' np ≤ _; unfold stR; omega⟩
    | some w =>
      have gg := r.2.2.2.2.2.2.2
      have hn : (q.1.1 36).toNatClampNeg = n := by rw [gg.2.1, nI_clamp (by have := gg.1; omega)]
      obtain ⟨c1, c2, c3, c4⟩ := r.2.2.2.1
      have e0 : ∀ k j, k ≠ 18 → (aS q.1 18 s (q.1.2.1 18 s + 1)).2.1 k j = q.1.2.1 k j := fun k j h => aS_k h
      have r1 : RI (aS q.1 18 s (q.1.2.1 18 s + 1)) n np M t := by
        refine r.st (fun _ _ => rfl) rfl (fun k j h _ _ => e0 k j (by omega)) ⟨fun s' hs' => by rw [e0 15 s' (by decide)]; exact c1 s' hs', fun k hk => by rw [e0 17 k (by decide)]; exact c2 k hk, fun s' hs' => by rw [e0 14 s' (by decide)]; exact c3 s' hs', fun s' hs' hh => ?_⟩ (r.2.2.2.2.1.to (fun j => e0 26 j (by decide)) (fun w _ hh => by rw [e0 14 w (by decide)]; exact hh)) (fun s' _ h => by rw [e0 14 s' (by decide)] at h; exact h)
        rw [e0 14 s' (by decide)] at hh
        have hne : s' ≠ s := fun z => hp (by rw [← z]; exact hh)
        rw [e0 15 s' (by decide), aS_j hne]
        exact c4 s' hs' hh
      have pe : Phi (aS q.1 18 s (q.1.2.1 18 s + 1)) n np = Phi q.1 n np := Phi_congr (fun j => e0 37 j (by decide)) (fun j => e0 34 j (by decide))
      have hp1 : ¬ (aS q.1 18 s (q.1.2.1 18 s + 1)).2.1 14 s = -1 := by rw [e0 14 s (by decide)]; exact hp
      generalize aS q.1 18 s (q.1.2.1 18 s + 1) = m1 at r1 pe hp1
      have step : ∀ f : Nat → Int32, f 6 = 0 → ∀ v, ∃ n', RI (fo (stR s) (i + 1) c (postM m1 n f, v)).1 n' np M t ∧ Phi (fo (stR s) (i + 1) c (postM m1 n f, v)).1 n' np ≤ Phi q.1 n np + 2 * (c + 1) := by
        intro f hf v
        have r2 : RI (postM m1 n f) (postN n) np M t := r1.post ⟨Or.inl hf, fun z => absurd (hf.symm.trans z) (by decide)⟩
        have p2 := Phi_post (ms := m1) (np := np) (f := f) gg.1
        have e2 : phi (f 6) = 2 := by rw [hf]; rfl
        obtain ⟨n', h1, h2⟩ := RI.rgs hs c (i + 1) (postM m1 n f, v) (postN n) r2 (by show ¬ (postM m1 n f).2.1 14 s = -1; rw [postM_k (by decide)]; exact hp1)
        exact ⟨n', h1, by have h2' : _ ≤ Phi (postM m1 n f) (postN n) np + 2 * c := h2; omega⟩
      dsimp only
      rw [hn]
      exact step _ rfl _
theorem RI.fge (r : RI ms n np M t) {k b : Nat} {v : Int32} (hb : b < 6) : RI (aS (okM ms) 37 (8 * k + b) v) n np M t ∧ Phi (aS (okM ms) 37 (8 * k + b) v) n np = Phi ms n np := by
  obtain ⟨ti, Tt, bb, c, e', d, f, gg⟩ := r
  have e0 : ∀ q j, q ≠ 37 → (aS (okM ms) 37 (8 * k + b) v).2.1 q j = ms.2.1 q j := fun q j h => aS_k h
  have e1 : ∀ q, q ≠ 0 → (aS (okM ms) 37 (8 * k + b) v).1 q = ms.1 q := fun q h => okM_1 h
  have e37 : ∀ q, (aS (okM ms) 37 (8 * k + b) v).2.1 37 (8 * q + 6) = ms.2.1 37 (8 * q + 6) ∧ (aS (okM ms) 37 (8 * k + b) v).2.1 37 (8 * q + 7) = ms.2.1 37 (8 * q + 7) := fun q => ⟨by rw [aS_j (by omega)]; rfl, by rw [aS_j (by omega)]; rfl⟩
  refine ⟨⟨⟨ti.1, by rw [e1 1 (by decide)]; exact ti.2⟩, Tr_congr (fun q j h1 h2 => e0 q j (by omega)) Tt, bb.to (e1 1 (by decide)) (fun q j h1 h2 => e0 q j (by omega)) rfl, c.to (fun q j h1 h2 => e0 q j (by omega)), e'.to (fun j => e0 26 j (by decide)) (fun w _ h => by rw [e0 14 w (by decide)]; exact h), d.to (e1 1 (by decide)) (e1 25 (by decide)) (fun q j h1 h2 => e0 q j (by omega)) (fun s _ h => by rw [e0 14 s (by decide)] at h; exact h), f.to (e1 28 (by decide)) (e1 2 (by decide)) (fun q j h => e0 q j (by omega)), ⟨gg.1, by rw [e1 36 (by decide)]; exact gg.2.1, fun q hq => by rw [(e37 q).1, (e37 q).2]; exact gg.2.2 q hq⟩⟩, ?_⟩
  unfold Phi
  rw [phP_congr (fun j => e0 34 j (by decide))]
  have : phM (aS (okM ms) 37 (8 * k + b) v) n = phM ms n := sm_congr n 0 (fun j _ _ => by rw [(e37 j).1])
  omega
theorem phi_le (k : Int32) : phi k ≤ 3 := by
  unfold phi
  split
  · omega
  · split
    · omega
    · split <;> omega
theorem RI.rpt (r : RI ms n np M t) {k : Nat} (hk : k < n) : RI (postM (okM ms) n (fun j => ms.2.1 37 (8 * k + (if j < 8 then j else 7)))) (postN n) np M t ∧ Phi (postM (okM ms) n (fun j => ms.2.1 37 (8 * k + (if j < 8 then j else 7)))) (postN n) np ≤ Phi ms n np + 3 := by
  have gg := r.2.2.2.2.2.2.2
  refine ⟨(r.cd 0).post (gg.2.2 k hk), ?_⟩
  have := Phi_post (ms := okM ms) (np := np) (f := fun j => ms.2.1 37 (8 * k + (if j < 8 then j else 7))) gg.1
  have h2 : phi (ms.2.1 37 (8 * k + (if 6 < 8 then 6 else 7))) ≤ 3 := phi_le _
  have h3 : Phi (okM ms) n np = Phi ms n np := rfl
  omega
/-- the row has one less -/
theorem RI.tk (r : RI ms n np M t) {k : Nat} (hk : k < n) : RI (takeM (okM ms) n k) (n - 1) np M t ∧ kOk ((takeM (okM ms) n k).2.1 38 6) ((takeM (okM ms) n k).2.1 38 7) ∧ Phi (takeM (okM ms) n k) (n - 1) np + phi ((takeM (okM ms) n k).2.1 38 6) = Phi ms n np := by
  obtain ⟨h1, h2⟩ := (r.cd 0).take hk
  refine ⟨h1, h2, ?_⟩
  have h3 := ph_take (ms := okM ms) (n := n) hk
  have h4 : phP (takeM (okM ms) n k) np = phP ms np := phP_congr (fun j => by rw [takeM_k (by decide) (by decide)]; rfl)
  have h5 : (takeM (okM ms) n k).2.1 38 6 = (okM ms).2.1 37 (8 * k + 6) := takeM_38 (show 6 < 8 by omega)
  have h6 : phM (okM ms) n = phM ms n := rfl
  rw [h5]
  unfold Phi
  omega
/-- a message is taken from the row, and comes -/
theorem RI.crr (r : RI ms n np M t) {k : Nat} (hk : k < n) : ∃ n' M', RI (arrM (takeM (okM ms) n k) (n - 1) np) n' np M' t ∧ Phi (arrM (takeM (okM ms) n k) (n - 1) np) n' np + cz ((takeM (okM ms) n k).2.1 38 6) ≤ Phi ms n np := by
  obtain ⟨h1, h2, h3⟩ := r.tk hk
  obtain ⟨n', M', h4, h5⟩ := h1.arr h2
  exact ⟨n', M', h4, by omega⟩
end CLK
end
/-! from 98j.send -/
section
/-! WHAT IS KNOWN OF THE REFERENCE: send; the start -/
section SNK
variable {ms ms' : MS} {n np M t : Nat}
theorem RI.nw (r : RI ms n np M t) (hlt : np < 200) (e1 : ∀ k, k ≠ 0 → k ≠ 2 → k ≠ 28 → ms'.1 k = ms.1 k) (e28 : ms'.1 28 = nI (np + 1)) (e : ∀ k j, k < 29 ∨ 35 < k → ms'.2.1 k j = ms.2.1 k j) (ej : ∀ k j, j ≠ np + 1 → ms'.2.1 k j = ms.2.1 k j) (eL : ms'.2.2 = ms.2.2) (h34 : ms'.2.1 34 (np + 1) = 0) (hc : (¬ ms'.2.1 31 (np + 1) = 0 ∧ ms'.1 2 = ms.1 2) ∨ (ms'.2.1 31 (np + 1) = 0 ∧ ms'.1 2 = drw (ms.1 2) ∧ ms'.2.1 32 (np + 1) = drw (ms.1 2))) : RI ms' n (np + 1) M t ∧ Phi ms' n (np + 1) = Phi ms n np + 27 := by
  obtain ⟨ti, Tt, b, c, e', d, f, gg⟩ := r
  refine ⟨⟨⟨ti.1, by rw [e1 1 (by decide) (by decide) (by decide)]; exact ti.2⟩, Tr_congr (fun q j h1 h2 => e q j (by omega)) Tt, b.to (e1 1 (by decide) (by decide) (by decide)) (fun q j h1 h2 => e q j (by omega)) eL, c.to (fun q j h1 h2 => e q j (by omega)), e'.to (fun j => e 26 j (by omega)) (fun w _ h => by rw [e 14 w (by omega)]; exact h), d.to (e1 1 (by decide) (by decide) (by decide)) (e1 25 (by decide) (by decide) (by decide)) (fun q j h1 h2 => e q j (by omega)) (fun s _ h => by rw [e 14 s (by omega)] at h; exact h), f.new hlt e28 (fun k j _ hj => ej k j hj) h34 hc, gg.to (e1 36 (by decide) (by decide) (by decide)) (fun j => e 37 j (by omega))⟩, ?_⟩
  unfold Phi
  rw [phM_congr (fun j => e 37 j (by omega))]
  have hs : phP ms' (np + 1) = sm (fun i => 3 * (9 - stp_ ms' i)) 1 np + 3 * (9 - stp_ ms' (1 + np)) := sm_snoc np 1
  have h0 : stp_ ms' (1 + np) = 0 := by
    unfold stp_
    rw [Nat.add_comm 1 np, h34]; rfl
  have h1 : sm (fun i => 3 * (9 - stp_ ms' i)) 1 np = phP ms np := sm_congr np 1 (fun j _ hj => by show 3 * (9 - stp_ ms' j) = 3 * (9 - stp_ ms j); unfold stp_; rw [ej 34 j (by omega)])
  rw [hs, h0, h1]
  omega
theorem RI.snd (r : RI ms n np M t) (hlt : np < 200) {s : Nat} {ep : Int32} (hs : s < 8) : ∃ n', RI (sendM ms n s np ep) n' (np + 1) M t ∧ Phi (sendM ms n s np ep) n' (np + 1) ≤ Phi ms n np + 30 := by
  obtain ⟨-, -, -, -, -, d, f, gg⟩ := id r
  have f0 := f.2.2.1 (np + 1) (by omega) (by omega)
  generalize hm : startM ms (nI s) ep np = m1
  have k1 : ∀ k j, k ≠ 29 → k ≠ 30 → k ≠ 33 → m1.2.1 k j = ms.2.1 k j := fun k j h1 h2 h3 => by
    rw [← hm]; unfold startM; rw [aS_k h3, aS_k h2, aS_k h1]; rfl
  have j1 : ∀ k j, j ≠ np + 1 → m1.2.1 k j = ms.2.1 k j := fun k j h => by
    rw [← hm]; unfold startM; rw [aS_j h, aS_j h, aS_j h]; rfl
  have s1 : ∀ k, k ≠ 0 → k ≠ 28 → m1.1 k = ms.1 k := fun k h0 h => by
    rw [← hm]; show (k_pI (okM ms) 28 (nI (np + 1))).1 k = _; rw [pI_n1 h, okM_1 h0]
  have s28 : m1.1 28 = nI (np + 1) := by rw [← hm]; show (k_pI (okM ms) 28 (nI (np + 1))).1 28 = _; rw [pI_s1]
  have L1 : m1.2.2 = ms.2.2 := by rw [← hm]; rfl
  unfold sendM
  rw [hm]
  have one : ∀ v : Int32, ¬ v = 0 → RI (aS m1 31 (np + 1) v) n (np + 1) M t ∧ Phi (aS m1 31 (np + 1) v) n (np + 1) = Phi ms n np + 27 := fun v hv =>
    r.nw hlt (fun k h0 _ h => s1 k h0 h) s28 (fun k j h => by rw [aS_k (by omega), k1 k j (by omega) (by omega) (by omega)]) (fun k j h => by rw [aS_j h, j1 k j h]) L1 (by rw [aS_k (by decide), k1 34 _ (by decide) (by decide) (by decide)]; exact f0.2.2.1) (Or.inl ⟨by rw [aS_s]; exact hv, s1 2 (by decide) (by decide)⟩)
  by_cases hb : hasB m1 s ep = true
  · rw [if_pos hb]
    obtain ⟨q1, q2⟩ := r.nw (ms' := dlvM m1 (np + 1) (nI s)) hlt (fun k h0 _ h => by rw [dlvM_1]; exact s1 k h0 h) (by rw [dlvM_1]; exact s28) (fun k j h => by rw [dlvM_k (by omega) (by omega) (by omega), k1 k j (by omega) (by omega) (by omega)]) (fun k j h => by rw [dlv_j h, j1 k j h]) (by rw [dlv_L]; exact L1) (by rw [dlvM_k (by decide) (by decide) (by decide), k1 34 _ (by decide) (by decide) (by decide)]; exact f0.2.2.1) (Or.inl ⟨by rw [dlv_31]; decide, by rw [dlvM_1]; exact s1 2 (by decide) (by decide)⟩)
    exact ⟨n, q1, by omega⟩
  · rw [if_neg hb]
    cases hf : ntF m1 s ep with
    | none =>
      show ∃ n', RI (askM m1 n (np + 1) 0) n' (np + 1) M t ∧ Phi (askM m1 n (np + 1) 0) n' (np + 1) ≤ _
      unfold askM
      generalize hm2 : aS (aS (k_pI m1 2 (drw (m1.1 2))) 31 (np + 1) 0) 32 (np + 1) (drw (m1.1 2)) = m2
      have k2 : ∀ q j, q ≠ 31 → q ≠ 32 → m2.2.1 q j = m1.2.1 q j := fun q j a b => by rw [← hm2, aS_k b, aS_k a]; rfl
      have j2 : ∀ q j, j ≠ np + 1 → m2.2.1 q j = m1.2.1 q j := fun q j a => by rw [← hm2, aS_j a, aS_j a]; rfl
      have s2 : ∀ q, q ≠ 2 → m2.1 q = m1.1 q := fun q h => by rw [← hm2]; show (k_pI m1 2 _).1 q = _; rw [pI_n1 h]
      have d2 : m2.1 2 = drw (m1.1 2) := by rw [← hm2]; show (k_pI m1 2 (drw (m1.1 2))).1 2 = _; rw [pI_s1]
      have e31 : m2.2.1 31 (np + 1) = 0 := by rw [← hm2, aS_k (by decide), aS_s]
      have e32 : m2.2.1 32 (np + 1) = drw (m1.1 2) := by rw [← hm2, aS_s]
      have L2 : m2.2.2 = m1.2.2 := by rw [← hm2]; rfl
      have e2 : m1.1 2 = ms.1 2 := s1 2 (by decide) (by decide)
      obtain ⟨q1, q2⟩ := r.nw (ms' := m2) hlt (fun k h0 h2 h => by rw [s2 k h2]; exact s1 k h0 h) (by rw [s2 28 (by decide)]; exact s28) (fun k j h => by rw [k2 k j (by omega) (by omega), k1 k j (by omega) (by omega) (by omega)]) (fun k j h => by rw [j2 k j h, j1 k j h]) (by rw [L2]; exact L1) (by rw [k2 34 _ (by decide) (by decide), k1 34 _ (by decide) (by decide) (by decide)]; exact f0.2.2.1) (Or.inr ⟨e31, by rw [d2, e2], by rw [e32, e2]⟩)
      refine ⟨postN n, q1.post ⟨Or.inr (Or.inl rfl), fun h => absurd (show (1 : Int32) = 3 from h) (by decide)⟩, ?_⟩
      have := Phi_post (ms := m2) (np := np + 1) (f := mG (m1.2.1 29 (np + 1)) (drw (m1.1 2)) (m1.2.1 30 (np + 1)) 0 0 0 1 0) gg.1
      have e3 : phi (mG (m1.2.1 29 (np + 1)) (drw (m1.1 2)) (m1.2.1 30 (np + 1)) 0 0 0 1 0 6) = 3 := rfl
      omega
    | some k =>
      show ∃ n', RI (folM m1 n (np + 1) (m1.2.1 21 k)) n' (np + 1) M t ∧ Phi (folM m1 n (np + 1) (m1.2.1 21 k)) n' (np + 1) ≤ _
      unfold ntF at hf
      obtain ⟨g1, g2, g3, -⟩ := ff_some.mp hf
      have hlv : liveN ms k = true := by
        have := ((Bool.and_eq_true _ _).mp g3).1
        unfold liveN at this ⊢
        rw [s1 1 (by decide) (by decide), k1 23 k (by decide) (by decide) (by decide)] at this
        exact this
      have h21 := (d.2.2.2.2.1 k (by omega) hlv).2.2
      rw [k1 21 k (by decide) (by decide) (by decide)]
      unfold folM
      by_cases hp : ms.2.1 21 k = -1
      · rw [if_pos hp]
        obtain ⟨q1, q2⟩ := one 3 (by decide)
        exact ⟨n, q1, by omega⟩
      · rw [if_neg hp]
        obtain ⟨q1, q2⟩ := one 1 (by decide)
        obtain ⟨q, q3, q4⟩ := h21.resolve_left hp
        refine ⟨postN n, q1.post ⟨Or.inr (Or.inr (Or.inr (Or.inl rfl))), fun _ => ⟨q, q3, q4⟩⟩, ?_⟩
        have := Phi_post (ms := aS m1 31 (np + 1) 1) (np := np + 1) (f := mG (m1.2.1 29 (np + 1)) (nI (np + 1)) (m1.2.1 30 (np + 1)) 0 0 0 3 (ms.2.1 21 k)) gg.1
        have e3 : phi (mG (m1.2.1 29 (np + 1)) (nI (np + 1)) (m1.2.1 30 (np + 1)) 0 0 0 3 (ms.2.1 21 k) 6) = 0 := rfl
        omega
theorem m0_p : ∀ i, i < 201 → ms0.2.1 31 i = 0 ∧ ms0.2.1 32 i = 0 ∧ ms0.2.1 34 i = 0 ∧ ms0.2.1 35 i = 0 := by decide +kernel
theorem m0_18 : ∀ i, i < 8 → ms0.2.1 18 i = 0 := by decide +kernel
theorem m0_lE {k : Nat} (hk : k < 128) : liveE ms0 k = false := by
  unfold liveE
  rw [m0_12 k hk, m0_1 1 (by decide)]
  exact decide_eq_false (by decide)
theorem m0_lN {k : Nat} (hk : k < 48) : liveN ms0 k = false := by
  unfold liveN
  rw [m0_23 k hk, m0_1 1 (by decide)]
  exact decide_eq_false (by decide)
theorem RI_0 : RI ms0 0 0 0 0 := by
  refine ⟨⟨by decide, m0_1 1 (by decide)⟩, Tr_0, ⟨fun k hk => by rw [m0_8 k hk]; exact Ln_0, fun i hi k k' h1 h2 h3 h4 l1 => ?_, fun i hi _ => ⟨fun k h1 h2 => m0_lE (by omega), fun s hs => m0_L _ (by omega)⟩⟩, ⟨fun s hs => ⟨0, m0_15 s hs, by decide⟩, fun k hk => by rw [m0_17 k hk]; exact Ln_0, fun s hs => Or.inl (m0_14 s hs), fun s hs _ => ⟨m0_15 s hs, m0_18 s hs⟩⟩, fun p hp => Or.inl (m0_26 p hp), ⟨fun k hk => by rw [m0_20 k hk]; exact Ln_0, m0_1 25 (by decide), fun s hs k k' h1 h2 h3 h4 l1 => ?_, fun s hs k k' h1 h2 h3 h4 l1 => ?_, fun k hk l1 => ?_, fun s hs _ k h1 h2 => m0_lN (by omega)⟩, ⟨by decide, m0_1 28 (by decide), fun i _ h => m0_p i (by omega), fun i h1 h2 => absurd h2 (by omega), ⟨0, fun _ => 0, m0_1 2 (by decide), Nat.le_refl _, fun i h1 h2 => absurd h2 (by omega), fun i j h1 h2 => absurd h2 (by omega)⟩, Nat.le_refl _⟩, ⟨by decide, m0_1 36 (by decide), fun q hq => absurd hq (Nat.not_lt_zero q)⟩⟩
  · rw [m0_lE (by omega)] at l1; cases l1
  · rw [m0_lN (by omega)] at l1; cases l1
  · rw [m0_lN (by omega)] at l1; cases l1
  · rw [m0_lN hk] at l1; cases l1
theorem Phi_0 : Phi ms0 0 0 = 0 := rfl
end SNK
end
