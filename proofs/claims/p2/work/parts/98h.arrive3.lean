/-! WHAT IS KNOWN OF THE REFERENCE: a note is made, a REPLY comes, a message comes -/
section AR3
variable {ms ms' : MS} {n np M t : Nat}
theorem mnM_is {s : Nat} {b l pl v : Int32} : ∃ tt, mnM ms s b l pl v = notM (clrM ms s b (ln l)) tt b l pl v ∧ 6 * s ≤ tt ∧ tt < 6 * s + 6 := by
  obtain ⟨tt, t1, t2, t3, -⟩ := fo_pk (clrM ms s b (ln l)) s
  refine ⟨tt, ?_, t2, t3⟩
  unfold mnM
  rw [t1]
theorem GD.mk (g : GD ms M t) (ht : ms.1 1 = nI t) (ht2 : t ≤ 1000000) (hM : M ≤ 200) {s : Nat} (hs : s < 8) (hp : ¬ ms.2.1 14 s = -1) {b l pl v : Int32} (hl : Ln l) (hpl : pl = -1 ∨ ∃ q, q < 16 ∧ pl = nI q) : GD (mnM ms s b l pl v) (M + 1) t := by
  obtain ⟨g1, g2, g3, g4, g5, g6⟩ := g
  obtain ⟨tt, t1, t2, t3⟩ := mnM_is (ms := ms) (s := s) (b := b) (l := l) (pl := pl) (v := v)
  rw [t1]
  have hT := notM_t (ms := clrM ms s b (ln l)) (t := tt) (b := b) (l := l) (pl := pl) (v := v)
  generalize hN : notM (clrM ms s b (ln l)) tt b l pl v = N at hT ⊢
  have e19 : N.2.1 19 tt = b := congrArg (fun q : N5 × Int32 => q.1.1) hT
  have e20 : N.2.1 20 tt = l := congrArg (fun q : N5 × Int32 => q.1.2.1) hT
  have e21 : N.2.1 21 tt = pl := congrArg (fun q : N5 × Int32 => q.1.2.2.1) hT
  have e23 : N.2.1 23 tt = nI (t + 60) := by
    have : N.2.1 23 tt = ms.1 1 + 60 := congrArg (fun q : N5 × Int32 => q.1.2.2.2.2) hT
    rw [this, ht]; exact nI_add t 60
  have e24 : N.2.1 24 tt = nI (M + 1) := by
    have : N.2.1 24 tt = ms.1 25 + 1 := congrArg (fun q : N5 × Int32 => q.2) hT
    rw [this, g2]; exact nI_c1 M
  have eN : ∀ q k, k ≠ tt → q ≠ 23 → N.2.1 q k = ms.2.1 q k := fun q k h1 h2 => by rw [← hN, notM_k (Or.inl h1), clrM_k h2]
  have e14 : ∀ k, N.2.1 14 k = ms.2.1 14 k := fun k => by rw [← hN, notM_k (Or.inr (by omega)), clrM_k (by decide)]
  have eT : N.1 1 = ms.1 1 := by rw [← hN]; show (k_pI (clrM ms s b (ln l)) 25 ((clrM ms s b (ln l)).1 25 + 1)).1 1 = _; rw [pI_n1 (by decide)]; rfl
  have e25 : N.1 25 = nI (M + 1) := by rw [← hN]; show (k_pI (clrM ms s b (ln l)) 25 ((clrM ms s b (ln l)).1 25 + 1)).1 25 = _; rw [pI_s1]; show ms.1 25 + 1 = _; rw [g2]; exact nI_c1 M
  have hln := (Ln_nI hl).2
  have hlv : ∀ k, k < 48 → k ≠ tt → liveN N k = true → liveN ms k = true ∧ N.2.1 23 k = ms.2.1 23 k ∧ (6 * s ≤ k → k < 6 * s + 6 → mtB (ms.2.1 19 k) (ln (ms.2.1 20 k)) b (ln l) = false) := by
    intro k hk hne h
    have e : N.2.1 23 k = if (6 * s ≤ k ∧ k < 6 * s + 6) ∧ mtN ms b (ln l) k = true then 0 else ms.2.1 23 k := by rw [← hN, notM_k (Or.inl hne), clrM_23]
    unfold liveN at h ⊢
    rw [eT] at h
    by_cases hc : (6 * s ≤ k ∧ k < 6 * s + 6) ∧ mtN ms b (ln l) k = true
    · rw [e, if_pos hc, ht] at h
      exact absurd (of_decide_eq_true h) (nI_pos (by omega))
    · rw [if_neg hc] at e
      rw [e] at h
      refine ⟨h, e, fun h1 h2 => bool_f (fun z => hc ⟨⟨h1, h2⟩, ?_⟩)⟩
      rw [mtN_nMt hln (g1 k hk)]
      exact z
  refine ⟨fun k hk => ?_, e25, fun s' hs' k k' h1 h2 h3 h4 l1 l2 hne => ?_, fun s' hs' k k' h1 h2 h3 h4 l1 l2 hlt => ?_, fun k hk lv => ?_, fun s' hs' h k h1 h2 => ?_⟩
  · by_cases ek : k = tt
    · rw [ek, e20]; exact hl
    · rw [eN 20 k ek (by decide)]; exact g1 k hk
  · by_cases ek : k = tt
    · have ek' : k' ≠ tt := fun z => hne (ek.trans z.symm)
      have es : s' = s := by omega
      have := (hlv k' (by omega) ek' l2).2.2 (by omega) (by omega)
      rw [ek, e19, e20, eN 19 k' ek' (by decide), eN 20 k' ek' (by decide)]
      exact bool_f (fun z => by rw [mtB_iff.mpr (mtB_iff.mp z).symm] at this; cases this)
    · by_cases ek' : k' = tt
      · have es : s' = s := by omega
        have := (hlv k (by omega) ek l1).2.2 (by omega) (by omega)
        rw [ek', e19, e20, eN 19 k ek (by decide), eN 20 k ek (by decide)]
        exact this
      · rw [eN 19 k ek (by decide), eN 20 k ek (by decide), eN 19 k' ek' (by decide), eN 20 k' ek' (by decide)]
        exact g3 s' hs' k k' h1 h2 h3 h4 (hlv k (by omega) ek l1).1 (hlv k' (by omega) ek' l2).1 hne
  · by_cases ek : k = tt
    · exfalso
      by_cases ek' : k' = tt
      · rw [ek, ek'] at hlt
        exact Int32.lt_irrefl hlt
      · obtain ⟨⟨m, m1, m2⟩, -⟩ := g5 k' (by omega) (hlv k' (by omega) ek' l2).1
        rw [ek, e24, eN 24 k' ek' (by decide), m2] at hlt
        have := (nI_ltI (a := M + 1) (b := m) (by omega) (by omega)).mp hlt
        omega
    · by_cases ek' : k' = tt
      · obtain ⟨-, ⟨e, q2, q3⟩, -⟩ := g5 k (by omega) (hlv k (by omega) ek l1).1
        rw [ek', e23, (hlv k (by omega) ek l1).2.1, q3]
        exact nI_le (by omega) (by omega)
      · rw [(hlv k (by omega) ek l1).2.1, (hlv k' (by omega) ek' l2).2.1]
        rw [eN 24 k ek (by decide), eN 24 k' ek' (by decide)] at hlt
        exact g4 s' hs' k k' h1 h2 h3 h4 (hlv k (by omega) ek l1).1 (hlv k' (by omega) ek' l2).1 hlt
  · by_cases ek : k = tt
    · rw [ek, e24, e23, e21]
      exact ⟨⟨M + 1, Nat.le_refl _, rfl⟩, ⟨t + 60, Nat.le_refl _, rfl⟩, hpl⟩
    · obtain ⟨⟨m, m1, m2⟩, q2, q3⟩ := g5 k hk (hlv k hk ek lv).1
      rw [eN 24 k ek (by decide), (hlv k hk ek lv).2.1, eN 21 k ek (by decide)]
      exact ⟨⟨m, by omega, m2⟩, q2, q3⟩
  · rw [e14] at h
    refine bool_f (fun z => ?_)
    by_cases ek : k = tt
    · have es : s' = s := by omega
      rw [es] at h
      exact hp h
    · have := g6 s' hs' h k h1 h2
      rw [(hlv k (by omega) ek z).1] at this
      cases this
theorem mnM_1q {s q : Nat} {b l pl v : Int32} (h : q ≠ 25) : (mnM ms s b l pl v).1 q = ms.1 q := by
  obtain ⟨tt, t1, -⟩ := mnM_is (ms := ms) (s := s) (b := b) (l := l) (pl := pl) (v := v)
  rw [t1]
  show (k_pI (clrM ms s b (ln l)) 25 ((clrM ms s b (ln l)).1 25 + 1)).1 q = _
  rw [pI_n1 h]; rfl
theorem mnM_L {s : Nat} {b l pl v : Int32} : (mnM ms s b l pl v).2.2 = ms.2.2 := by
  obtain ⟨tt, t1, -⟩ := mnM_is (ms := ms) (s := s) (b := b) (l := l) (pl := pl) (v := v)
  rw [t1]; rfl
/-- a note is made, and the packet waits no more -/
theorem RI.mk (r : RI ms n np M t) {s p : Nat} (hs : s < 8) (hp : ¬ ms.2.1 14 s = -1) {b l pl v w : Int32} (hl : Ln l) (hpl : pl = -1 ∨ ∃ q, q < 16 ∧ pl = nI q) (h1 : 1 ≤ p) (h2 : p ≤ np) (h31 : ms.2.1 31 p = 0) (hw : ¬ w = 0) : RI (aS (mnM ms s b l pl v) 31 p w) n np (M + 1) t ∧ Phi (aS (mnM ms s b l pl v) 31 p w) n np = Phi ms n np := by
  have hMl := r.2.2.2.2.2.2.1.M_le
  obtain ⟨ti, Tt, b', c, e', d, f, gg⟩ := r
  have ek : ∀ k j, k < 19 ∨ 24 < k → k ≠ 31 → (aS (mnM ms s b l pl v) 31 p w).2.1 k j = ms.2.1 k j := fun k j h hk => by rw [aS_k hk, mnM_k h]
  have es : ∀ q, q ≠ 25 → (aS (mnM ms s b l pl v) 31 p w).1 q = ms.1 q := fun q h => mnM_1q h
  have hd := d.mk ti.2 ti.1 hMl hs hp (b := b) (v := v) hl hpl
  refine ⟨⟨⟨ti.1, by rw [es 1 (by decide)]; exact ti.2⟩, Tr_congr (fun q j h1 h2 => ek q j (by omega) (by omega)) Tt, b'.to (es 1 (by decide)) (fun q j h1 h2 => ek q j (by omega) (by omega)) mnM_L, c.to (fun q j h1 h2 => ek q j (by omega) (by omega)), e'.to (fun j => ek 26 j (by omega) (by decide)) (fun w _ h => by rw [ek 14 w (by omega) (by decide)]; exact h), hd.to rfl rfl (fun q j h1 h2 => aS_k (by omega)) (fun s _ h => by rw [aS_k (by decide)] at h; exact h), ?_, gg.to (es 36 (by decide)) (fun j => ek 37 j (by omega) (by decide))⟩, ?_⟩
  · refine (f.off (ms' := aS (mnM ms s b l pl v) 31 p w) h1 h2 (es 28 (by decide)) (es 2 (by decide)) (fun k j hk hj => ?_) (by rw [aS_s]; exact hw) (by rw [ek 34 p (by omega) (by decide)]; exact f.s9 h1 h2)).2 h31
    rw [aS_j hj, mnM_k (by omega)]
  · unfold Phi
    rw [phM_congr (fun j => ek _ j (by omega) (by decide)), phP_congr (fun j => ek _ j (by omega) (by decide))]
theorem RI.hit (r : RI ms n np M t) {s p : Nat} (hs : s < 8) (hp : ¬ ms.2.1 14 s = -1) (h1 : 1 ≤ p) (h2 : p ≤ np) (h31 : ms.2.1 31 p = 0) (ho : okR ms p = true) (h0 : ¬ ms.2.1 38 1 = 0) : ∃ n', RI (hitM ms n s p) n' np (M + 1) t ∧ Phi (hitM ms n s p) n' np ≤ Phi ms n np := by
  unfold okR at ho
  obtain ⟨-, o2⟩ := (Bool.and_eq_true _ _).mp ho
  obtain ⟨o3, o4⟩ := (Bool.and_eq_true _ _).mp o2
  obtain ⟨-, o5⟩ := (Bool.and_eq_true _ _).mp o4
  obtain ⟨m, hm, hl, -⟩ := vpB_nI o3
  unfold hitM
  by_cases hc : ms.2.1 38 1 = 2
  · rw [if_pos hc]
    unfold folM
    rw [if_pos rfl]
    obtain ⟨q1, q2⟩ := r.mk (s := s) (b := ms.2.1 38 2) (l := ms.2.1 38 3) (pl := -1) (v := 0) (w := 3) hs hp ⟨m, hm, hl⟩ (Or.inl rfl) h1 h2 h31 (by decide)
    exact ⟨n, q1, by omega⟩
  · rw [if_neg hc]
    have hv : ∃ q, q < 16 ∧ ms.2.1 38 4 = nI q := by
      unfold valB at o5
      rw [if_neg h0, if_neg hc] at o5
      have hh := of_decide_eq_true o5
      obtain ⟨j, j1, j2⟩ := nI_of2 (M := 15) (n := 15) (by decide) (Int32.not_lt.mpr hh.1) hh.2
      exact ⟨j, by omega, j2⟩
    unfold folM
    have hne : ¬ ms.2.1 38 4 = -1 := by
      obtain ⟨q, q1, q2⟩ := hv
      rw [q2]
      exact nI_ne_m1 (by omega)
    rw [if_neg hne]
    obtain ⟨q1, q2⟩ := r.mk (s := s) (b := ms.2.1 38 2) (l := ms.2.1 38 3) (pl := ms.2.1 38 4) (v := ms.2.1 38 5) (w := 1) hs hp ⟨m, hm, hl⟩ (Or.inr hv) h1 h2 h31 (by decide)
    generalize aS (mnM ms s (ms.2.1 38 2) (ms.2.1 38 3) (ms.2.1 38 4) (ms.2.1 38 5)) 31 p 1 = m2 at q1 q2 ⊢
    generalize (mnM ms s (ms.2.1 38 2) (ms.2.1 38 3) (ms.2.1 38 4) (ms.2.1 38 5)).2.1 29 p = w1
    generalize (mnM ms s (ms.2.1 38 2) (ms.2.1 38 3) (ms.2.1 38 4) (ms.2.1 38 5)).2.1 30 p = w2
    refine ⟨postN n, q1.post ⟨Or.inr (Or.inr (Or.inr (Or.inl rfl))), fun _ => hv⟩, ?_⟩
    have := Phi_post (ms := m2) (np := np) (f := mG w1 (nI p) w2 0 0 0 3 (ms.2.1 38 4)) r.2.2.2.2.2.2.2.1
    have e3 : phi (mG w1 (nI p) w2 0 0 0 3 (ms.2.1 38 4) 6) = 0 := rfl
    omega
theorem RI.rpl (r : RI ms n np M t) {s : Nat} (hs : s < 8) (hp : ¬ ms.2.1 14 s = -1) : ∃ n' M', RI (rplM ms n s (wtF ms (nI s) np)) n' np M' t ∧ Phi (rplM ms n s (wtF ms (nI s) np)) n' np ≤ Phi ms n np := by
  have ig : ∃ n' M', RI (ignM ms) n' np M' t ∧ Phi (ignM ms) n' np ≤ Phi ms n np := ⟨n, M, r.num rfl (fun k hk => pI_n1 (by omega)), Nat.le_refl _⟩
  unfold wtF
  rcases lst_fo (ms := ms) (nI s) np 1 none with ⟨j, h1, h2, h3, h4⟩ | ⟨h1, h2⟩
  · rw [h4]
    show ∃ n' M', RI (if okR ms j = true then (if ms.2.1 38 1 = 0 then rfrM ms n j else hitM ms n s j) else ignM ms) n' np M' t ∧ Phi (if okR ms j = true then (if ms.2.1 38 1 = 0 then rfrM ms n j else hitM ms n s j) else ignM ms) n' np ≤ Phi ms n np
    unfold lstB at h3
    have h31 := of_decide_eq_true ((Bool.and_eq_true _ _).mp ((Bool.and_eq_true _ _).mp h3).2).1
    by_cases ho : okR ms j = true
    · rw [if_pos ho]
      by_cases h0 : ms.2.1 38 1 = 0
      · rw [if_pos h0]
        obtain ⟨n', q1, q2, -⟩ := r.rfr h1 (by omega) h31
        exact ⟨n', M, q1, q2⟩
      · rw [if_neg h0]
        obtain ⟨n', q1, q2⟩ := r.hit hs hp h1 (by omega) h31 ho h0
        exact ⟨n', M + 1, q1, q2⟩
    · rw [if_neg ho]
      exact ig
  · rw [h2]
    exact ig
/-- a message comes -/
theorem RI.arr (r : RI ms n np M t) (hk : kOk (ms.2.1 38 6) (ms.2.1 38 7)) : ∃ n' M', RI (arrM ms n np) n' np M' t ∧ Phi (arrM ms n np) n' np + cz (ms.2.1 38 6) ≤ Phi ms n np + phi (ms.2.1 38 6) := by
  have same : cz (ms.2.1 38 6) ≤ phi (ms.2.1 38 6) → ∃ n' M', RI ms n' np M' t ∧ Phi ms n' np + cz (ms.2.1 38 6) ≤ Phi ms n np + phi (ms.2.1 38 6) := fun h => ⟨n, M, r, by omega⟩
  unfold arrM
  rcases hk.1 with h | h | h | h | h
  · have e1 : cz (ms.2.1 38 6) = 2 := by rw [h]; rfl
    have e2 : phi (ms.2.1 38 6) = 2 := by rw [h]; rfl
    rw [if_pos h]
    by_cases hb : srvB ms (ms.2.1 38 7) = true
    · rw [if_pos hb]
      obtain ⟨i, hi, e, hpr⟩ := srvB_nI hb
      rw [e, nI_clamp (by omega)]
      obtain ⟨q1, q2, -⟩ := r.reg hi hpr
      exact ⟨n, M, q1, by omega⟩
    · rw [if_neg hb]; exact same (by omega)
  · have e1 : cz (ms.2.1 38 6) = 1 := by rw [h]; rfl
    have e2 : phi (ms.2.1 38 6) = 3 := by rw [h]; rfl
    rw [if_neg (by rw [h]; decide), if_pos h]
    by_cases hb : srvB ms (ms.2.1 38 7) = true
    · rw [if_pos hb]
      obtain ⟨n', q1, q2⟩ := r.req (sv := (ms.2.1 38 7).toNatClampNeg)
      exact ⟨n', M, q1, by omega⟩
    · rw [if_neg hb]; exact same (by omega)
  · have e1 : cz (ms.2.1 38 6) = 2 := by rw [h]; rfl
    have e2 : phi (ms.2.1 38 6) = 2 := by rw [h]; rfl
    rw [if_neg (by rw [h]; decide), if_neg (by rw [h]; decide), if_pos h]
    by_cases hb : siteB ms (ms.2.1 38 7) = true
    · rw [if_pos hb]
      obtain ⟨s, hs, e, hpr⟩ := siteB_nI hb
      rw [e, nI_clamp (by omega)]
      obtain ⟨n', M', q1, q2⟩ := r.rpl hs hpr
      exact ⟨n', M', q1, by omega⟩
    · rw [if_neg hb]; exact same (by omega)
  · have e1 : cz (ms.2.1 38 6) = 0 := by rw [h]; rfl
    have e2 : phi (ms.2.1 38 6) = 0 := by rw [h]; rfl
    rw [if_neg (by rw [h]; decide), if_neg (by rw [h]; decide), if_neg (by rw [h]; decide), if_pos h]
    obtain ⟨pl, p1, p2⟩ := hk.2 h
    rw [p2, nI_clamp (by omega)]
    obtain ⟨n', q1, q2⟩ := r.came p1
    exact ⟨n', M, q1, by omega⟩
  · have e1 : cz (ms.2.1 38 6) = 0 := by rw [h]; rfl
    have e2 : phi (ms.2.1 38 6) = 0 := by rw [h]; rfl
    rw [if_neg (by rw [h]; decide), if_neg (by rw [h]; decide), if_neg (by rw [h]; decide), if_neg (by rw [h]; decide)]
    by_cases hb : siteB ms (ms.2.1 38 7) = true
    · rw [if_pos hb]
      obtain ⟨q1, q2⟩ := r.fgt (s := (ms.2.1 38 7).toNatClampNeg) (ep := ms.2.1 38 0) (pl := ms.2.1 38 1)
      exact ⟨n, M, q1, by omega⟩
    · rw [if_neg hb]; exact same (by omega)
end AR3
