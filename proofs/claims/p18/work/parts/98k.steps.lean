/-! from 98k.run -/
section
/-! CALLS: run -/
section RUN
variable {fx : Bool} {σ σ' : HS} {x : Nat} {G : Nat → Nat → Nat} {ms ms' : MS} {n np M t : Nat}
theorem lcV_mono {cd : Nat → Option Int32} {F9 : Option (Except Nat Unit × HS)} {F10 : HS → Option (Unit × HS)} {a mo : Option Nat} {K K' : HS → Prop} (h : lcV cd F9 F10 a mo σ K) (hK : ∀ τ, K τ → K' τ) : lcV cd F9 F10 a mo σ K' := by
  obtain ⟨q, r, σ1, h1, h2, h3, h4⟩ := h
  refine ⟨q, r, σ1, h1, h2, h3, fun k σ2 h => ?_⟩
  obtain ⟨q2, a1, σ3, a2, q3, a3, σ4, a4, a5⟩ := h4 k σ2 h
  exact ⟨q2, a1, σ3, a2, q3, a3, σ4, a4, hK _ a5⟩
theorem lcI_mono {cd : Nat → Option Int32} {F9 : Option (Except Nat Int32 × HS)} {F10 : HS → Option (Int32 × HS)} {a mo o : Option Nat} {K K' : HS → Prop} (h : lcI cd F9 F10 a mo o σ K) (hK : ∀ τ, K τ → K' τ) : lcI cd F9 F10 a mo o σ K' := by
  obtain ⟨q, r, σ1, h1, h2, h3, h3', h4⟩ := h
  refine ⟨q, r, σ1, h1, h2, h3, h3', fun k σ2 h => ?_⟩
  obtain ⟨q2, a1, v, σ3, a2, q3, a3, σ4, a4, a5, a6⟩ := h4 k σ2 h
  exact ⟨q2, a1, v, σ3, a2, q3, a3, σ4, a4, a5, hK _ a6⟩
theorem lcN_mono {F9 : Option (Int32 × HS)} {F10 : HS → Option (Int32 × HS)} {a mo : Option Nat} {K K' : HS → Prop} (h : lcN F9 F10 a mo σ K) (hK : ∀ τ, K τ → K' τ) : lcN F9 F10 a mo σ K' := by
  obtain ⟨q, v, σ1, h1, h2, q2, h3, σ2, h4, h5⟩ := h
  exact ⟨q, v, σ1, h1, h2, q2, h3, σ2, h4, hK _ h5⟩
theorem RI.tk2 (r : RI ms n np M t) {k : Nat} (hk : k < n) : RI (takeM ms n k) (n - 1) np M t ∧ kOk ((takeM ms n k).2.1 38 6) ((takeM ms n k).2.1 38 7) ∧ Phi (takeM ms n k) (n - 1) np + phi ((takeM ms n k).2.1 38 6) = Phi ms n np := by
  obtain ⟨h1, h2⟩ := r.take hk
  refine ⟨h1, h2, ?_⟩
  have h3 := ph_take (ms := ms) (n := n) hk
  have h4 : phP (takeM ms n k) np = phP ms np := phP_congr (fun j => takeM_k (by decide) (by decide))
  have h5 : (takeM ms n k).2.1 38 6 = ms.2.1 37 (8 * k + 6) := takeM_38 (show 6 < 8 by omega)
  rw [h5]
  unfold Phi
  omega
theorem g_run (hfx : fx = false) {a : Nat} (ha : a ≤ 1000) : ∀ (c N i : Nat) (σ : HS) (ms : MS) (n M : Nat), i + c = a → c < N → Rep fx σ x G ms → ms.1 0 = 0 → RI ms n np M t → h_sz σ + Phi ms n np + 2 ≤ h_cz σ → h_sl σ + 4 * Phi ms n np + 7 ≤ h_ck σ →
    ∃ v σ' ms' n' M' d, g_X9_run_23 N σ (some x) (nI a) (nI i) = some (.ok v, σ') ∧ pg_X10_run_22 N ms (nI a) (nI i) = some (v, ms') ∧ Rep fx σ' x G ms' ∧ ms'.1 0 = 0 ∧ RI ms' n' np M' t ∧ Kq x d (4 * d) σ σ' ∧ Phi ms' n' np + d ≤ Phi ms n np
  | _, 0, _, _, _, _, _, _, h, _, _, _, _, _ => absurd h (Nat.not_lt_zero _)
  | c, N + 1, i, σ, ms, n, M, hi, hN, P, h0, r, hz, hl => by
    rw [g_X9_run_23, pg_X10_run_22, if_pos h0]
    by_cases hd : a ≤ i
    · have e : nI a ≤ nI i := nI_le hd (by omega)
      rw [if_pos e, if_pos e]
      exact ⟨nI i, σ, ms, n, M, 0, rfl, rfl, P, h0, r, Kq.rf, Nat.le_refl _⟩
    · have e : ¬ nI a ≤ nI i := nI_ge (Nat.lt_of_not_le hd) (by omega)
      obtain ⟨f, n', a1, a2, a3, a4, a5, a6, a7⟩ := id P.2.2.2.1
      have gg := r.2.2.2.2.2.2.2
      have en : n' = n := (nI_eq (by omega) (by have := gg.1; omega)).mp (a5.symm.trans gg.2.1)
      have r4 : h_gR σ (some x) 10 4 = some (some (x + 10)) := by rw [gR_s P.2.1.1, P.2.1.rRow]
      have r5 : h_gI σ (some (x + 10)) 6 2 = some (nI n) := by rw [gI_s P.2.1.rw6, a4, en]
      rw [if_neg e, if_neg e, r4, h_b1_s, r5, h_b1_s, gg.2.1]
      by_cases hn0 : n = 0
      · have e2 : nI n ≤ 0 := by rw [hn0]; decide
        rw [if_pos e2, if_pos e2]
        exact ⟨nI i, σ, ms, n, M, 0, rfl, rfl, P, h0, r, Kq.rf, Nat.le_refl _⟩
      · have e2 : ¬ nI n ≤ 0 := nI_ge (a := 0) (Nat.pos_of_ne_zero hn0) (by have := gg.1; omega)
        obtain ⟨t1, t2, t3⟩ := r.tk2 (k := 0) (Nat.pos_of_ne_zero hn0)
        obtain ⟨n2, M2, q1, q2⟩ := t1.arr t2
        obtain ⟨σ1, b1, b2, b3⟩ := a_bring P hfx (by omega) (by omega) (k := 0) gg.2.1 gg.1 (Nat.pos_of_ne_zero hn0) (t1.ra t2)
        have p1 : p_X10_take ms 0 = some ((), takeM ms n 0) := p_take_eq ms (k := 0) gg.2.1 (Nat.pos_of_ne_zero hn0) gg.1
        have gt := t1.2.2.2.2.2.2.2
        have ft := t1.2.2.2.2.2.2.1
        have p2 := p_arrive_eq (takeM ms n 0) gt.2.1 gt.1 ft.2.1 ft.1 t1.mi (t1.ra t2).ma
        have h0' : (arrM (takeM ms n 0) (n - 1) np).1 0 = 0 := by rw [arrM_s (by decide) (by decide) (by decide) (by decide), takeM_s (by decide)]; exact h0
        have k1 := b3.2.1
        have k2 := b3.2.2.1
        have k3 := b3.2.2.2.1
        have k4 := b3.2.2.2.2.1
        obtain ⟨v, σ', ms', n', M', d, c1, c2, c3, c4, c5, c6, c7⟩ := g_run hfx ha (c - 1) N (i + 1) σ1 _ n2 M2 (by omega) (by omega) b2 h0' q1 (by omega) (by omega)
        have b1' : f_X9_bring σ (some x) 0 = some ((), σ1) := b1
        refine ⟨v, σ', ms', n', M', cz ((takeM ms n 0).2.1 38 6) + d, ?_, ?_, c3, c4, c5, (b3.tr c6).le (Nat.le_refl _) (by omega), by omega⟩
        · rw [if_neg e2, rcv_s P.2.1.1, h_b1_s, b1', h_bd_s, nI_c1]
          exact c1
        · rw [if_neg e2, p1, k_bd_s, p2, k_bd_s, nI_c1]
          exact c2
theorem hN_s : ∃ k, h_hN = k + 1 := ⟨1999, rfl⟩
theorem hN_b : 1000 < h_hN := by unfold h_hN; omega
theorem p_run_no {a : Int32} (z : ¬ (0 ≤ a ∧ a ≤ 1000)) : p_X10_run ms a = some (0, noM ms) := by
  unfold p_X10_run
  rw [p_in_eq, k_bd_s, decide_eq_false z, if_pos (by rfl)]
  obtain ⟨k, hk⟩ := hN_s
  rw [hk]
  show pg_X10_run_22 (k + 1) (noM ms) a 0 = _
  rw [pg_X10_run_22, if_neg (by rw [noM_0]; decide)]
theorem p_run_ok {a : Int32} (z : 0 ≤ a ∧ a ≤ 1000) : p_X10_run ms a = pg_X10_run_22 h_hN (okM ms) a 0 := by
  unfold p_X10_run
  rw [p_in_eq, k_bd_s, decide_eq_true z, if_neg (by decide)]
  generalize h_hN = NN
  rfl
theorem f_run_ok {a : Int32} (h1 : ¬ a < 0) (h2 : a ≤ 1000) : f_X9_run σ (some x) a = g_X9_run_23 h_hN σ (some x) a 0 := by
  unfold f_X9_run
  rw [if_neg h1, if_pos h2]
theorem nI_00 : nI 0 = 0 := rfl
theorem k_run (h : Bt fx σ x ms) (hfx : fx = false) (r : RI ms n np M t) (hz : h_sz σ + Phi ms n np + 64 ≤ h_cz σ) (hl : h_sl σ + 4 * Phi ms n np + 512 ≤ h_ck σ) (a : Int32) : lcI cdL_run (f_X9_run σ (some x) a) (fun τ => f_X10_run τ (some (x + 15)) a) (some x) (some (x + 15)) (some (x + 49)) σ (fun τ => ∃ ms' n' M' d, Bt fx τ x ms' ∧ RI ms' n' np M' t ∧ Gw (d + 1) (4 * d + 6) σ τ ∧ Phi ms' n' np + d ≤ Phi ms n np) := by
  obtain ⟨G, P⟩ := h.1
  have hm : Rm σ := ⟨by omega, by omega⟩
  have bad : ¬ (0 ≤ a ∧ a ≤ 1000) → f_X9_run σ (some x) a = some (.error 1, σ) → lcI cdL_run (f_X9_run σ (some x) a) (fun τ => f_X10_run τ (some (x + 15)) a) (some x) (some (x + 15)) (some (x + 49)) σ (fun τ => ∃ ms' n' M' d, Bt fx τ x ms' ∧ RI ms' n' np M' t ∧ Gw (d + 1) (4 * d + 6) σ τ ∧ Phi ms' n' np + d ≤ Phi ms n np) := fun z h9 =>
    lcI_mono (stepI h h9 (Or.inr ⟨1, rfl, rfl, by decide⟩) Kq.rf ⟨G, P.cd 1⟩ (p_run_no z) noM_0 (fun τ V => q_X10_run V a)) (fun τ hh => ⟨noM ms, n, M, 0, hh.1, r.cd 1, hh.2, Nat.le_refl _⟩)
  by_cases h1 : a < 0
  · refine bad (fun z => absurd h1 (Int32.not_lt.mpr z.1)) ?_
    unfold f_X9_run
    rw [if_pos h1, hm.thr]
  · by_cases h2 : a ≤ 1000
    · obtain ⟨m, hm1, rfl⟩ := nI_of2 (M := 1000) (n := 1000) (by decide) h1 h2
      have e0 : Phi (okM ms) n np = Phi ms n np := rfl
      obtain ⟨v, σ', ms', n', M', d, c1, c2, c3, c4, c5, c6, c7⟩ := g_run (G := G) hfx hm1 m h_hN 0 σ (okM ms) n M (by omega) (Nat.lt_of_le_of_lt hm1 hN_b) (P.cd 0) okM_0 (r.cd 0) (by omega) (by omega)
      rw [nI_00] at c1 c2
      have hp : p_X10_run ms (nI m) = some (v, ms') := (p_run_ok ⟨Int32.not_lt.mp h1, h2⟩).trans c2
      have h9 : f_X9_run σ (some x) (nI m) = some (.ok v, σ') := (f_run_ok h1 h2).trans c1
      clear c1 c2
      exact lcI_mono (stepI h h9 (Or.inl ⟨rfl, rfl⟩) c6 ⟨G, c3⟩ hp c4 (fun τ V => q_X10_run V (nI m))) (fun τ hh => ⟨ms', n', M', d, hh.1, c5, hh.2, by omega⟩)
    · refine bad (fun z => h2 z.2) ?_
      unfold f_X9_run
      rw [if_neg h1, if_neg h2, hm.thr]
end RUN
end
/-! from 98l.steps -/
section
/-! THE INVARIANT between calls, and how each call keeps it -/
def JJ (x sl i : Nat) (σ : HS) : Prop := ∃ ms n np M t, Bt false σ x ms ∧ RI ms n np M t ∧ h_sz σ + Phi ms n np ≤ x + 50 + 8 * i ∧ h_sl σ + 4 * Phi ms n np ≤ sl + 6251 + 40 * i ∧ x + 30000 ≤ h_cz σ ∧ sl + 200000 ≤ h_ck σ
section JST
variable {σ τ : HS} {x sl i : Nat} {ms ms' : MS} {n np M t n' np' M' t' dz ds : Nat}
/-- what is known before a call -/
def JA (x sl i : Nat) (σ : HS) (ms : MS) (n np M t : Nat) : Prop := Bt false σ x ms ∧ RI ms n np M t ∧ h_sz σ + Phi ms n np ≤ x + 50 + 8 * i ∧ h_sl σ + 4 * Phi ms n np ≤ sl + 6251 + 40 * i ∧ x + 30000 ≤ h_cz σ ∧ sl + 200000 ≤ h_ck σ
theorem JA.rm (h : JA x sl i σ ms n np M t) (hi : i ≤ 2560) : Rm σ := by
  obtain ⟨-, -, h1, h2, h3, h4⟩ := h
  exact ⟨by omega, by omega⟩
theorem JA.nx (h : JA x sl i σ ms n np M t) (hB : Bt false τ x ms') (r : RI ms' n' np' M' t') (g : Gw dz ds σ τ) (h1 : Phi ms' n' np' + dz ≤ Phi ms n np + 40) (h2 : 4 * Phi ms' n' np' + ds ≤ 4 * Phi ms n np + 200) : JJ x sl (i + 5) τ := by
  obtain ⟨-, -, a1, a2, a3, a4⟩ := h
  obtain ⟨-, g2, g3, g4, g5⟩ := g
  exact ⟨ms', n', np', M', t', hB, r, by omega, by omega, by omega, by omega⟩
theorem JA.no (h : JA x sl i σ ms n np M t) {c : Int32} (hB : Bt false τ x (k_pI ms 0 c)) (g : Gw dz ds σ τ) (h1 : dz ≤ 40) (h2 : ds ≤ 200) : JJ x sl (i + 5) τ :=
  h.nx hB (h.2.1.cd c) g (by have : Phi (k_pI ms 0 c) n np = Phi ms n np := rfl; omega) (by have : Phi (k_pI ms 0 c) n np = Phi ms n np := rfl; omega)
theorem lL_nil {α : Type} {P : α → Bool} {f : Nat → Option α} : ∀ (c i : Nat), (∀ j, i ≤ j → j < i + c → ∀ q, f j = some q → P q = false) → lL P f i c = []
  | 0, i, _ => rfl
  | c + 1, i, h => by
    unfold lL
    have ih := lL_nil c (i + 1) (fun j h1 h2 => h j (by omega) (by omega))
    cases hf : f i with
    | none => exact ih
    | some q =>
      show (if P q = true then q :: lL P f (i + 1) c else lL P f (i + 1) c) = []
      rw [h i (Nat.le_refl i) (by omega) q hf, if_neg (by decide)]
      exact ih
theorem cnt_none {P : Nat → Bool} : ∀ (c i : Nat), (∀ j, i ≤ j → j < i + c → P j = false) → cnt P i c = 0
  | 0, i, _ => rfl
  | c + 1, i, h => by
    unfold cnt
    rw [h i (Nat.le_refl i) (by omega), if_neg (by decide), cnt_none c (i + 1) (fun j h1 h2 => h j (by omega) (by omega))]
theorem j_delegate (h : JA x sl i σ ms n np M t) (hi : i ≤ 2560) (p c b l : Int32) : lcV cdL_delegate (f_X9_delegate σ (some x) p c b l) (fun τ => f_X10_delegate τ (some (x + 15)) p c b l) (some x) (some (x + 15)) σ (JJ x sl (i + 5)) := by
  have r := h.2.1
  refine lcV_mono (k_delegate h.1 (h.rm hi) r.2.1 (fun j hj h0 => ?_) p c b l) (fun τ hh => ?_)
  · obtain ⟨g1, g2⟩ := r.2.2.1.2.2 j hj h0
    refine ⟨eL_nil _ _ (fun k h1 h2 q hq => ?_), g2⟩
    have := g1 k h1 h2
    unfold liveE at this
    rw [← Option.some.inj hq]
    exact of_decide_eq_false this
  · by_cases hb : delB ms p c b l = true
    · rw [if_pos hb] at hh
      have e : Phi (dlgM (okM ms) c.toNatClampNeg b l p) n np = Phi ms n np := Phi_congr (fun j => by unfold dlgM; rw [aS_k (by decide), aS_k (by decide), aS_k (by decide), aS_k (by decide)]; rfl) (fun j => by unfold dlgM; rw [aS_k (by decide), aS_k (by decide), aS_k (by decide), aS_k (by decide)]; rfl)
      exact h.nx hh.1 (r.del hb) hh.2 (by omega) (by omega)
    · rw [if_neg hb] at hh
      exact h.no hh.1 hh.2 (by omega) (by omega)
theorem j_site (h : JA x sl i σ ms n np M t) (hi : i ≤ 2560) (a b : Int32) : lcV cdL_site (f_X9_site σ (some x) a b) (fun τ => f_X10_site τ (some (x + 15)) a b) (some x) (some (x + 15)) σ (JJ x sl (i + 5)) := by
  have r := h.2.1
  refine lcV_mono (k_site h.1 (h.rm hi) (fun s hs h0 => ?_) a b) (fun τ hh => ?_)
  · obtain ⟨g1, g2⟩ := r.2.2.2.1.2.2.2 s hs h0
    refine ⟨g1, g2, lL_nil _ _ (fun k h1 h2 q hq => ?_)⟩
    have := r.2.2.2.2.2.1.2.2.2.2.2 s hs h0 k h1 h2
    rw [← Option.some.inj hq]
    exact this
  · by_cases hb : siteMB ms a b = true
    · rw [if_pos hb] at hh
      unfold siteMB at hb
      obtain ⟨b1, b2⟩ := (Bool.and_eq_true _ _).mp hb
      obtain ⟨b3, b4⟩ := (Bool.and_eq_true _ _).mp b2
      obtain ⟨b5, -⟩ := (Bool.and_eq_true _ _).mp b4
      obtain ⟨s, hs, rfl⟩ := i8 (of_decide_eq_true b1)
      have hh5 := of_decide_eq_true b5
      obtain ⟨pl, p1, rfl⟩ := nI_of2 (M := 15) (n := 15) (by decide) (Int32.not_lt.mpr hh5.1) hh5.2
      have h3 := of_decide_eq_true b3
      rw [nI_clamp (by omega)] at hh h3
      have e : Phi (aS (okM ms) 14 s (nI pl)) n np = Phi ms n np := Phi_congr (fun j => by rw [aS_k (by decide)]; rfl) (fun j => by rw [aS_k (by decide)]; rfl)
      exact h.nx hh.1 (r.site hs h3 (by omega)) hh.2 (by omega) (by omega)
    · rw [if_neg hb] at hh
      exact h.no hh.1 hh.2 (by omega) (by omega)
theorem j_prefix (h : JA x sl i σ ms n np M t) (hi : i ≤ 2560) (a b l : Int32) : lcI cdL_prefix (f_X9_prefix σ (some x) a b l) (fun τ => f_X10_prefix τ (some (x + 15)) a b l) (some x) (some (x + 15)) (some (x + 49)) σ (JJ x sl (i + 5)) := by
  have r := h.2.1
  have c := r.2.2.2.1
  refine lcI_mono (k_prefix h.1 (h.rm hi) r.2.1 c.1 (fun s hs h0 => (c.2.2.2 s hs h0).1) a b l) (fun τ hh => ?_)
  by_cases hb : prfB ms a b l = true
  · rw [if_pos hb] at hh
    unfold prfB at hb
    obtain ⟨b1, b2⟩ := (Bool.and_eq_true _ _).mp hb
    obtain ⟨b3, b4⟩ := (Bool.and_eq_true _ _).mp b2
    obtain ⟨b5, -⟩ := (Bool.and_eq_true _ _).mp b4
    obtain ⟨s, hs, rfl, hp⟩ := siteB_nI b1
    obtain ⟨m, hm, hl, -⟩ := vpB_nI b5
    obtain ⟨k, k1, k2⟩ := c.1 s hs
    have h3 := of_decide_eq_true b3
    rw [nI_clamp (by omega), k1] at h3
    have hk4 : k < 4 := (nI_ltI (a := k) (b := 4) (by omega) (by omega)).mp h3
    rw [nI_clamp (by omega), k1, nI_clamp (by omega)] at hh
    have e : Phi (prfM ms s k b l) n np = Phi ms n np := Phi_congr (fun j => by unfold prfM; rw [aS_k (by decide), aS_k (by decide), aS_k (by decide)]; rfl) (fun j => by unfold prfM; rw [aS_k (by decide), aS_k (by decide), aS_k (by decide)]; rfl)
    exact h.nx hh.1 (r.prf hs hp hk4 ⟨m, hm, hl⟩) hh.2 (by omega) (by omega)
  · rw [if_neg hb] at hh
    exact h.no hh.1 hh.2 (by omega) (by omega)
theorem j_move (h : JA x sl i σ ms n np M t) (hi : i ≤ 2560) (a b : Int32) : lcV cdL_move (f_X9_move σ (some x) a b) (fun τ => f_X10_move τ (some (x + 15)) a b) (some x) (some (x + 15)) σ (JJ x sl (i + 5)) := by
  have r := h.2.1
  refine lcV_mono (k_move h.1 (h.rm hi) r.1.2 r.1.1 r.2.2.2.1.2.2.1 a b) (fun τ hh => ?_)
  by_cases hb : moveB ms a b = true
  · rw [if_pos hb] at hh
    unfold moveB at hb
    obtain ⟨b1, b2⟩ := (Bool.and_eq_true _ _).mp hb
    obtain ⟨b5, -⟩ := (Bool.and_eq_true _ _).mp b2
    obtain ⟨s, hs, rfl, hp⟩ := siteB_nI b1
    have hh5 := of_decide_eq_true b5
    obtain ⟨pl, p1, rfl⟩ := nI_of2 (M := 15) (n := 15) (by decide) (Int32.not_lt.mpr hh5.1) hh5.2
    rw [nI_clamp (n := s) (by omega)] at hh
    have e : ∀ p0, Phi (aS (wntM (okM ms) p0 (nI s)) 14 s (nI pl)) n np = Phi ms n np := fun p0 => Phi_congr (fun j => by rw [aS_k (by decide)]; unfold wntM; rw [aS_k (by decide), aS_k (by decide)]; rfl) (fun j => by rw [aS_k (by decide)]; unfold wntM; rw [aS_k (by decide), aS_k (by decide)]; rfl)
    have e' := e (ms.2.1 14 s).toNatClampNeg
    exact h.nx hh.1 (r.mov hs hp (by omega)) hh.2 (by omega) (by omega)
  · rw [if_neg hb] at hh
    exact h.no hh.1 hh.2 (by omega) (by omega)
theorem j_register (h : JA x sl i σ ms n np M t) (hi : i ≤ 2560) (a : Int32) : lcI cdL_register (f_X9_register σ (some x) a) (fun τ => f_X10_register τ (some (x + 15)) a) (some x) (some (x + 15)) (some (x + 49)) σ (JJ x sl (i + 5)) := by
  have r := h.2.1
  refine lcI_mono (k_register h.1 (h.rm hi) r.mi r.2.1 a) (fun τ hh => ?_)
  by_cases hb : siteB ms a = true
  · rw [if_pos hb] at hh
    obtain ⟨s, hs, rfl, hp⟩ := siteB_nI hb
    obtain ⟨k, k1, k2⟩ := r.2.2.2.1.1 s hs
    rw [nI_clamp (by omega)] at hh
    unfold rgsM at hh
    rw [k1, nI_clamp (by omega)] at hh
    obtain ⟨n', q1, q2⟩ := RI.rgs (M := M) (t := t) (np := np) hs k (4 * s) (okM ms, 0) n (r.cd 0) hp
    have e : Phi (okM ms) n np = Phi ms n np := rfl
    have q2' : _ ≤ Phi (okM ms) n np + 2 * k := q2
    exact h.nx hh.1 q1 hh.2 (by omega) (by omega)
  · rw [if_neg hb] at hh
    exact h.no hh.1 hh.2 (by omega) (by omega)
theorem j_send (h : JA x sl i σ ms n np M t) (hi : i ≤ 2560) (a ep : Int32) : lcI cdL_send (f_X9_send σ (some x) a ep) (fun τ => f_X10_send τ (some (x + 15)) a ep) (some x) (some (x + 15)) (some (x + 49)) σ (JJ x sl (i + 5)) := by
  have r := h.2.1
  have gg := r.2.2.2.2.2.2.2
  have f := r.2.2.2.2.2.2.1
  refine lcI_mono (k_send h.1 (h.rm hi) r.mi r.2.2.2.2.2.1.2.2.1 gg.2.1 gg.1 f.2.1 f.1 f.2.2.1 a ep) (fun τ hh => ?_)
  by_cases h2 : np = 200
  · rw [if_pos h2] at hh
    exact h.no hh.1 hh.2 (by omega) (by omega)
  · rw [if_neg h2] at hh
    by_cases hb : siteB ms a = true
    · rw [if_pos hb] at hh
      obtain ⟨s, hs, rfl, hp⟩ := siteB_nI hb
      rw [nI_clamp (by omega)] at hh
      obtain ⟨n', q1, q2⟩ := r.snd (ep := ep) (by have := f.1; omega) hs
      exact h.nx hh.1 q1 hh.2 (by omega) (by omega)
    · rw [if_neg hb] at hh
      exact h.no hh.1 hh.2 (by omega) (by omega)
theorem j_carry (h : JA x sl i σ ms n np M t) (hi : i ≤ 2560) (a : Int32) : lcV cdL_carry (f_X9_carry σ (some x) a) (fun τ => f_X10_carry τ (some (x + 15)) a) (some x) (some (x + 15)) σ (JJ x sl (i + 5)) := by
  have r := h.2.1
  have gg := r.2.2.2.2.2.2.2
  have f := r.2.2.2.2.2.2.1
  refine lcV_mono (k_carry h.1 (h.rm hi) rfl gg.2.1 gg.1 f.2.1 f.1 (fun k hk => ?_) (fun k hk => ?_) a) (fun τ hh => ?_)
  · obtain ⟨q1, q2, -⟩ := r.tk hk
    exact ⟨q1.ra q2, q1.mi⟩
  · rw [arrM_s (by decide) (by decide) (by decide) (by decide), takeM_s (by decide)]
    exact okM_0
  · by_cases hb : msgB n a = true
    · rw [if_pos hb] at hh
      obtain ⟨k, hk, rfl⟩ := msgB_some gg.1 hb
      rw [nI_clamp (by have := gg.1; omega)] at hh
      obtain ⟨n', M', q1, q2⟩ := r.crr hk
      exact h.nx hh.1 q1 hh.2 (by omega) (by omega)
    · rw [if_neg hb] at hh
      exact h.no hh.1 hh.2 (by omega) (by omega)
theorem j_repeat (h : JA x sl i σ ms n np M t) (hi : i ≤ 2560) (a : Int32) : lcV cdL_repeat (f_X9_repeat σ (some x) a) (fun τ => f_X10_repeat τ (some (x + 15)) a) (some x) (some (x + 15)) σ (JJ x sl (i + 5)) := by
  have r := h.2.1
  have gg := r.2.2.2.2.2.2.2
  refine lcV_mono (k_repeat h.1 (h.rm hi) gg.2.1 gg.1 a) (fun τ hh => ?_)
  by_cases hb : msgB n a = true
  · rw [if_pos hb] at hh
    obtain ⟨k, hk, rfl⟩ := msgB_some gg.1 hb
    rw [nI_clamp (by have := gg.1; omega)] at hh
    obtain ⟨q1, q2⟩ := r.rpt hk
    exact h.nx hh.1 q1 hh.2 (by omega) (by omega)
  · rw [if_neg hb] at hh
    exact h.no hh.1 hh.2 (by omega) (by omega)
theorem j_drop (h : JA x sl i σ ms n np M t) (hi : i ≤ 2560) (a : Int32) : lcV cdL_drop (f_X9_drop σ (some x) a) (fun τ => f_X10_drop τ (some (x + 15)) a) (some x) (some (x + 15)) σ (JJ x sl (i + 5)) := by
  have r := h.2.1
  have gg := r.2.2.2.2.2.2.2
  refine lcV_mono (k_drop h.1 (h.rm hi) gg.2.1 gg.1 a) (fun τ hh => ?_)
  by_cases hb : msgB n a = true
  · rw [if_pos hb] at hh
    obtain ⟨k, hk, rfl⟩ := msgB_some gg.1 hb
    rw [nI_clamp (by have := gg.1; omega)] at hh
    obtain ⟨q1, -, q2⟩ := r.tk hk
    exact h.nx hh.1 q1 hh.2 (by omega) (by omega)
  · rw [if_neg hb] at hh
    exact h.no hh.1 hh.2 (by omega) (by omega)
theorem j_forge (h : JA x sl i σ ms n np M t) (hi : i ≤ 2560) (a b c : Int32) : lcV cdL_forge (f_X9_forge σ (some x) a b c) (fun τ => f_X10_forge τ (some (x + 15)) a b c) (some x) (some (x + 15)) σ (JJ x sl (i + 5)) := by
  have r := h.2.1
  have gg := r.2.2.2.2.2.2.2
  refine lcV_mono (k_forge h.1 (h.rm hi) gg.2.1 gg.1 a b c) (fun τ hh => ?_)
  by_cases hb : (msgB n a && decide (0 ≤ b ∧ b ≤ 5)) = true
  · rw [if_pos hb] at hh
    obtain ⟨b1, b2⟩ := (Bool.and_eq_true _ _).mp hb
    have hh5 := of_decide_eq_true b2
    obtain ⟨j, j1, rfl⟩ := nI_of2 (M := 5) (n := 5) (by decide) (Int32.not_lt.mpr hh5.1) hh5.2
    rw [nI_clamp (n := j) (by omega)] at hh
    obtain ⟨q1, q2⟩ := r.fge (k := a.toNatClampNeg) (b := j) (v := c) (by omega)
    exact h.nx hh.1 q1 hh.2 (by omega) (by omega)
  · rw [if_neg hb] at hh
    exact h.no hh.1 hh.2 (by omega) (by omega)
theorem j_run (h : JA x sl i σ ms n np M t) (hi : i ≤ 2560) (a : Int32) : lcI cdL_run (f_X9_run σ (some x) a) (fun τ => f_X10_run τ (some (x + 15)) a) (some x) (some (x + 15)) (some (x + 49)) σ (JJ x sl (i + 5)) := by
  refine lcI_mono (k_run h.1 rfl h.2.1 (by have := h.2.2; omega) (by have := h.2.2; omega) a) (fun τ hh => ?_)
  obtain ⟨ms', n', M', d, c1, c2, c3, c4⟩ := hh
  exact h.nx c1 c2 c3 (by omega) (by omega)
theorem j_pass (h : JA x sl i σ ms n np M t) (hi : i ≤ 2560) (a : Int32) : lcV cdL_pass (f_X9_pass σ (some x) a) (fun τ => f_X10_pass τ (some (x + 15)) a) (some x) (some (x + 15)) σ (JJ x sl (i + 5)) := by
  have r := h.2.1
  refine lcV_mono (k_pass h.1 (h.rm hi) r.1.2 r.1.1 a) (fun τ hh => ?_)
  by_cases hb : passB ms a = true
  · rw [if_pos hb] at hh
    obtain ⟨t', q1⟩ := r.pass hb
    have e : Phi (k_pI (okM ms) 1 (ms.1 1 + a)) n np = Phi ms n np := rfl
    exact h.nx hh.1 q1 hh.2 (by omega) (by omega)
  · rw [if_neg hb] at hh
    exact h.no hh.1 hh.2 (by omega) (by omega)
theorem j_packet (h : JA x sl i σ ms n np M t) (hi : i ≤ 2560) (a w : Int32) : lcI cdL_packet (f_X9_packet σ (some x) a w) (fun τ => f_X10_packet τ (some (x + 15)) a w) (some x) (some (x + 15)) (some (x + 49)) σ (JJ x sl (i + 5)) := by
  have f := h.2.1.2.2.2.2.2.2.1
  refine lcI_mono (k_packet h.1 (h.rm hi) f.2.1 f.1 a w) (fun τ hh => ?_)
  by_cases hb : decide (1 ≤ a ∧ a ≤ nI np) = true
  · rw [if_pos hb] at hh
    exact h.no hh.1 hh.2 (by omega) (by omega)
  · rw [if_neg hb] at hh
    exact h.no hh.1 hh.2 (by omega) (by omega)
theorem j_truth (h : JA x sl i σ ms n np M t) (ep : Int32) : lcN (f_X9_truth σ (some x) ep) (fun τ => f_X10_truth τ (some (x + 15)) ep) (some x) (some (x + 15)) σ (JJ x sl (i + 5)) := by
  have b := h.2.1.2.2.1
  exact lcN_mono (k_truth h.1 b.2.1 b.1 (fun j hj h0 => (b.2.2 j hj h0).1) ep) (fun τ hh => h.no hh.1 hh.2 (by omega) (by omega))
theorem j_count (h : JA x sl i σ ms n np M t) (w : Int32) : lcN (f_X9_count σ (some x) w) (fun τ => f_X10_count τ (some (x + 15)) w) (some x) (some (x + 15)) σ (JJ x sl (i + 5)) := by
  have b := h.2.1.2.2.1
  have d := h.2.1.2.2.2.2.2.1
  exact lcN_mono (k_count h.1 (fun j hj h0 => cnt_none _ _ (fun k h1 h2 => (b.2.2 j hj h0).1 k h1 h2)) (fun s hs h0 => cnt_none _ _ (fun k h1 h2 => d.2.2.2.2.2 s hs h0 k h1 h2)) w) (fun τ hh => h.no hh.1 hh.2 (by omega) (by omega))
end JST
end
/-! from 98m.parts -/
section
/-! CALLS whose answers are not compared -/
def lcVu (cd : Nat → Option Int32) (F9 : Option (Except Nat Unit × HS)) (F10 : HS → Option (Unit × HS)) (x mo : Option Nat) (σ : HS) (K : HS → Prop) : Prop := ∃ q r σ1, h_rcv σ x 10 = some q ∧ F9 = some (r, σ1) ∧ (∀ k, r = .error k → (cd k).isSome = true) ∧ ∀ k σ2, h_hp cd (fun _ τ => some τ) r σ1 k σ2 → ∃ q2, h_rcv σ2 mo 11 = some q2 ∧ ∃ σ3, F10 σ2 = some ((), σ3) ∧ K σ3
def lcIu (cd : Nat → Option Int32) (F9 : Option (Except Nat Int32 × HS)) (F10 : HS → Option (Int32 × HS)) (x mo o : Option Nat) (σ : HS) (K : HS → Prop) : Prop := ∃ q r σ1, h_rcv σ x 10 = some q ∧ F9 = some (r, σ1) ∧ (∀ k, r = .error k → (cd k).isSome = true) ∧ (∀ v, r = .ok v → (h_sL σ1 o 101 0 (Int32.toInt64 v)).isSome = true) ∧ ∀ k σ2, h_hp cd (fun v τ => h_sL τ o 101 0 (Int32.toInt64 v)) r σ1 k σ2 → ∃ q2, h_rcv σ2 mo 11 = some q2 ∧ ∃ v σ3, F10 σ2 = some (v, σ3) ∧ K σ3
def lcNu (F9 : Option (Int32 × HS)) (F10 : HS → Option (Int32 × HS)) (x mo : Option Nat) (σ : HS) (K : HS → Prop) : Prop := ∃ q v σ1, h_rcv σ x 10 = some q ∧ F9 = some (v, σ1) ∧ ∃ q2, h_rcv σ1 mo 11 = some q2 ∧ ∃ w σ2, F10 σ1 = some (w, σ2) ∧ K σ2
section PTS
variable {fx : Bool} {σ τ : HS} {x sl i : Nat} {G : Nat → Nat → Nat} {ms ms' : MS} {n np M t : Nat}
theorem thr_same {a : Option Nat} {k : Int32} (h : f_X10_thrown σ a = some (k, τ)) : τ = σ := by
  unfold f_X10_thrown at h
  cases hg : h_gI σ a 11 0 with
  | none => rw [hg] at h; cases h
  | some v =>
    rw [hg, h_b1_s] at h
    cases h
    rfl
theorem lcV.u {cd : Nat → Option Int32} {F9 : Option (Except Nat Unit × HS)} {F10 : HS → Option (Unit × HS)} {a mo : Option Nat} {K : HS → Prop} (h : lcV cd F9 F10 a mo σ K) : lcVu cd F9 F10 a mo σ K := by
  obtain ⟨q, r, σ1, h1, h2, h3, h4⟩ := h
  refine ⟨q, r, σ1, h1, h2, h3, fun k σ2 h => ?_⟩
  obtain ⟨q2, a1, σ3, a2, q3, a3, σ4, a4, a5⟩ := h4 k σ2 h
  rw [thr_same a4] at a5
  exact ⟨q2, a1, σ3, a2, a5⟩
theorem lcI.u {cd : Nat → Option Int32} {F9 : Option (Except Nat Int32 × HS)} {F10 : HS → Option (Int32 × HS)} {a mo o : Option Nat} {K : HS → Prop} (h : lcI cd F9 F10 a mo o σ K) : lcIu cd F9 F10 a mo o σ K := by
  obtain ⟨q, r, σ1, h1, h2, h3, h3', h4⟩ := h
  refine ⟨q, r, σ1, h1, h2, h3, h3', fun k σ2 h => ?_⟩
  obtain ⟨q2, a1, v, σ3, a2, q3, a3, σ4, a4, a5, a6⟩ := h4 k σ2 h
  rw [thr_same a4] at a6
  exact ⟨q2, a1, v, σ3, a2, a6⟩
theorem lcN.u {F9 : Option (Int32 × HS)} {F10 : HS → Option (Int32 × HS)} {a mo : Option Nat} {K : HS → Prop} (h : lcN F9 F10 a mo σ K) : lcNu F9 F10 a mo σ K := by
  obtain ⟨q, v, σ1, h1, h2, q2, h3, σ2, h4, h5⟩ := h
  exact ⟨q, v, σ1, h1, h2, q2, h3, v, σ2, h4, h5⟩
theorem lcIu_mono {cd : Nat → Option Int32} {F9 : Option (Except Nat Int32 × HS)} {F10 : HS → Option (Int32 × HS)} {a mo o : Option Nat} {K K' : HS → Prop} (h : lcIu cd F9 F10 a mo o σ K) (hK : ∀ τ, K τ → K' τ) : lcIu cd F9 F10 a mo o σ K' := by
  obtain ⟨q, r, σ1, h1, h2, h3, h3', h4⟩ := h
  refine ⟨q, r, σ1, h1, h2, h3, h3', fun k σ2 h => ?_⟩
  obtain ⟨q2, a1, v, σ3, a2, a6⟩ := h4 k σ2 h
  exact ⟨q2, a1, v, σ3, a2, hK _ a6⟩
/-- a call that writes nothing, its answer not compared -/
theorem stepIu {cd : Nat → Option Int32} {F9 : Option (Except Nat Int32 × HS)} {F10 : HS → Option (Int32 × HS)} {r : Except Nat Int32} {w c0 : Int32} {p : Option (Int32 × MS)} (h : Bt fx σ x ms) (h9 : F9 = some (r, σ)) (hr : (∃ v, r = .ok v) ∨ ∃ k c, r = .error k ∧ cd k = some c) (hp : p = some (w, k_pI ms 0 c0)) (lift : ∀ τ, MV τ (x + 15) (kA (x + 15)) ms → Rl τ (x + 15) (kA (x + 15)) (F10 τ) p) : lcIu cd F9 F10 (some x) (some (x + 15)) (some (x + 49)) σ (fun τ => Bt fx τ x (k_pI ms 0 c0) ∧ Gw 1 6 σ τ) := by
  obtain ⟨⟨G, P⟩, V, o⟩ := h
  have P' := P.cd c0
  have hsL : ∀ w : Int64, h_sL σ (some (x + 49)) 101 0 w = some (h_setL σ (x + 49) 0 w) := fun w => sL_s (i := 0) (n := 1) o.1 o.2 (by decide) (by decide)
  have K : Kq x 0 0 σ σ := Kq.rf
  refine ⟨x, r, σ, rcv_s P.2.1.1, h9, fun k hk => ?_, fun w _ => by rw [hsL]; rfl, fun k σ2 h => ?_⟩
  · rcases hr with ⟨v, h⟩ | ⟨k', c, h, h2⟩
    · rw [h] at hk; cases hk
    · rw [h] at hk; cases hk; rw [h2]; rfl
  · rcases hr with ⟨v, rfl⟩ | ⟨k', c, rfl, h2⟩
    · have h' : k = 0 ∧ h_sL σ (some (x + 49)) 101 0 (Int32.toInt64 v) = some σ2 := h
      have g2 := h'.2
      rw [hsL] at g2
      have g3 := Option.some.inj g2
      have V2 : MV σ2 (x + 15) (kA (x + 15)) ms := by
        rw [← g3]
        exact V.to (Sm_L (Ne.symm OC_nA.1)) (fun k hk => Sm_L (Ne.symm (OC_nA.2 k hk)))
      obtain ⟨σ3, l1, l2, l3⟩ := lift σ2 V2 _ _ hp
      rw [← g3] at l3
      exact ⟨x + 15, rcv_s V2.1, w, σ3, l1, ⟨⟨G, Rep_MF (Rep_out P') l3⟩, l2, l3.oc (K.oc o)⟩, (K.gw.tr l3.gw).le (by omega) (by omega)⟩
    · have h' : cd k' = some k ∧ ∃ z w, h_sz σ ≤ z ∧ z ≤ h_sz σ + 1 ∧ w ≤ h_sl σ + 6 ∧ σ2 = h_bump σ z w := h
      obtain ⟨g1, z, w', g2, g3, g4, g5⟩ := h'
      have hb : Bmp σ σ2 := ⟨z, w', g2, g3, g4, g5⟩
      have V2 : MV σ2 (x + 15) (kA (x + 15)) ms := by rw [g5]; exact V
      obtain ⟨σ3, l1, l2, l3⟩ := lift σ2 V2 _ _ hp
      exact ⟨x + 15, rcv_s V2.1, w, σ3, l1, ⟨⟨G, Rep_MF (hb.rep P') l3⟩, l2, l3.oc (hb.oc (K.oc o))⟩, ((K.gw.tr hb.gw).tr l3.gw).le (by omega) (by omega)⟩
theorem u_message (h : JA x sl i σ ms n np M t) (hi : i ≤ 2560) (a b : Int32) : lcIu cdL_message (f_X9_message σ (some x) a b) (fun τ => f_X10_message τ (some (x + 15)) a b) (some x) (some (x + 15)) (some (x + 49)) σ (JJ x sl (i + 5)) := by
  have hm := h.rm hi
  obtain ⟨G, P⟩ := h.1.1
  have gg := h.2.1.2.2.2.2.2.2.2
  obtain ⟨r1, r2, r3⟩ := rowHas P gg.2.1 gg.1 a
  have hp := p_message_eq ms a b gg.2.1 gg.1
  have key : ∃ r, f_X9_message σ (some x) a b = some (r, σ) ∧ ((∃ v, r = .ok v) ∨ ∃ k c, r = .error k ∧ cdL_message k = some c) := by
    have e3 : (∃ v, (Except.error 3 : Except Nat Int32) = .ok v) ∨ ∃ k c, (Except.error 3 : Except Nat Int32) = .error k ∧ cdL_message k = some c := Or.inr ⟨3, 1, rfl, rfl⟩
    unfold f_X9_message
    rw [r1, h_b1_s, r2, h_b1_s, r3, h_bd_s]
    cases hb : msgB n a with
    | false => exact ⟨.error 3, by rw [if_pos (by rfl), hm.thr], e3⟩
    | true =>
      rw [if_neg (by decide)]
      obtain ⟨k, hk, rfl⟩ := msgB_some gg.1 hb
      by_cases h1 : b < 0
      · exact ⟨.error 3, by rw [if_pos h1, hm.thr], e3⟩
      · rw [if_neg h1]
        by_cases h2 : b < 8
        · obtain ⟨j, hj, rfl⟩ := nI_of2 (M := 8) (n := 8) (by decide) h1 (Int32.le_of_lt h2)
          have hj8 : j < 8 := (nI_ltI (a := j) (b := 8) (by omega) (by omega)).mp h2
          obtain ⟨f, n', a1, a2, a3, a4, a5, a6, a7⟩ := id P.2.2.2.1
          refine ⟨.ok (cel σ x f k j), ?_, Or.inl ⟨_, rfl⟩⟩
          rw [if_pos h2, r1, h_b1_s, r2, h_b1_s, c_get P.2.1 a3 a1 (by have := gg.1; omega) hj8, h_bd_s]
        · exact ⟨.error 3, by rw [if_neg h2, hm.thr], e3⟩
  obtain ⟨r, k1, k2⟩ := key
  by_cases hb : (msgB n a && decide (0 ≤ b ∧ b ≤ 7)) = true
  · rw [if_pos hb] at hp
    exact lcIu_mono (stepIu (c0 := 0) h.1 k1 k2 hp (fun τ V => q_X10_message V a b)) (fun τ hh => h.no hh.1 hh.2 (by omega) (by omega))
  · rw [if_neg hb] at hp
    exact lcIu_mono (stepIu (c0 := 1) h.1 k1 k2 hp (fun τ V => q_X10_message V a b)) (fun τ hh => h.no hh.1 hh.2 (by omega) (by omega))
theorem u_note (h : JA x sl i σ ms n np M t) (hi : i ≤ 2560) (a ep w : Int32) : lcIu cdL_note (f_X9_note σ (some x) a ep w) (fun τ => f_X10_note τ (some (x + 15)) a ep w) (some x) (some (x + 15)) (some (x + 49)) σ (JJ x sl (i + 5)) := by
  have hm := h.rm hi
  obtain ⟨G, P⟩ := h.1.1
  have d := h.2.1.2.2.2.2.2.1
  have hat := c_siteAt P.2.1 P.2.2.2.2.2.2.2 a
  have hp := p_note_eq ms a ep w d.1
  have key : ∃ r, f_X9_note σ (some x) a ep w = some (r, σ) ∧ ((∃ v, r = .ok v) ∨ ∃ k c, r = .error k ∧ cdL_note k = some c) := by
    have e3 : (∃ v, (Except.error 1 : Except Nat Int32) = .ok v) ∨ ∃ k c, (Except.error 1 : Except Nat Int32) = .error k ∧ cdL_note k = some c := Or.inr ⟨1, 1, rfl, rfl⟩
    unfold f_X9_note
    rw [rcv_s P.2.1.1, h_b1_s, hat, h_bd_s]
    cases hb : siteB ms a with
    | false => exact ⟨.error 1, by rw [if_neg (show ¬ (false = true) by decide), if_pos rfl, hm.thr], e3⟩
    | true =>
      obtain ⟨s, hs, rfl, hps⟩ := siteB_nI hb
      rw [if_pos (show true = true from rfl), if_neg (fun z => by cases z), nI_clamp (by omega)]
      have I := P.si hs hps
      have t9 : h_gI σ (some x) 10 9 = some (ms.1 1) := by rw [gI_s P.2.1.1, P.2.2.1.2.1]
      obtain ⟨r, f1, f2⟩ := c_noteF I (d.2.2.1 s hs) d.1 hs ep
      rw [gR_s I.1, I.2.2.2.2.2.2.1.1, h_b1_s, t9, h_b1_s, rcv_s I.2.2.2.2.2.2.1.2, h_b1_s, f1, h_bd_s]
      cases hf : ntF ms s ep with
      | none =>
        rw [hf] at f2
        have f2' : r = none := f2
        exact ⟨.ok (-1), by rw [if_pos f2'], Or.inl ⟨_, rfl⟩⟩
      | some k =>
        rw [hf] at f2
        obtain ⟨q, g1, ⟨g2, p', b', m', g3, g4⟩, -⟩ := f2
        rw [if_neg (by rw [g1]; exact fun z => by cases z), g1]
        by_cases h0 : w = 0
        · exact ⟨.ok (h_iv σ p' 1), by rw [if_pos h0, gR_s g2, h_b1_s, g3, gI_s g4.1, h_b1_s], Or.inl ⟨_, rfl⟩⟩
        rw [if_neg h0]
        by_cases h1 : w = 1
        · exact ⟨.ok (h_iv σ q 1), by rw [if_pos h1, gI_s g2, h_b1_s], Or.inl ⟨_, rfl⟩⟩
        rw [if_neg h1]
        by_cases h2 : w = 2
        · exact ⟨.ok (h_iv σ q 2), by rw [if_pos h2, gI_s g2, h_b1_s], Or.inl ⟨_, rfl⟩⟩
        · exact ⟨.ok (-1), by rw [if_neg h2], Or.inl ⟨_, rfl⟩⟩
  obtain ⟨r, k1, k2⟩ := key
  by_cases hb : siteB ms a = true
  · rw [if_pos hb] at hp
    exact lcIu_mono (stepIu (c0 := 0) h.1 k1 k2 hp (fun τ V => q_X10_note V a ep w)) (fun τ hh => h.no hh.1 hh.2 (by omega) (by omega))
  · rw [if_neg hb] at hp
    exact lcIu_mono (stepIu (c0 := 1) h.1 k1 k2 hp (fun τ V => q_X10_note V a ep w)) (fun τ hh => h.no hh.1 hh.2 (by omega) (by omega))
end PTS
end
