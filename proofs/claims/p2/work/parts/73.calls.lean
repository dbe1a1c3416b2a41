/-! MORE CALLS: pass, count, truth, site, delegate -/
theorem cnt_zero {P : Nat → Bool} : ∀ (c i : Nat), cnt P i c = 0 → ∀ j, i ≤ j → j < i + c → P j = false
  | 0, i, _, j, h1, h2 => by omega
  | c + 1, i, h, j, h1, h2 => by
    have h' : (if P i = true then 1 else 0) + cnt P (i + 1) c = 0 := h
    have ha : (if P i = true then 1 else 0) = 0 := by omega
    have hb : cnt P (i + 1) c = 0 := by omega
    by_cases e : j = i
    · subst e
      cases hp : P j with
      | false => rfl
      | true => rw [hp, if_pos rfl] at ha; omega
    · exact cnt_zero c (i + 1) hb j (by omega) (by omega)
section CLS
variable {fx : Bool} {σ : HS} {x : Nat} {G : Nat → Nat → Nat} {ms : MS}
theorem c_count (R : Rep fx σ x G ms) (hE : f_X8_countEntries σ (some (x + 1)) (ms.1 1) = some (nI (cnt (liveE ms) 0 128), σ)) (hN : f_X9_countNotes σ (some x) = some (nI (cnt (liveN ms) 0 48), σ)) (w : Int32) : f_X9_count σ (some x) w = some (cntV ms w, σ) := by
  obtain ⟨-, F, N, Rr, -⟩ := R
  obtain ⟨t0, ⟨r0, -, -, -, r4, -⟩, ⟨t1, -⟩, -, -, -, -, ⟨t10, -⟩, -⟩ := F
  obtain ⟨n1, n2, n3, n4, n5, n6⟩ := N
  obtain ⟨f, n, -, -, -, q2, q3, q4, -⟩ := Rr
  have e4 : h_gR σ (some x) 10 4 = some (some (x + 10)) := by rw [gR_s t0, r4]
  have e0 : h_gR σ (some x) 10 0 = some (some (x + 1)) := by rw [gR_s t0, r0]
  unfold f_X9_count cntV
  by_cases h0 : w = 0
  · rw [if_pos h0, if_pos h0, e4, h_b1_s, gI_s t10, h_b1_s, q2, q3]
  rw [if_neg h0, if_neg h0]
  by_cases h1 : w = 1
  · rw [if_pos h1, if_pos h1, gI_s t0, h_b1_s, n4]
  rw [if_neg h1, if_neg h1]
  by_cases h2 : w = 2
  · rw [if_pos h2, if_pos h2, gI_s t0, h_b1_s, n5]
  rw [if_neg h2, if_neg h2]
  by_cases h3 : w = 3
  · rw [if_pos h3, if_pos h3, gI_s t0, h_b1_s, n6]
  rw [if_neg h3, if_neg h3]
  by_cases h4 : w = 4
  · rw [if_pos h4, if_pos h4, e4, h_b1_s, gI_s t10, h_b1_s, q4]
  rw [if_neg h4, if_neg h4]
  by_cases h5 : w = 5
  · rw [if_pos h5, if_pos h5, gI_s t0, h_b1_s, n1]
  rw [if_neg h5, if_neg h5]
  by_cases h6 : w = 6
  · rw [if_pos h6, if_pos h6, gI_s t0, h_b1_s, n2]
  rw [if_neg h6, if_neg h6]
  by_cases h7 : w = 7
  · rw [if_pos h7, if_pos h7, e0, h_b1_s, gI_s t0, h_b1_s, n2, rcv_s t1, h_b1_s, hE, h_bd_s]
  rw [if_neg h7, if_neg h7]
  by_cases h8 : w = 8
  · rw [if_pos h8, if_pos h8, rcv_s t0, h_b1_s, hN, h_bd_s]
  rw [if_neg h8, if_neg h8]
/-- a site comes -/
theorem c_site (R : Rep fx σ x G ms) (hz : h_sz σ + 4 ≤ h_cz σ) (hs : h_sl σ + 17 ≤ h_ck σ) (s pl : Int32) : f_X9_site σ (some x) s pl = some (if siteMB ms s pl = true then (.ok (), h_setR (rpl (h_sz σ) (sTx pl) σ) (x + 7) s.toNatClampNeg (some (h_sz σ + 0))) else (.error 1, σ)) := by
  have ht : (h_thr 1 σ : Option (Except Nat Unit × HS)) = some (.error 1, σ) := thr_of (by omega) (by omega)
  have B := R.n0
  have h50 := R.1.1
  obtain ⟨-, F, -, -, -, -, -, T⟩ := R
  have t7 := F.2.2.2.2.1
  have e1 : h_gR σ (some x) 10 1 = some (some (x + 7)) := by rw [gR_s F.1, F.2.1.2.1]
  unfold f_X9_site siteMB
  by_cases h1 : s < 0
  · rw [if_pos h1, ht, decide_eq_false (fun z => absurd h1 (Int32.not_lt.mpr z.1)), Bool.false_and, if_neg (by decide)]
  rw [if_neg h1]
  by_cases h2 : 8 ≤ s
  · rw [if_pos h2, ht, decide_eq_false (fun z => absurd (Int32.le_trans h2 z.2) (by decide)), Bool.false_and, if_neg (by decide)]
  obtain ⟨i, hi, rfl⟩ := b8 h1 (Int32.not_le.mp h2)
  have h07 : 0 ≤ nI i ∧ nI i ≤ 7 := ⟨Int32.not_lt.mp h1, nI_le (a := i) (b := 7) (by omega) (by decide)⟩
  have e2 : h_aR σ (some (x + 7)) 108 (nI i) = some (h_rv σ (x + 7) i) := aR_s t7.1 t7.2 hi (by decide)
  rw [if_neg h2, e1, h_b1_s, e2, h_b1_s, decide_eq_true h07, Bool.true_and, nI_clamp (by omega)]
  by_cases h3 : ms.2.1 14 i = -1
  · rw [(T.2 i hi).1 h3, if_pos rfl, c_isPlace, h_bd_s, decide_eq_true h3, Bool.true_and]
    by_cases h4 : 0 ≤ pl ∧ pl ≤ 15
    · have hne : ¬ pl = -1 := fun z => by rw [z] at h4; exact absurd h4.1 (by decide)
      rw [decide_eq_true h4, b2i_t, if_neg (by decide), rcv_s F.1, h_b1_s, c_hostOf F T hne, h_bd_s, Bool.true_and]
      by_cases h5 : freeB ms pl = true
      · have lo := rpl_lo B (a := x + 7) (by omega) (sTx pl)
        have e3 : h_sR (rpl (h_sz σ) (sTx pl) σ) (some (x + 7)) 108 8 (nI i) (some (h_sz σ + 0)) = some (h_setR (rpl (h_sz σ) (sTx pl) σ) (x + 7) i (some (h_sz σ + 0))) := sR_s (by rw [lo.1]; exact t7.1) (by rw [lo.2.1]; exact t7.2) hi (by decide) (decide_eq_true ((rpl_tg B 0 (sTx pl)).trans rfl))
        rw [if_pos ((o2i_free ms pl).mpr h5), e1, h_b1_s, si_mk (p := pl) B hz hs, h_bd_s, si_rcv B, h_b1_s, si_init B hz hs, h_bd_s, e3, h_b1_s, if_pos h5]
      · rw [if_neg (fun z => h5 ((o2i_free ms pl).mp z)), ht, if_neg h5]
    · rw [decide_eq_false h4, b2i_f, if_pos rfl, ht, Bool.false_and, if_neg (by decide)]
  · rw [((T.2 i hi).2 h3).1, if_neg (fun z => by cases z), ht, decide_eq_false h3, Bool.false_and, if_neg (by decide)]
/-- a part is given away -/
theorem c_delegate (R : Rep fx σ x G ms) (Tt : Tr ms) (hz : h_sz σ + 5 ≤ h_cz σ) (hs : h_sl σ + 40 ≤ h_ck σ) (p c b l : Int32) : ∃ r σ1, f_X9_delegate σ (some x) p c b l = some (r, σ1) ∧ ((delB ms p c b l = true ∧ r = .ok () ∧ σ1 = h_setR (rpl (h_sz σ) (pSx b l c p) σ) (x + 2) c.toNatClampNeg (some (h_sz σ + 1))) ∨ (delB ms p c b l = false ∧ r = .error 1 ∧ (σ1 = σ ∨ σ1 = rpl (h_sz σ) (pSp b l c p) σ))) := by
  have ht : (h_thr 1 σ : Option (Except Nat Unit × HS)) = some (.error 1, σ) := thr_of (by omega) (by omega)
  have B := R.n0
  have h50 := R.1.1
  have R0 := R
  obtain ⟨-, F, -, -, -, -, S, -⟩ := R
  have e0 : h_gR σ (some x) 10 0 = some (some (x + 1)) := by rw [gR_s F.1, F.2.1.1]
  have t1 := F.2.2.1
  unfold f_X9_delegate delB
  rw [e0, h_b1_s, rcv_s t1.1, h_b1_s, c_at F S, h_bd_s]
  by_cases h1 : srvB ms p = true
  · obtain ⟨i, hi, rfl, hpr⟩ := srvB_nI h1
    rw [h1, if_pos rfl, if_neg (fun z => by cases z), Bool.true_and, nI_clamp (by omega)]
    by_cases h2 : c < 0
    · rw [if_pos h2, ht, decide_eq_false (fun z => absurd h2 (Int32.not_lt.mpr z.1))]
      exact ⟨_, _, rfl, Or.inr ⟨rfl, rfl, Or.inl rfl⟩⟩
    rw [if_neg h2]
    by_cases h3 : 8 ≤ c
    · rw [if_pos h3, ht, decide_eq_false (fun z => absurd (Int32.le_trans h3 z.2) (by decide))]
      exact ⟨_, _, rfl, Or.inr ⟨rfl, rfl, Or.inl rfl⟩⟩
    obtain ⟨k, hk, rfl⟩ := b8 h2 (Int32.not_le.mp h3)
    have h07 : 0 ≤ nI k ∧ nI k ≤ 7 := ⟨Int32.not_lt.mp h2, nI_le (a := k) (b := 7) (by omega) (by decide)⟩
    rw [if_neg h3, e0, h_b1_s, rcv_s t1.1, h_b1_s, c_at F S, h_bd_s, decide_eq_true h07, Bool.true_and, srvB_i hk, nI_clamp (n := k) (by omega)]
    by_cases h4 : ms.2.1 3 k = 0
    · rw [decide_eq_false (fun z => z h4), if_neg (show ¬ (false = true) by decide), if_pos rfl, decide_eq_true h4, Bool.true_and]
      cases h5 : vpB b l with
      | false =>
        rw [of_no h5, h_bd_s, if_pos rfl, ht]
        exact ⟨_, _, rfl, Or.inr ⟨rfl, rfl, Or.inl rfl⟩⟩
      | true =>
        rw [of_yes B (by omega) (by omega) h5 (nI k) (nI i), h_bd_s, if_neg (fun z => by cases z), Bool.true_and]
        obtain ⟨n, hn, rfl, hv⟩ := vpB_nI h5
        have E := Ext_rpl B (pSp b (nI n) (nI k) (nI i))
        have hcz := (rpl_c (x := h_sz σ) (σ := σ) (pSp b (nI n) (nI k) (nI i)))
        have hsz : h_sz (rpl (h_sz σ) (pSp b (nI n) (nI k) (nI i)) σ) = h_sz σ + 1 := rpl_sz B _
        have hsl : h_sl (rpl (h_sz σ) (pSp b (nI n) (nI k) (nI i)) σ) = h_sl σ + 2 := rpl_sl _
        have R1 := R0.ext E
        have hP1 : hP (rpl (h_sz σ) (pSp b (nI n) (nI k) (nI i)) σ) (h_sz σ + 0) b n := ⟨rpl_tg B 0 _, rpl_iv B 0 0 _ (Or.inl (show 0 < 1 by decide)), rpl_iv B 0 1 _ (Or.inl (show 0 < 1 by decide)), hn, hv⟩
        show ∃ r σ1, h_b1 (h_gR (rpl (h_sz σ) (pSp b (nI n) (nI k) (nI i)) σ) (some (G 0 i)) 7 2) _ = some (r, σ1) ∧ _
        generalize hτ : rpl (h_sz σ) (pSp b (nI n) (nI k) (nI i)) σ = τ at E hcz hsz hsl R1 hP1 ⊢
        have ht1 : (h_thr 1 τ : Option (Except Nat Unit × HS)) = some (.error 1, τ) := thr_of (by rw [hsz, hcz.1]; omega) (by rw [hsl, hcz.2]; omega)
        obtain ⟨-, F1, -, -, -, -, S1, -⟩ := R1
        obtain ⟨-, q, hq, hPq⟩ := c_sv S1 F1 hi hpr
        have e01 : h_gR τ (some x) 10 0 = some (some (x + 1)) := by rw [gR_s F1.1, F1.2.1.1]
        rw [hq, h_b1_s, rcv_s hP1.1, h_b1_s, same_eq hP1 hPq, h_bd_s]
        have hown : (ownE ms b (ln (nI n)) = some i) ↔ ownB ms b n i = true := by rw [ln_nI hn, ownE_iff Tt hn, ownB_iff Tt hi hpr]
        have hpl : (ms.2.1 5 i = nI n) ↔ n = pL ms i := by
          obtain ⟨g1, g2⟩ := Ln_nI (Tt.2.1 i hi)
          constructor
          · intro z
            have : ln (ms.2.1 5 i) = ln (nI n) := by rw [z]
            rw [ln_nI hn] at this
            exact this.symm
          · intro z
            rw [g1, z]; rfl
        cases hsm : (decide (b = pB ms i) && decide (n = pL ms i)) with
        | true =>
          rw [b2i_t, if_neg (by decide), ht1]
          have := (Bool.and_eq_true _ _).mp hsm
          have hn2 := of_decide_eq_true this.2
          rw [decide_eq_false (show ¬ ¬ ms.2.1 5 i = nI n from fun z => z (hpl.mpr hn2)), Bool.and_false]
          exact ⟨_, _, rfl, Or.inr ⟨rfl, rfl, Or.inr rfl⟩⟩
        | false =>
          rw [b2i_f, if_pos rfl, e01, h_b1_s, rcv_s F1.2.2.1.1, h_b1_s, c_owns F1 S1 Tt hi hpr hP1, h_bd_s]
          cases hob : ownB ms b n i with
          | false =>
            rw [b2i_f, if_pos rfl, ht1, decide_eq_false (fun z => by rw [hown.mp z] at hob; cases hob)]
            exact ⟨_, _, rfl, Or.inr ⟨rfl, rfl, Or.inr rfl⟩⟩
          | true =>
            have how := (ownB_iff Tt hi hpr).mp hob
            have hne : ¬ ms.2.1 5 i = nI n := fun z => by
              have hn2 := hpl.mp z
              have hag : ag (pL ms i) b (pB ms i) = true := how.2.2.1.2
              have hvb := Tt.2.2.1 i hi hpr
              rw [← hn2] at hag hvb
              have hbb := vb_eq hn hv hvb hag
              rw [decide_eq_true hbb, decide_eq_true hn2] at hsm
              cases hsm
            have B' := B
            rw [b2i_t, if_neg (by decide), e01, h_b1_s, ← hτ, sv_mk B (by omega) (by omega), h_bd_s, sv_rcv B, h_b1_s, sv_init B (by omega) (by omega), h_bd_s, decide_eq_true (hown.mpr hob), decide_eq_true hne]
            have R2 := R0.ext (Ext_rpl B (pSx b (nI n) (nI k) (nI i)))
            obtain ⟨-, F2, -, -, -, -, S2, -⟩ := R2
            have g1 : h_gI (rpl (h_sz σ) (pSx b (nI n) (nI k) (nI i)) σ) (some (h_sz σ + 1)) 7 0 = some (nI k) := E_gI B rfl (by decide) rfl
            have g2 : h_gR (rpl (h_sz σ) (pSx b (nI n) (nI k) (nI i)) σ) (some (x + 1)) 9 0 = some (some (x + 2)) := (c_servers F2 S2 hk).1
            have g3 : h_sR (rpl (h_sz σ) (pSx b (nI n) (nI k) (nI i)) σ) (some (x + 2)) 107 7 (nI k) (some (h_sz σ + 1)) = some (h_setR (rpl (h_sz σ) (pSx b (nI n) (nI k) (nI i)) σ) (x + 2) k (some (h_sz σ + 1))) := sR_s F2.2.2.2.1.1 F2.2.2.2.1.2 hk (by decide) (decide_eq_true ((rpl_tg B 1 _).trans rfl))
            have hpl : f_X8_plant (rpl (h_sz σ) (pSx b (nI n) (nI k) (nI i)) σ) (some (x + 1)) (some (h_sz σ + 1)) = some ((), h_setR (rpl (h_sz σ) (pSx b (nI n) (nI k) (nI i)) σ) (x + 2) k (some (h_sz σ + 1))) := by
              unfold f_X8_plant
              rw [g1, h_b1_s, if_neg h2, h_b1_s, if_neg h3, g2, h_b1_s, h_b1_s, g3, h_b1_s]
            rw [rcv_s F2.2.2.1.1, h_b1_s, hpl, h_bd_s]
            exact ⟨_, _, rfl, Or.inl ⟨rfl, rfl, rfl⟩⟩
    · rw [decide_eq_true h4, if_pos rfl, if_neg (fun z => by cases z), ht, decide_eq_false h4]
      exact ⟨_, _, rfl, Or.inr ⟨rfl, rfl, Or.inl rfl⟩⟩
  · have h1' : srvB ms p = false := by cases h : srvB ms p with
      | false => rfl
      | true => exact absurd h h1
    rw [h1', if_neg (show ¬ (false = true) by decide), if_pos rfl, ht]
    exact ⟨_, _, rfl, Or.inr ⟨rfl, rfl, Or.inl rfl⟩⟩
end CLS
theorem ite_both {c A B : Prop} [Decidable c] (h1 : A) (h2 : B) : if c then A else B := by
  by_cases h : c
  · rw [if_pos h]; exact h1
  · rw [if_neg h]; exact h2
