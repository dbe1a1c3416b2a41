/-! CALLS: prefix, move -/
section CLB
variable {fx : Bool} {σ σ' : HS} {x : Nat} {G : Nat → Nat → Nat} {ms ms' : MS}
theorem Rep.si (P : Rep fx σ x G ms) {s : Nat} (hs : s < 8) (hp : ¬ ms.2.1 14 s = -1) : SiR fx σ G ms s := ((P.2.2.2.2.2.2.2.2 s hs).2 hp).2
theorem Kq_si (P : Rep fx σ x G ms) {s : Nat} (hs : s < 8) (hp : ¬ ms.2.1 14 s = -1) (hz : h_sz σ' = h_sz σ ∧ h_sl σ' = h_sl σ ∧ h_cz σ' = h_cz σ ∧ h_ck σ' = h_ck σ) (hsm : ∀ b, b ≠ G 3 s → b ≠ G 4 s → b ≠ G 5 s → b ≠ G 6 s → h_tg σ b ≠ 0 → Sm σ σ' b) : Kq x 0 0 σ σ' := by
  obtain ⟨c1, -, -, -, ⟨-, c6, -⟩, -, ⟨-, c9⟩, ⟨-, d2, -⟩, -⟩ := P.si hs hp
  obtain ⟨z1, z2, z3, z4⟩ := hz
  refine ⟨by omega, by omega, by omega, z3, z4, fun a h1 h2 => ?_⟩
  have ht := P.1.2.2 a h1 h2
  have ne : ∀ {c : Nat}, h_tg σ a ≠ h_tg σ c → a ≠ c := fun h z => h (by rw [z])
  exact hsm a (ne (by rw [c1]; omega)) (ne (by rw [c6]; omega)) (ne (by rw [c9]; omega)) (ne (by rw [d2]; omega)) (by omega)
/-- a prefix more -/
def pfxM (ms : MS) (s c : Nat) (b l : Int32) : MS := aS (aS (aS ms 16 (4 * s + c) b) 17 (4 * s + c) l) 15 s (nI (c + 1))
theorem pfx_k {s c : Nat} {b l : Int32} {k j : Nat} (h : k ≠ 15) (h1 : k ≠ 16) (h2 : k ≠ 17) : (pfxM ms s c b l).2.1 k j = ms.2.1 k j := by
  unfold pfxM
  rw [aS_k h, aS_k h2, aS_k h1]
theorem pfx_15 {s c : Nat} {b l : Int32} {j : Nat} : (pfxM ms s c b l).2.1 15 j = if j = s then nI (c + 1) else ms.2.1 15 j := by
  unfold pfxM
  by_cases e : j = s
  · rw [e, aS_s, if_pos rfl]
  · rw [aS_j e, aS_k (by decide), aS_k (by decide), if_neg e]
theorem pfx_16 {s c : Nat} {b l : Int32} {j : Nat} : (pfxM ms s c b l).2.1 16 j = if j = 4 * s + c then b else ms.2.1 16 j := by
  unfold pfxM
  rw [aS_k (by decide), aS_k (by decide)]
  by_cases e : j = 4 * s + c
  · rw [e, aS_s, if_pos rfl]
  · rw [aS_j e, if_neg e]
theorem pfx_17 {s c : Nat} {b l : Int32} {j : Nat} : (pfxM ms s c b l).2.1 17 j = if j = 4 * s + c then l else ms.2.1 17 j := by
  unfold pfxM
  rw [aS_k (by decide)]
  by_cases e : j = 4 * s + c
  · rw [e, aS_s, if_pos rfl]
  · rw [aS_j e, aS_k (by decide), if_neg e]
theorem a_add (P : Rep fx σ x G ms) {s c p n : Nat} {b : Int32} (hs : s < 8) (hp : ¬ ms.2.1 14 s = -1) (hc : ms.2.1 15 s = nI c) (hc4 : c < 4) (hP' : hP σ p b n) : ∃ σ', f_X7_add σ (some (G 3 s)) (some p) = some (nI c, σ') ∧ Rep fx σ' x G (pfxM ms s c b (nI n)) ∧ Kq x 0 0 σ σ' := by
  have I := P.si hs hp
  obtain ⟨a1, a2, a3, a4, ⟨a5, a6, a7⟩, ⟨c', c1, c2, c3⟩, ⟨a8, a9⟩, ⟨b1, b2, b3⟩, z, z1, z2, z3, z4⟩ := id I
  have ec : c' = c := (nI_eq (by omega) (by omega)).mp (c2.symm.trans hc)
  subst ec
  have n34 : G 3 s ≠ G 4 s := fun e => by rw [e, a6] at a1; omega
  have n35 : G 3 s ≠ G 5 s := fun e => by rw [e, a9] at a1; omega
  have n36 : G 3 s ≠ G 6 s := fun e => by rw [e, b2] at a1; omega
  have n45 : G 4 s ≠ G 5 s := fun e => by rw [e, a9] at a6; omega
  have n46 : G 4 s ≠ G 6 s := fun e => by rw [e, b2] at a6; omega
  have e1 : h_sR σ (some (G 4 s)) 106 5 (nI c') (some p) = some (h_setR σ (G 4 s) c' (some p)) := sR_s a6 a7 hc4 (by decide) (decide_eq_true hP'.1)
  have t3 : h_tg (h_setR σ (G 4 s) c' (some p)) (G 3 s) = 8 := a1
  have v3 : h_iv (h_setR σ (G 4 s) c' (some p)) (G 3 s) 3 = nI c' := a4.trans hc
  refine ⟨h_setI (h_setR σ (G 4 s) c' (some p)) (G 3 s) 3 (nI c' + 1), ?_, ?_⟩
  · unfold f_X7_add
    rw [gI_s a1, a4, hc, h_b1_s, if_neg (show ¬ (4 : Int32) ≤ nI c' from fun z => absurd (nI_lt (a := c') (b := 4) hc4 (by decide)) (Int32.not_lt.mpr z)), gR_s a1, a5, h_b1_s, e1, h_b1_s, gI_s t3, v3, h_b1_s, pI_s t3, h_b1_s]
  · have hsm : ∀ q, q ≠ G 3 s → q ≠ G 4 s → Sm σ (h_setI (h_setR σ (G 4 s) c' (some p)) (G 3 s) 3 (nI c' + 1)) q := fun q h3 h4 => (Sm_R h4).tr (Sm_I h3)
    have h25 : ∀ q, h_tg σ q = 2 ∨ h_tg σ q = 5 → Sm σ (h_setI (h_setR σ (G 4 s) c' (some p)) (G 3 s) 3 (nI c' + 1)) q := fun q hq => hsm q (fun e => by rw [e, a1] at hq; omega) (fun e => by rw [e, a6] at hq; omega)
    have s5 := hsm (G 5 s) (Ne.symm n35) (Ne.symm n45)
    have s6 := hsm (G 6 s) (Ne.symm n36) (Ne.symm n46)
    refine ⟨Rep_one P hs hp P.1 (fun q g3 g4 _ _ _ => hsm q g3 g4) ?_ (by rw [pfx_k (by decide) (by decide) (by decide)]; exact hp) (fun _ _ _ => rfl) (fun k j h => pfx_k (by omega) (by omega) (by omega)) rfl (fun t ht e => ⟨pfx_k (by decide) (by decide) (by decide), by rw [pfx_15, if_neg e], pfx_k (by decide) (by decide) (by decide)⟩) (fun t k ht e hk => ⟨by rw [pfx_16, if_neg (by omega)], by rw [pfx_17, if_neg (by omega)]⟩) (fun t k j _ _ h1 _ _ _ => pfx_k (by omega) (by omega) (by omega)), Kq_si P hs hp ⟨rfl, rfl, rfl, rfl⟩ (fun q g3 g4 _ _ _ => hsm q g3 g4)⟩
    refine ⟨a1, by rw [iv_sIk (by decide), pfx_k (by decide) (by decide) (by decide)]; exact a2, by rw [iv_sIk (by decide), pfx_k (by decide) (by decide) (by decide)]; exact a3, by rw [iv_sI, pfx_15, if_pos rfl, nI_c1], ⟨(Sm_R (σ := σ) n34).2.2.2.1 2 |>.trans a5, a6, a7⟩, ⟨c' + 1, by omega, by rw [pfx_15, if_pos rfl], fun k hk => ?_⟩, ⟨(Sm_R (σ := σ) n34).2.2.2.1 4 |>.trans a8, a9⟩, ⟨by rw [s5.2.2.2.1]; exact b1, b2, b3⟩, z, z1, by rw [s5.2.2.1]; exact z2, fun j hj => ?_, ?_⟩
    · by_cases e : k = c'
      · refine ⟨p, n, by rw [e]; exact rv_sR, by rw [pfx_17, if_pos (by omega)], ?_⟩
        rw [pfx_16, if_pos (by omega)]
        exact hP'.to (h25 p (Or.inr hP'.1))
      · obtain ⟨p', n', d1, d2, d3⟩ := c3 k (by omega)
        refine ⟨p', n', (rv_sRk (σ := σ) e).trans d1, by rw [pfx_17, if_neg (by omega)]; exact d2, ?_⟩
        rw [pfx_16, if_neg (by omega)]
        exact d3.to (h25 p' (Or.inr d3.1))
    · obtain ⟨a, d1, d2⟩ := z3 j hj
      exact ⟨a, by rw [s6.2.2.2.1]; exact d1, (d2.to h25).1⟩
    · have ec : lL (nP ((pfxM ms s c' b (nI n)).1 1)) (nC (h_setI (h_setR σ (G 4 s) c' (some p)) (G 3 s) 3 (nI c' + 1)) (G 6 s)) 0 z = lL (nP (ms.1 1)) (nC σ (G 6 s)) 0 z := by
        show lL (nP (ms.1 1)) _ 0 z = _
        refine lL_congr z 0 (fun j _ hj => ?_)
        obtain ⟨a, d1, d2⟩ := z3 j (by omega)
        unfold nC
        rw [s6.2.2.2.1, d1]
        exact congrArg some (d2.to h25).2
      have em : lL (fun q => nP ((pfxM ms s c' b (nI n)).1 1) q.1) (nM (pfxM ms s c' b (nI n))) (6 * s) 6 = lL (fun q => nP (ms.1 1) q.1) (nM ms) (6 * s) 6 := by
        show lL (fun q : N5 × Int32 => nP (ms.1 1) q.1) _ (6 * s) 6 = _
        refine lL_congr 6 (6 * s) (fun j _ _ => ?_)
        unfold nM
        rw [pfx_k (by decide) (by decide) (by decide), pfx_k (by decide) (by decide) (by decide), pfx_k (by decide) (by decide) (by decide), pfx_k (by decide) (by decide) (by decide), pfx_k (by decide) (by decide) (by decide), pfx_k (by decide) (by decide) (by decide)]
      rw [ec, em]
      exact z4
theorem k_prefix (h : Bt fx σ x ms) (hm : Rm σ) (Tt : Tr ms) (hC : ∀ s, s < 8 → ∃ c : Nat, ms.2.1 15 s = nI c ∧ c ≤ 4) (hab : ∀ s, s < 8 → ms.2.1 14 s = -1 → ms.2.1 15 s = 0) (a b l : Int32) : lcI cdL_prefix (f_X9_prefix σ (some x) a b l) (fun τ => f_X10_prefix τ (some (x + 15)) a b l) (some x) (some (x + 15)) (some (x + 49)) σ (fun τ => Bt fx τ x (if prfB ms a b l = true then prfM ms a.toNatClampNeg (ms.2.1 15 a.toNatClampNeg).toNatClampNeg b l else noM ms) ∧ Gw (1 + 1) (2 + 6) σ τ) := by
  obtain ⟨G, P⟩ := h.1
  have hp := p_prefix_eq ms a b l Tt.2.1 hC
  have hat := c_siteAt P.2.1 P.2.2.2.2.2.2.2 a
  have bad : ∀ {r σ1}, f_X9_prefix σ (some x) a b l = some (r, σ1) → r = .error 1 → Kq x 1 2 σ σ1 → (∃ G, Rep fx σ1 x G ms) → prfB ms a b l = false → lcI cdL_prefix (f_X9_prefix σ (some x) a b l) (fun τ => f_X10_prefix τ (some (x + 15)) a b l) (some x) (some (x + 15)) (some (x + 49)) σ (fun τ => Bt fx τ x (if prfB ms a b l = true then prfM ms a.toNatClampNeg (ms.2.1 15 a.toNatClampNeg).toNatClampNeg b l else noM ms) ∧ Gw (1 + 1) (2 + 6) σ τ) := by
    intro r σ1 h9 hr hK hR hf
    rw [hf, if_neg (by decide)] at hp
    rw [hf, if_neg (by decide)]
    obtain ⟨G', P'⟩ := hR
    exact stepI h h9 (Or.inr ⟨1, hr, rfl, by decide⟩) hK ⟨G', P'.cd 1⟩ hp noM_0 (fun τ V => q_X10_prefix V a b l)
  cases hsB : siteB ms a with
  | false =>
    rw [hsB, if_neg (by decide)] at hat
    refine bad (r := .error 1) (σ1 := σ) ?_ rfl (Kq.rf.le (by omega) (by omega)) ⟨G, P⟩ (by unfold prfB; rw [hsB]; rfl)
    unfold f_X9_prefix
    rw [rcv_s P.2.1.1, h_b1_s, hat, h_bd_s, if_pos rfl, hm.thr]
  | true =>
    obtain ⟨s, hs, rfl, hps⟩ := siteB_nI hsB
    rw [hsB, if_pos rfl, nI_clamp (by omega)] at hat
    obtain ⟨c, hc, hc4⟩ := hC s hs
    have I := P.si hs hps
    have hfull := c_isFull I hc
    by_cases h4 : nI c < 4
    · have hc4' : c < 4 := Nat.lt_of_not_le (fun z => absurd h4 (nI_nlt (a := c) (b := 4) z (by omega)))
      rw [decide_eq_false (fun z => z h4)] at hfull
      cases hv : vpB b l with
      | false =>
        refine bad (r := .error 1) (σ1 := σ) ?_ rfl (Kq.rf.le (by omega) (by omega)) ⟨G, P⟩ (by unfold prfB; rw [hv]; cases siteB ms (nI s) <;> cases decide (ms.2.1 15 (nI s).toNatClampNeg < 4) <;> rfl)
        unfold f_X9_prefix
        rw [rcv_s P.2.1.1, h_b1_s, hat, h_bd_s, if_neg (fun z => by cases z), rcv_s I.1, h_b1_s, hfull, h_bd_s, if_pos (by rfl), of_no hv, h_bd_s, if_pos rfl, hm.thr]
      | true =>
        have hof := of_yes P.n0 (by have := hm.1; omega) (by have := hm.2; omega) hv 0 0
        obtain ⟨n, hn, rfl, hvb⟩ := vpB_nI hv
        have B := P.n0
        have hP1 : hP (rpl (h_sz σ) (pSp b (nI n) 0 0) σ) (h_sz σ + 0) b n := ⟨rpl_tg B 0 _, rpl_iv B 0 0 _ (Or.inl (show 0 < 1 by decide)), rpl_iv B 0 1 _ (Or.inl (show 0 < 1 by decide)), hn, hvb⟩
        have P1 := P.ext (Ext_rpl B (pSp b (nI n) 0 0))
        have K1 : Kq x 1 2 σ (rpl (h_sz σ) (pSp b (nI n) 0 0) σ) := Kq_rpl P _ (by exact Nat.le_refl 1) (by exact Nat.le_refl 2)
        have hof' : f_X4_of σ b (nI n) = some (some (h_sz σ + 0), rpl (h_sz σ) (pSp b (nI n) 0 0) σ) := hof
        generalize rpl (h_sz σ) (pSp b (nI n) 0 0) σ = τ at hP1 P1 K1 hof'
        have I1 := P1.si hs hps
        have ht1 : (h_thr 1 τ : Option (Except Nat Int32 × HS)) = some (.error 1, τ) := thr_of (by have := hm.1; have := K1.2.1; have := K1.2.2.2.1; omega) (by have := hm.2; have := K1.2.2.1; have := K1.2.2.2.2.1; omega)
        have hown := c_ownerOf P1.2.1 P1.2.2.2.2.2.2.1 Tt hP1
        have hheld := c_isHeld P1.2.1 P1.2.2.2.2.2.2.2 hC hab hP1
        have e0 : h_gR τ (some x) 10 0 = some (some (x + 1)) := by rw [gR_s P1.2.1.1, P1.2.1.2.1.1]
        have hgo : f_X9_prefix σ (some x) (nI s) b (nI n) = (h_bd (f_X8_ownerOf τ (some (x + 1)) (some (h_sz σ + 0))) fun r21 s22 => if r21 = none then h_thr 1 s22 else h_b1 (h_rcv s22 (some x) 10) fun _ => h_bd (f_X9_isHeld s22 (some x) (some (h_sz σ + 0))) fun r28 s29 => if r28 = 0 then h_b1 (h_rcv s29 (some (G 3 s)) 8) fun _ => h_bd (f_X7_add s29 (some (G 3 s)) (some (h_sz σ + 0))) fun r34 s35 => some (.ok r34, s35) else h_thr 1 s29) := by
          unfold f_X9_prefix
          rw [rcv_s P.2.1.1, h_b1_s, hat, h_bd_s, if_neg (fun z => by cases z), rcv_s I.1, h_b1_s, hfull, h_bd_s, if_pos (by rfl), hof', h_bd_s, if_neg (fun z => by cases z), e0, h_b1_s, rcv_s P1.2.1.2.2.1.1, h_b1_s]
        have hb : prfB ms (nI s) b (nI n) = ((ownE ms b n).isSome && (ff (dupP ms b (nI n)) 0 32).isNone) := by
          unfold prfB
          rw [hsB, hv, nI_clamp (by omega), hc, decide_eq_true h4, ln_nI hn]
          simp only [Bool.true_and]
        cases ho : ownE ms b n with
        | none =>
          rw [ho] at hown hb
          refine bad (r := .error 1) (σ1 := τ) ?_ rfl K1 ⟨G, P1⟩ (by rw [hb]; rfl)
          rw [hgo, hown, h_bd_s]
          show (if none = none then _ else _) = _
          rw [if_pos rfl, ht1]
        | some w =>
          rw [ho] at hown hb
          cases hd : ff (dupP ms b (nI n)) 0 32 with
          | some k =>
            rw [hd] at hheld hb
            refine bad (r := .error 1) (σ1 := τ) ?_ rfl K1 ⟨G, P1⟩ (by rw [hb]; rfl)
            rw [hgo, hown, h_bd_s]
            show (if some (G 0 w) = none then _ else _) = _
            rw [if_neg (fun z => by cases z), rcv_s P1.2.1.1, h_b1_s, hheld, h_bd_s, if_neg (show ¬ b2i (some k).isSome = 0 from (by decide : ¬ (1 : Int32) = 0)), ht1]
          | none =>
            rw [hd] at hheld hb
            obtain ⟨σ2, g1, g2, g3⟩ := a_add P1 hs hps hc hc4' hP1
            have hbt : prfB ms (nI s) b (nI n) = true := by rw [hb]; rfl
            rw [if_pos hbt] at hp ⊢
            rw [nI_clamp (n := s) (by omega), hc, nI_clamp (n := c) (by omega)] at hp ⊢
            refine stepI h (σ1 := σ2) (r := .ok (nI c)) (c0 := 0) ?_ (Or.inl ⟨rfl, rfl⟩) (K1.tr g3) ⟨G, g2.ms1 rfl (fun q hq => okM_1 hq)⟩ hp (okM_0 (ms := ms)) (fun τ V => q_X10_prefix V (nI s) b (nI n))
            rw [hgo, hown, h_bd_s]
            show (if some (G 0 w) = none then _ else _) = _
            rw [if_neg (fun z => by cases z), rcv_s P1.2.1.1, h_b1_s, hheld, h_bd_s, if_pos (by rfl), rcv_s I1.1, h_b1_s, g1, h_bd_s]
    · rw [decide_eq_true h4] at hfull
      refine bad (r := .error 1) (σ1 := σ) ?_ rfl (Kq.rf.le (by omega) (by omega)) ⟨G, P⟩ (by unfold prfB; rw [nI_clamp (by omega), hc, decide_eq_false h4]; cases siteB ms (nI s) <;> rfl)
      unfold f_X9_prefix
      rw [rcv_s P.2.1.1, h_b1_s, hat, h_bd_s, if_neg (fun z => by cases z), rcv_s I.1, h_b1_s, hfull, h_bd_s, if_neg (by decide), hm.thr]
end CLB
