/-! CALLS: send, carry, note -/
section SN2
variable {fx : Bool} {σ σ' : HS} {x : Nat} {G : Nat → Nat → Nat} {ms ms' : MS}
theorem DN.to {s : Nat} (D : DN ms s) (e1 : ms'.1 1 = ms.1 1) (e : ∀ k j, 19 ≤ k → k ≤ 24 → ms'.2.1 k j = ms.2.1 k j) : DN ms' s := by
  intro k k' h1 h2 h3 h4 l1 l2 hne
  have ll : ∀ j, liveN ms' j = liveN ms j := fun j => by unfold liveN; rw [e1, e 23 j (by omega) (by omega)]
  rw [ll] at l1 l2
  rw [e 19 k (by omega) (by omega), e 20 k (by omega) (by omega), e 19 k' (by omega) (by omega), e 20 k' (by omega) (by omega)]
  exact D k k' h1 h2 h3 h4 l1 l2 hne
/-- a packet starts -/
theorem a_start (P : Rep fx σ x G ms) {n s np i : Nat} (hs : s < 8) (hps : ¬ ms.2.1 14 s = -1) (D : DN ms s) (hL : ∀ k, k < 48 → Ln (ms.2.1 20 k)) (hn : ms.1 36 = nI n) (hn2 : n ≤ 200) (hnp : ms.1 28 = nI np) (hnp2 : np ≤ 200) (hi : i < np) (h29 : ms.2.1 29 (i + 1) = nI s) :
    ∃ σ', f_X9_start σ (some x) (some (G 7 i)) (some (G 3 s)) = some ((), σ') ∧ Rep fx σ' x G (if hasB ms s (ms.2.1 30 (i + 1)) = true then dlvM ms (i + 1) (nI s) else match ntF ms s (ms.2.1 30 (i + 1)) with | none => askM ms n (i + 1) 0 | some k => folM ms n (i + 1) (ms.2.1 21 k)) ∧ Kq x 0 0 σ σ' := by
  obtain ⟨t1, -, v1, v2, -⟩ := pkt P hnp hnp2 hi
  have I := P.si hs hps
  have F := P.2.1
  unfold f_X9_start
  rw [gI_s t1, v2, h_b1_s, rcv_s I.1, h_b1_s, c_hasEnd hs I, h_bd_s]
  cases hb : hasB ms s (ms.2.1 30 (i + 1)) with
  | true =>
    obtain ⟨σ1, r1, r2, r3⟩ := a_deliver P (nI s) hnp hnp2 hi
    refine ⟨σ1, ?_, by rw [if_pos rfl]; exact r2, r3.q⟩
    rw [b2i_t, if_neg (by decide), gI_s t1, v1, h29, h_b1_s, rcv_s t1, h_b1_s, r1, h_bd_s]
  | false =>
    obtain ⟨r, f1, f2⟩ := c_noteF I D hL hs (ms.2.1 30 (i + 1))
    have t9 : h_gI σ (some x) 10 9 = some (ms.1 1) := by rw [gI_s F.1, P.2.2.1.2.1]
    rw [b2i_f, if_pos rfl, gR_s I.1, I.2.2.2.2.2.2.1.1, h_b1_s, gI_s t1, v2, h_b1_s, t9, h_b1_s, rcv_s I.2.2.2.2.2.2.1.2, h_b1_s, f1, h_bd_s, if_neg (show ¬ (false = true) by decide)]
    cases hf : ntF ms s (ms.2.1 30 (i + 1)) with
    | none =>
      rw [hf] at f2
      have f2' : r = none := f2
      obtain ⟨σ1, r1, r2, r3⟩ := a_ask P 0 hn hn2 hnp hnp2 hi
      refine ⟨σ1, ?_, r2, r3.q⟩
      rw [if_pos f2', rcv_s F.1, h_b1_s, r1, h_bd_s]
    | some k =>
      rw [hf] at f2
      obtain ⟨a, g1, g2, g3⟩ := f2
      obtain ⟨σ1, r1, r2, r3⟩ := a_follow P (i := i) (a := a) (pl := ms.2.1 21 k) hn hn2 hnp hnp2 hi g2.1 g3.2.2.1
      refine ⟨σ1, ?_, r2, r3.q⟩
      rw [if_neg (by rw [g1]; exact fun z => by cases z), rcv_s F.1, h_b1_s, g1, r1, h_bd_s]
theorem k_send (h : Bt fx σ x ms) (hm : Rm σ) (I0 : MI ms) (hD : ∀ s, s < 8 → DN ms s) {n np : Nat} (hn : ms.1 36 = nI n) (hn2 : n ≤ 200) (hnp : ms.1 28 = nI np) (hnp2 : np ≤ 200) (hfr : ∀ i, np < i → i ≤ 200 → ms.2.1 31 i = 0 ∧ ms.2.1 32 i = 0 ∧ ms.2.1 34 i = 0 ∧ ms.2.1 35 i = 0) (a ep : Int32) : lcI cdL_send (f_X9_send σ (some x) a ep) (fun τ => f_X10_send τ (some (x + 15)) a ep) (some x) (some (x + 15)) (some (x + 49)) σ (fun τ => Bt fx τ x (if np = 200 then k_pI ms 0 1 else if siteB ms a = true then sendM ms n a.toNatClampNeg np ep else k_pI ms 0 2) ∧ Gw (1 + 1) (8 + 6) σ τ) := by
  obtain ⟨G, P⟩ := h.1
  have hp := p_send_eq ms a ep hn hn2 hnp hnp2 I0
  have g8 : h_gI σ (some x) 10 8 = some (nI np) := by rw [gI_s P.2.1.1, P.2.2.1.1, hnp]
  by_cases h200 : np = 200
  · rw [if_pos h200] at hp ⊢
    refine stepI h (σ1 := σ) (r := .error 2) (c0 := 1) ?_ (Or.inr ⟨2, rfl, rfl, by decide⟩) (Kq.rf.le (by omega) (by omega)) ⟨G, P.cd 1⟩ hp pI_s1 (fun τ V => q_X10_send V a ep)
    unfold f_X9_send
    rw [g8, h_b1_s, if_neg (show ¬ nI np < 200 from nI_nlt (a := np) (b := 200) (by omega) (by omega)), hm.thr]
  · rw [if_neg h200] at hp ⊢
    have hlt : nI np < 200 := nI_lt (a := np) (b := 200) (by omega) (by decide)
    have hat := c_siteAt P.2.1 P.2.2.2.2.2.2.2 a
    cases hsB : siteB ms a with
    | false =>
      rw [hsB, if_neg (by decide)] at hp hat
      rw [if_neg (by decide)]
      refine stepI h (σ1 := σ) (r := .error 1) (c0 := 2) ?_ (Or.inr ⟨1, rfl, rfl, by decide⟩) (Kq.rf.le (by omega) (by omega)) ⟨G, P.cd 2⟩ hp pI_s1 (fun τ V => q_X10_send V a ep)
      unfold f_X9_send
      rw [g8, h_b1_s, if_pos hlt, rcv_s P.2.1.1, h_b1_s, hat, h_bd_s, if_pos rfl, hm.thr]
    | true =>
      obtain ⟨s, hs, rfl, hps⟩ := siteB_nI hsB
      rw [hsB, if_pos rfl] at hp hat
      rw [if_pos rfl]
      rw [nI_clamp (by omega)] at hp hat ⊢
      have B := P.n0
      have hz : h_sz σ + 1 ≤ h_cz σ := by have := hm.1; omega
      have hsl : h_sl σ + 8 ≤ h_ck σ := by have := hm.2; omega
      obtain ⟨m1, m2, m3⟩ := pk_make B hz hsl (nI (np + 1)) (nI s) ep
      have Po : Rep fx σ x G (okM ms) := P.cd 0
      obtain ⟨P1, K1⟩ := Rep_packet Po (np := np) (s := nI s) (ep := ep) hnp (by omega) (hfr (np + 1) (by omega) (by omega))
      have P15 := P.ext (Ext_rpl B [(0, 4, 0, 8, 0)])
      have P2 := P.ext (Ext_rpl B (pK (nI (np + 1)) (nI s) ep))
      have tgp : h_tg (rpl (h_sz σ) (pK (nI (np + 1)) (nI s) ep) σ) (h_sz σ + 0) = 4 := rpl_tg B 0 _
      have es : startM ms (nI s) ep np = nwM (okM ms) np (nI s) ep := rfl
      have e14 : (nwM (okM ms) np (nI s) ep).2.1 14 s = ms.2.1 14 s := nw_k (Or.inr (by omega))
      have e29 : (nwM (okM ms) np (nI s) ep).2.1 29 (np + 1) = nI s := by unfold nwM; rw [aS_k (by decide), aS_k (by decide), aS_s]
      have e30 : (nwM (okM ms) np (nI s) ep).2.1 30 (np + 1) = ep := by unfold nwM; rw [aS_k (by decide), aS_s]
      have hD1 : DN (nwM (okM ms) np (nI s) ep) s := (hD s hs).to rfl (fun k j h1 h2 => nw_k (Or.inr (by omega)))
      have hL1 : ∀ k, k < 48 → Ln ((nwM (okM ms) np (nI s) ep).2.1 20 k) := fun k hk => by rw [nw_k (Or.inr (by omega))]; exact I0.2.2.2.2.2.1 k hk
      have e2 : h_gI (rpl (h_sz σ) [(0, 4, 0, 8, 0)] σ) (some x) 10 8 = some (nI np) := by rw [gI_s P15.2.1.1, P15.2.2.1.1, hnp]
      have e3 : h_gR (rpl (h_sz σ) (pK (nI (np + 1)) (nI s) ep) σ) (some x) 10 7 = some (some (x + 14)) := by rw [gR_s P2.2.1.1, P2.2.1.2.1.2.2.2.2.2.2.2]
      have e4 : h_gI (rpl (h_sz σ) (pK (nI (np + 1)) (nI s) ep) σ) (some x) 10 8 = some (nI np) := by rw [gI_s P2.2.1.1, P2.2.2.1.1, hnp]
      have t14 := P2.2.1.2.2.2.2.2.2.2.2.2.2.2
      have e5 : h_sR (rpl (h_sz σ) (pK (nI (np + 1)) (nI s) ep) σ) (some (x + 14)) 105 4 (nI np) (some (h_sz σ + 0)) = some (h_setR (rpl (h_sz σ) (pK (nI (np + 1)) (nI s) ep) σ) (x + 14) np (some (h_sz σ + 0))) := sR_s t14.1 t14.2 (by omega) (by decide) (decide_eq_true tgp)
      have n14 : x ≠ x + 14 := by omega
      have tx : h_tg (h_setR (rpl (h_sz σ) (pK (nI (np + 1)) (nI s) ep) σ) (x + 14) np (some (h_sz σ + 0))) x = 10 := P2.2.1.1
      have vx : h_iv (h_setR (rpl (h_sz σ) (pK (nI (np + 1)) (nI s) ep) σ) (x + 14) np (some (h_sz σ + 0))) x 8 = nI np := P2.2.2.1.1.trans hnp
      have hfun : ∀ {y}, (h_b1 (h_rcv (h_setI (h_setR (rpl (h_sz σ) (pK (nI (np + 1)) (nI s) ep) σ) (x + 14) np (some (h_sz σ + 0))) x 8 (nI (np + 1))) (some x) 10) fun _ => h_bd (f_X9_start (h_setI (h_setR (rpl (h_sz σ) (pK (nI (np + 1)) (nI s) ep) σ) (x + 14) np (some (h_sz σ + 0))) x 8 (nI (np + 1))) (some x) (some (h_sz σ + 0)) (some (G 3 s))) fun _ s31 => h_b1 (h_gI s31 (some (h_sz σ + 0)) 4 0) fun x35 => some (.ok x35, s31)) = y → f_X9_send σ (some x) (nI s) ep = y := by
        intro y hy
        unfold f_X9_send
        rw [g8, h_b1_s, if_pos hlt, rcv_s P.2.1.1, h_b1_s, hat, h_bd_s, if_neg (fun z => by cases z), m1, h_bd_s, e2, h_b1_s, m2, h_b1_s, nI_c1, m3, h_bd_s, e3, h_b1_s, e4, h_b1_s, e5, h_b1_s, gI_s tx, vx, h_b1_s, nI_c1, pI_s tx, h_b1_s]
        exact hy
      generalize h_setI (h_setR (rpl (h_sz σ) (pK (nI (np + 1)) (nI s) ep) σ) (x + 14) np (some (h_sz σ + 0))) x 8 (nI (np + 1)) = τ at P1 K1 hfun
      obtain ⟨σ3, r1, r2, r3⟩ := a_start P1 (n := n) (s := s) (np := np + 1) (i := np) hs (by rw [e14]; exact hps) hD1 hL1 (by rw [nw_1 (by decide)]; exact hn) hn2 nw_28 (by omega) (by omega) e29
      rw [gPk_s, gPk_n (Or.inl (by decide))] at r1
      rw [e30] at r2
      have hsend : sendM ms n s np ep = (if hasB (nwM (okM ms) np (nI s) ep) s ep = true then dlvM (nwM (okM ms) np (nI s) ep) (np + 1) (nI s) else match ntF (nwM (okM ms) np (nI s) ep) s ep with | none => askM (nwM (okM ms) np (nI s) ep) n (np + 1) 0 | some k => folM (nwM (okM ms) np (nI s) ep) n (np + 1) ((nwM (okM ms) np (nI s) ep).2.1 21 k)) := rfl
      rw [← hsend] at r2
      have e28 : (sendM ms n s np ep).1 28 = nI (np + 1) := by
        rw [hsend]
        split
        · rw [dlvM_1]; exact nw_28
        · split
          · rw [askM_s (by decide) (by decide) (by decide)]; exact nw_28
          · rw [folM_s (by decide) (by decide)]; exact nw_28
      have e0' : (sendM ms n s np ep).1 0 = 0 := by
        have : (nwM (okM ms) np (nI s) ep).1 0 = 0 := by rw [nw_1 (by decide)]; exact okM_0
        rw [hsend]
        split
        · rw [dlvM_1]; exact this
        · split
          · rw [askM_s (by decide) (by decide) (by decide)]; exact this
          · rw [folM_s (by decide) (by decide)]; exact this
      obtain ⟨q1, q2, -⟩ := pkt r2 e28 (by omega) (i := np) (by omega)
      rw [gPk_s] at q1 q2
      refine stepI h (σ1 := σ3) (r := .ok (nI (np + 1))) (c0 := 0) (hfun ?_) (Or.inl ⟨rfl, rfl⟩) (K1.tr r3) ⟨_, r2⟩ hp e0' (fun τ V => q_X10_send V (nI s) ep)
      rw [rcv_s P1.2.1.1, h_b1_s, r1, h_bd_s, gI_s q1, q2, h_b1_s]
theorem cz_le (k : Int32) : cz k ≤ 2 := by
  unfold cz
  by_cases h0 : k = 0
  · rw [if_pos h0]; omega
  rw [if_neg h0]
  by_cases h1 : k = 1
  · rw [if_pos h1]; omega
  rw [if_neg h1]
  by_cases h2 : k = 2
  · rw [if_pos h2]; omega
  rw [if_neg h2]; omega
theorem RA.ma {np : Nat} (A : RA ms np) : MA ms := by
  obtain ⟨Tt, hL8, -, hU, -, -, -, -, -, hk3⟩ := A
  exact ⟨hk3, fun sv ep hsv hc => crowd_no hL8 Tt.2.1 hsv (hU sv hsv) ep hc⟩
theorem k_carry (h : Bt fx σ x ms) (hm : Rm σ) (hfx : fx = false) {n np : Nat} (hn : ms.1 36 = nI n) (hn2 : n ≤ 200) (hnp : ms.1 28 = nI np) (hnp2 : np ≤ 200) (A : ∀ i, i < n → RA (takeM (okM ms) n i) np ∧ MI (takeM (okM ms) n i)) (h0 : ∀ i, i < n → (arrM (takeM (okM ms) n i) (n - 1) np).1 0 = 0) (a : Int32) : lcV cdL_carry (f_X9_carry σ (some x) a) (fun τ => f_X10_carry τ (some (x + 15)) a) (some x) (some (x + 15)) σ (fun τ => Bt fx τ x (if msgB n a = true then arrM (takeM (okM ms) n a.toNatClampNeg) (n - 1) np else noM ms) ∧ Gw (2 + 1) (8 + 6) σ τ) := by
  obtain ⟨G, P⟩ := h.1
  obtain ⟨r1, r2, r3⟩ := rowHas P hn hn2 a
  have hp := p_carry_eq ms a hn hn2 hnp hnp2 (fun i hi => ⟨(A i hi).2, (A i hi).1.ma⟩)
  by_cases hb : msgB n a = true
  · obtain ⟨k, hk, rfl⟩ := msgB_some hn2 hb
    rw [if_pos hb] at hp ⊢
    rw [nI_clamp (by omega)] at hp ⊢
    obtain ⟨σ1, c1, c2, c3⟩ := a_bring (P.cd 0) hfx (by have := hm.1; omega) (by have := hm.2; omega) (ms := okM ms) hn hn2 hk (A k hk).1
    have hcz : cz ((takeM (okM ms) n k).2.1 38 6) ≤ 2 := cz_le _
    refine stepV h (σ1 := σ1) (r := .ok ()) (c0 := 0) ?_ (Or.inl ⟨rfl, rfl⟩) (c3.le hcz (by omega)) ⟨G, c2⟩ hp (h0 k hk) (fun τ V => q_X10_carry V (nI k))
    unfold f_X9_carry
    rw [r1, h_b1_s, r2, h_b1_s, r3, h_bd_s, hb, if_neg (by decide), rcv_s P.2.1.1, h_b1_s, c1, h_bd_s]
  · have hb' := bool_f hb
    rw [if_neg hb] at hp ⊢
    refine stepV h (σ1 := σ) (r := .error 3) (c0 := 1) ?_ (Or.inr ⟨3, rfl, rfl⟩) (Kq.rf.le (by omega) (by omega)) ⟨G, P.cd 1⟩ hp noM_0 (fun τ V => q_X10_carry V a)
    unfold f_X9_carry
    rw [r1, h_b1_s, r2, h_b1_s, r3, h_bd_s, hb', if_pos (by rfl), hm.thr]
end SN2
