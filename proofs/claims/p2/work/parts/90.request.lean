/-! A REQUEST comes -/
section RQS
variable {fx : Bool} {σ : HS} {x : Nat} {G : Nat → Nat → Nat} {ms : MS}
theorem nloose {kd : Int32} {j : Nat} (h : ¬ kd = 3) : ¬ loose fx kd j := fun z => h z.2.1
theorem nloose3 {kd : Int32} {j : Nat} (h : j < 3 ∨ 5 < j) : ¬ loose fx kd j := fun z => by have := z.2.2; omega
theorem pxHP (P : Rep fx σ x G ms) {b : Int32} {n : Nat} (hn : n ≤ 32) (hv : vb n b = true) (c p : Int32) : hP (rpl (h_sz σ) (pSp b (nI n) c p) σ) (h_sz σ + 0) b n := ⟨rpl_tg P.n0 0 _, rpl_iv P.n0 0 0 _ (Or.inl (show 0 < 1 by decide)), rpl_iv P.n0 0 1 _ (Or.inl (show 0 < 1 by decide)), hn, hv⟩
theorem pxK (P : Rep fx σ x G ms) (b l c p : Int32) : Kq x 1 2 σ (rpl (h_sz σ) (pSp b l c p) σ) := Kq_rpl P _ (by exact Nat.le_refl 1) (by exact Nat.le_refl 2)
theorem a_request (P : Rep fx σ x G ms) (H : Hd fx σ x ms) (hk : ms.2.1 38 6 = 1) (Tt : Tr ms) (hL : ∀ k, k < 128 → Ln (ms.2.1 8 k)) (hz : h_sz σ + 1 ≤ h_cz σ) (hs : h_sl σ + 2 ≤ h_ck σ) {n i : Nat} (hn : ms.1 36 = nI n) (hn2 : n ≤ 200) (hi : i < 8) (hpr : pr ms i) (U : UE ms i) (hcr : ∀ ep, chiF ms i ep = none → crowd ms i ep 32 (bestE ms ep i) = false) :
    ∃ σ', f_X9_takeRequest σ (some x) (some (G 0 i)) = some ((), σ') ∧ Rep fx σ' x G (reqM ms n i) ∧ Kq x 1 2 σ σ' := by
  have F := P.2.1
  have S := P.2.2.2.2.2.2.1
  have h3 : ¬ ms.2.1 38 6 = 3 := by rw [hk]; decide
  obtain ⟨e5, a0⟩ := H.at F (j := 0) (by omega) (nloose h3)
  obtain ⟨-, a1⟩ := H.at F (j := 1) (by omega) (nloose h3)
  obtain ⟨-, a2⟩ := H.at F (j := 2) (by omega) (nloose h3)
  have a0' : h_aI σ (some (x + 12)) 100 0 = some (ms.2.1 38 0) := a0
  have a1' : h_aI σ (some (x + 12)) 100 1 = some (ms.2.1 38 1) := a1
  have a2' : h_aI σ (some (x + 12)) 100 2 = some (ms.2.1 38 2) := a2
  have hat := c_siteAt F P.2.2.2.2.2.2.2 (ms.2.1 38 0)
  have e0 : h_gR σ (some x) 10 0 = some (some (x + 1)) := by rw [gR_s F.1, F.2.1.1]
  have pre : ∀ {y}, (h_bd (f_X9_siteAt σ (some x) (ms.2.1 38 0)) fun r14 s15 => if r14 = none then some ((), s15) else h_b1 (h_gR s15 (some (G 0 i)) 7 2) fun x20 => h_b1 (h_rcv s15 x20 5) fun _ => h_bd (f_X4_has s15 x20 (ms.2.1 38 2)) fun r22 s23 => if r22 = 0 then some ((), s23) else h_b1 (h_gR s23 (some x) 10 0) fun x28 => h_b1 (h_rcv s23 x28 9) fun _ => h_bd (f_X8_childWith s23 x28 (some (G 0 i)) (ms.2.1 38 2)) fun r30 s31 => if r30 = none then h_b1 (h_gI s31 (some x) 10 9) fun x36 => h_b1 (h_rcv s31 (some (G 0 i)) 7) fun _ => h_bd (f_X6_best s31 (some (G 0 i)) (ms.2.1 38 2) x36) fun r38 s39 => h_b1 (h_gR s39 (some x) 10 0) fun x43 => h_b1 (h_gI s39 (some x) 10 9) fun x45 => h_b1 (h_rcv s39 x43 9) fun _ => h_bd (f_X8_piece s39 x43 (some (G 0 i)) r38 (ms.2.1 38 2) x45) fun r47 s48 => if r38 = none then h_b1 (h_rcv s48 (some x) 10) fun _ => h_bd (f_X9_postReply s48 (some x) (ms.2.1 38 0) (ms.2.1 38 1) 2 r47 0 0) fun _ s54 => some ((), s54) else h_b1 (h_gI s48 r38 1 2) fun x58 => h_b1 (h_gI s48 r38 1 3) fun x60 => h_b1 (h_rcv s48 (some x) 10) fun _ => h_bd (f_X9_postReply s48 (some x) (ms.2.1 38 0) (ms.2.1 38 1) 1 r47 x58 x60) fun _ s63 => some ((), s63) else h_b1 (h_gR s31 r30 7 2) fun x67 => h_b1 (h_gI s31 r30 7 0) fun x69 => h_b1 (h_rcv s31 (some x) 10) fun _ => h_bd (f_X9_postReply s31 (some x) (ms.2.1 38 0) (ms.2.1 38 1) 0 x67 x69 0) fun _ s72 => some ((), s72)) = y → f_X9_takeRequest σ (some x) (some (G 0 i)) = y := by
    intro y hy
    unfold f_X9_takeRequest
    rw [e5, h_b1_s, a0', h_b1_s, h_b1_s, a1', h_b1_s, h_b1_s, a2', h_b1_s, if_neg (fun z => by cases z), rcv_s F.1, h_b1_s]
    exact hy
  unfold reqM
  cases hsB : siteB ms (ms.2.1 38 0) with
  | false =>
    rw [hsB, if_neg (by decide)] at hat
    refine ⟨σ, pre (by rw [hat, h_bd_s, if_pos rfl]), ?_, Kq.rf.le (by omega) (by omega)⟩
    rw [Bool.false_and, if_neg (by decide)]
    exact P
  | true =>
    rw [hsB, if_pos rfl] at hat
    obtain ⟨-, q, hq, hPq⟩ := c_sv S F hi hpr
    have hag : ag (ln (ms.2.1 5 i)) (ms.2.1 4 i) (ms.2.1 38 2) = ag (pL ms i) (ms.2.1 38 2) (pB ms i) := ag_comm hPq.2.2.2.1
    rw [Bool.true_and, hag]
    cases hga : ag (pL ms i) (ms.2.1 38 2) (pB ms i) with
    | false =>
      refine ⟨σ, pre (by rw [hat, h_bd_s, if_neg (fun z => by cases z), hq, h_b1_s, rcv_s hPq.1, h_b1_s, has_eq hPq, h_bd_s, hga, if_pos (by rfl)]), ?_, Kq.rf.le (by omega) (by omega)⟩
      rw [if_neg (by decide)]
      exact P
    | true =>
      rw [if_pos rfl]
      have hch := c_childWith F S Tt hi hpr (ms.2.1 38 2)
      cases hcf : chiF ms i (ms.2.1 38 2) with
      | some c =>
        rw [hcf] at hch
        have hch' : f_X8_childWith σ (some (x + 1)) (some (G 0 i)) (ms.2.1 38 2) = some (some (G 0 c), σ) := hch
        obtain ⟨-, c2, c3, -⟩ := ff_some.mp hcf
        have hc6 := of_decide_eq_true ((Bool.and_eq_true _ _).mp c3).1
        have hprc : pr ms c := ch_pr Tt (by omega) hi hc6
        obtain ⟨-, q', hq', hPq'⟩ := c_sv S F (c := c) (by omega) hprc
        obtain ⟨-, Ic⟩ := (S.2.2 c (by omega)).2 hprc
        obtain ⟨σ', r1, r2, r3⟩ := a_postReply P hn hn2 hPq' (ms.2.1 38 0) (ms.2.1 38 1) 0 (nI c) 0
        refine ⟨σ', pre ?_, ?_, r3.q.le (by omega) (by omega)⟩
        · rw [hat, h_bd_s, if_neg (fun z => by cases z), hq, h_b1_s, rcv_s hPq.1, h_b1_s, has_eq hPq, h_bd_s, hga, if_neg (by decide), e0, h_b1_s, rcv_s F.2.2.1.1, h_b1_s, hch', h_bd_s, if_neg (fun z => by cases z), hq', h_b1_s, gI_s Ic.1, Ic.2.1, h_b1_s, rcv_s F.1, h_b1_s, r1, h_bd_s]
        · have e5' : ms.2.1 5 c = nI (pL ms c) := (Ln_nI (Tt.2.1 c (by omega))).1
          show Rep fx σ' x G (postM ms n (mG (ms.2.1 38 1) 0 (ms.2.1 4 c) (ms.2.1 5 c) (nI c) 0 2 (ms.2.1 38 0)))
          rw [e5']
          exact r2
      | none =>
        rw [hcf] at hch
        have hch' : f_X8_childWith σ (some (x + 1)) (some (G 0 i)) (ms.2.1 38 2) = some (none, σ) := hch
        obtain ⟨-, I⟩ := (S.2.2 i hi).2 hpr
        obtain ⟨r, hb, hr⟩ := c_best hi I U hL (ms.2.1 38 2)
        have hcr' := hcr (ms.2.1 38 2) hcf
        have t9 : h_gI σ (some x) 10 9 = some (ms.1 1) := by rw [gI_s F.1, P.2.2.1.2.1]
        have head : ∀ {y}, (h_bd (f_X8_piece σ (some (x + 1)) (some (G 0 i)) r (ms.2.1 38 2) (ms.1 1)) fun r47 s48 => if r = none then h_b1 (h_rcv s48 (some x) 10) fun _ => h_bd (f_X9_postReply s48 (some x) (ms.2.1 38 0) (ms.2.1 38 1) 2 r47 0 0) fun _ s54 => some ((), s54) else h_b1 (h_gI s48 r 1 2) fun x58 => h_b1 (h_gI s48 r 1 3) fun x60 => h_b1 (h_rcv s48 (some x) 10) fun _ => h_bd (f_X9_postReply s48 (some x) (ms.2.1 38 0) (ms.2.1 38 1) 1 r47 x58 x60) fun _ s63 => some ((), s63)) = y → f_X9_takeRequest σ (some x) (some (G 0 i)) = y := by
          intro y hy
          refine pre ?_
          rw [hat, h_bd_s, if_neg (fun z => by cases z), hq, h_b1_s, rcv_s hPq.1, h_b1_s, has_eq hPq, h_bd_s, hga, if_neg (by decide), e0, h_b1_s, rcv_s F.2.2.1.1, h_b1_s, hch', h_bd_s, if_pos rfl, t9, h_b1_s, rcv_s I.1, h_b1_s, hb, h_bd_s, e0, h_b1_s, t9, h_b1_s, rcv_s F.2.2.1.1, h_b1_s]
          exact hy
        have hpie : pieL ms i (ms.2.1 38 2) = ff (fun n => !crowd ms i (ms.2.1 38 2) n (bestE ms (ms.2.1 38 2) i)) (match bestE ms (ms.2.1 38 2) i with | none => ln (ms.2.1 5 i) | some k => ln (ms.2.1 8 k)) (33 - (match bestE ms (ms.2.1 38 2) i with | none => ln (ms.2.1 5 i) | some k => ln (ms.2.1 8 k))) := rfl
        show ∃ σ', _ ∧ Rep fx σ' x G (match pieL ms i (ms.2.1 38 2) with | some L => repM ms n i L | none => ms) ∧ _
        cases hbe : bestE ms (ms.2.1 38 2) i with
        | none =>
          rw [hbe] at hr hpie hcr'
          have hr0 : r = none := hr
          obtain ⟨L, L1, L2, L3⟩ := c_pie P Tt hi hpr U hL hz hs (ms.2.1 38 2) hr (32 - pL ms i) h_hN (pL ms i) (by have := hPq.2.2.2.1; omega) (h_hN_lt (by omega)) hcr'
          have hpie' : pieL ms i (ms.2.1 38 2) = some L := hpie.trans L2
          rw [hpie']
          have P1 := P.ext (Ext_rpl P.n0 (pSp (ms.2.1 38 2 &&& mk L) (nI L) 0 0))
          have hp1 := pxHP P (b := ms.2.1 38 2 &&& mk L) L1 (vb_cut L1 _) 0 0
          have K1 := pxK P (ms.2.1 38 2 &&& mk L) (nI L) 0 0
          have hpc : f_X8_piece σ (some (x + 1)) (some (G 0 i)) r (ms.2.1 38 2) (ms.1 1) = some (some (h_sz σ + 0), rpl (h_sz σ) (pSp (ms.2.1 38 2 &&& mk L) (nI L) 0 0) σ) := by
            unfold f_X8_piece
            rw [if_pos hr0, hq, h_b1_s, gI_s hPq.1, hPq.2.2.1, h_b1_s, L3]
          generalize rpl (h_sz σ) (pSp (ms.2.1 38 2 &&& mk L) (nI L) 0 0) σ = τ at P1 hp1 K1 hpc
          obtain ⟨σ', r1, r2, r3⟩ := a_postReply P1 hn hn2 hp1 (ms.2.1 38 0) (ms.2.1 38 1) 2 0 0
          refine ⟨σ', head ?_, ?_, K1.tr r3.q⟩
          · rw [hpc, h_bd_s, if_pos hr0, rcv_s P1.2.1.1, h_b1_s, r1, h_bd_s]
          · show Rep fx σ' x G (repM ms n i L)
            unfold repM
            rw [hbe]
            exact r2
        | some k =>
          rw [hbe] at hr hpie hcr'
          obtain ⟨g1, g2, j, a, g3, g4, g5⟩ := id hr
          obtain ⟨ta, pa, ba, na, w1, w2, w3, w4, -⟩ := ent_px I g4
          have e8 : ms.2.1 8 k = nI na := by rw [← w4, g5]; rfl
          obtain ⟨L, L1, L2, L3⟩ := c_pie P Tt hi hpr U hL hz hs (ms.2.1 38 2) hr (32 - na) h_hN na (by have := w2.2.2.2.1; omega) (h_hN_lt (by omega)) hcr'
          have hpie' : pieL ms i (ms.2.1 38 2) = some L := by
            refine hpie.trans ?_
            show ff _ (ln (ms.2.1 8 k)) (33 - ln (ms.2.1 8 k)) = some L
            rw [e8, ln_nI w2.2.2.2.1]
            exact L2
          rw [hpie']
          have P1 := P.ext (Ext_rpl P.n0 (pSp (ms.2.1 38 2 &&& mk L) (nI L) 0 0))
          have hp1 := pxHP P (b := ms.2.1 38 2 &&& mk L) L1 (vb_cut L1 _) 0 0
          have K1 := pxK P (ms.2.1 38 2 &&& mk L) (nI L) 0 0
          have sa := rpl_lo P.n0 (a := a) (P.lt (by rw [ta]; decide)) (pSp (ms.2.1 38 2 &&& mk L) (nI L) 0 0)
          have hpc : f_X8_piece σ (some (x + 1)) (some (G 0 i)) r (ms.2.1 38 2) (ms.1 1) = some (some (h_sz σ + 0), rpl (h_sz σ) (pSp (ms.2.1 38 2 &&& mk L) (nI L) 0 0) σ) := by
            unfold f_X8_piece
            rw [if_neg (by rw [g3]; exact fun z => by cases z)]
            have : h_gR σ r 1 0 = some (some pa) := by rw [g3]; exact w1
            rw [this, h_b1_s, gI_s w2.1, w2.2.2.1, h_b1_s, L3]
          generalize rpl (h_sz σ) (pSp (ms.2.1 38 2 &&& mk L) (nI L) 0 0) σ = τ at P1 hp1 K1 hpc sa
          obtain ⟨σ', r1, r2, r3⟩ := a_postReply P1 hn hn2 hp1 (ms.2.1 38 0) (ms.2.1 38 1) 1 (ms.2.1 10 k) (ms.2.1 11 k)
          refine ⟨σ', head ?_, ?_, K1.tr r3.q⟩
          · have v2 : h_gI τ r 1 2 = some (ms.2.1 10 k) := by rw [g3, gI_s (by rw [sa.1]; exact ta), sa.2.2.1]; exact congrArg (fun q : E6 => some q.2.2.2.1) g5
            have v3 : h_gI τ r 1 3 = some (ms.2.1 11 k) := by rw [g3, gI_s (by rw [sa.1]; exact ta), sa.2.2.1]; exact congrArg (fun q : E6 => some q.2.2.2.2.1) g5
            rw [hpc, h_bd_s, if_neg (by rw [g3]; exact fun z => by cases z), v2, h_b1_s, v3, h_b1_s, rcv_s P1.2.1.1, h_b1_s, r1, h_bd_s]
          · show Rep fx σ' x G (repM ms n i L)
            unfold repM
            rw [hbe]
            exact r2
end RQS
