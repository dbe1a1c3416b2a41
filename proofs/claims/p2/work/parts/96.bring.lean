/-! A MESSAGE IS CARRIED -/
/-- what is known of the reference when a message is in its hand -/
def RA (ms : MS) (np : Nat) : Prop := Tr ms ∧ (∀ k, k < 128 → Ln (ms.2.1 8 k)) ∧ (∀ k, k < 48 → Ln (ms.2.1 20 k)) ∧ (∀ i, i < 8 → UE ms i) ∧ (∃ t, t ≤ 1000000 ∧ ms.1 1 = nI t) ∧ (∀ s, s < 8 → ON ms s ∧ DN ms s) ∧ (np ≤ 200 ∧ ms.1 28 = nI np ∧ WN ms np ∧ ∀ i, i < np → ms.2.1 31 (i + 1) = 0 → ∃ k, k ≤ 8 ∧ ms.2.1 34 (i + 1) = nI k) ∧ (∀ p, p < 16 → ms.2.1 26 p = -1 ∨ ∃ w, w < 8 ∧ ms.2.1 26 p = nI w ∧ ¬ ms.2.1 14 w = -1) ∧ (ms.2.1 38 6 = 0 ∨ ms.2.1 38 6 = 1 ∨ ms.2.1 38 6 = 2 ∨ ms.2.1 38 6 = 3 ∨ ms.2.1 38 6 = 4) ∧ (ms.2.1 38 6 = 3 → ∃ pl, pl < 16 ∧ ms.2.1 38 7 = nI pl)
/-- how many cells a message's coming makes -/
def cz (k : Int32) : Nat := if k = 0 then 2 else if k = 1 then 1 else if k = 2 then 2 else 0
section BRG
variable {fx : Bool} {σ σ' : HS} {x : Nat} {G : Nat → Nat → Nat} {ms ms' : MS}
/-- alone, an endpoint has nothing but the best in it -/
theorem crowd_no (hL : ∀ k, k < 128 → Ln (ms.2.1 8 k)) (hP5 : ∀ k, k < 8 → Ln (ms.2.1 5 k)) {i : Nat} (hi : i < 8) (U : UE ms i) (ep : Int32) (hc : chiF ms i ep = none) : crowd ms i ep 32 (bestE ms ep i) = false := by
  obtain ⟨b1, b2⟩ := bestE_spec ms ep i hi hL
  have h1 : ff (inE ms ep 32 (bestE ms ep i)) (16 * i) 16 = none := ff_none.mpr (fun k g1 g2 => bool_f (fun z => by
    unfold inE at z
    obtain ⟨z1, z2⟩ := (Bool.and_eq_true _ _).mp z
    obtain ⟨z3, z4⟩ := (Bool.and_eq_true _ _).mp z2
    obtain ⟨z5, z6⟩ := (Bool.and_eq_true _ _).mp z4
    obtain ⟨w1, w2⟩ := Ln_nI (hL k (by omega))
    have e32 : ln (ms.2.1 8 k) = 32 := by have := of_decide_eq_true z5; omega
    have ek : ep = ms.2.1 7 k := ag_32 z6
    have hh : hitE ms ep k = true := by
      unfold hitE
      rw [z3, e32, ← ek, ag_refl (by omega)]
      rfl
    cases hb : bestE ms ep i with
    | none =>
      have := b2 hb k g1 g2
      rw [hh] at this
      cases this
    | some kb =>
      obtain ⟨c1, c2, c3⟩ := b1 kb hb
      have hle := c3 k g1 g2 hh
      obtain ⟨v1, v2⟩ := Ln_nI (hL kb (by omega))
      have e32b : ln (ms.2.1 8 kb) = 32 := by omega
      unfold hitE at c2
      obtain ⟨c4, c5⟩ := (Bool.and_eq_true _ _).mp c2
      rw [e32b] at c5
      have ekb := ag_32 c5
      have : k = kb := U k kb g1 g2 c1.1 c1.2 z3 c4 (by rw [ekb, ek]) (by rw [w1, v1, e32, e32b])
      rw [hb, this] at z1
      simp at z1))
  have h2 : ff (inC ms i ep 32) 0 8 = none := ff_none.mpr (fun c g1 g2 => bool_f (fun z => by
    unfold inC at z
    obtain ⟨z1, z2⟩ := (Bool.and_eq_true _ _).mp z
    obtain ⟨z3, z4⟩ := (Bool.and_eq_true _ _).mp z2
    have w2 := (Ln_nI (hP5 c (by omega))).2
    have e32 : ln (ms.2.1 5 c) = 32 := by have := of_decide_eq_true z3; omega
    have ek : ep = ms.2.1 4 c := ag_32 z4
    have := ff_none.mp hc c g1 g2
    rw [z1, e32, ← ek, ag_refl (by omega)] at this
    cases this))
  unfold crowd
  rw [h1, h2]
  rfl
theorem a_take (P : Rep fx σ x G ms) {n k : Nat} (hn : ms.1 36 = nI n) (hn2 : n ≤ 200) (hk : k < n) : ∃ σ1 σ2, f_X5_copy σ (some (x + 10)) (nI k) (some (x + 12)) = some ((), σ1) ∧ Rep fx σ1 x G ms ∧ f_X5_remove σ1 (some (x + 10)) (nI k) = some ((), σ2) ∧ Rep fx σ2 x G (takeM ms n k) ∧ Hd fx σ2 x (takeM ms n k) ∧ Kq x 0 0 σ σ2 := by
  obtain ⟨f, n', a1, a2, a3, a4, a5, a6, a7⟩ := id P.2.2.2.1
  have en : n' = n := (nI_eq (by omega) (by omega)).mp (a5.symm.trans hn)
  have hc := c_copy P.2.1 (q := k) a3 a1 (by omega)
  have W0 : WI [x + 12] σ (h_setA σ (x + 12) (va_cpy (h_iv σ (x + 11)) (h_iv σ (x + 12)) (8 * ring f k) 0 8)) := WI_A (by simp)
  have hv : ∀ j, j < 8 → h_iv (h_setA σ (x + 12) (va_cpy (h_iv σ (x + 11)) (h_iv σ (x + 12)) (8 * ring f k) 0 8)) (x + 12) j = cel σ x f k j := by
    intro j hj
    rw [iv_sA]
    unfold va_cpy cel
    rw [if_pos ⟨by omega, by omega⟩]
    rfl
  generalize h_setA σ (x + 12) (va_cpy (h_iv σ (x + 11)) (h_iv σ (x + 12)) (8 * ring f k) 0 8) = σ1 at hc W0 hv
  have W1 : WI [x + 10, x + 11, x + 12, x + 13] σ σ1 := W0.up (fun b hb => by simp only [List.mem_cons, List.mem_nil_iff, or_false] at hb ⊢; omega)
  have R1 : Rx fx σ1 x ms := P.2.2.2.1.to (W0.sm (by simp)) (W0.sm (by simp)) rfl rfl (fun _ => rfl)
  have P1 : Rep fx σ1 x G ms := Rep_row P W1 R1 (fun _ _ _ _ => rfl) (fun _ _ _ _ => rfl) rfl
  obtain ⟨σ2, r1, r2, r3⟩ := c_remove P1.2.1 P1.2.2.2.1 hn hn2 hk
  have W2 : WI [x + 10, x + 11, x + 12, x + 13] σ1 σ2 := r2.up (fun b hb => by simp only [List.mem_cons, List.mem_nil_iff, or_false] at hb ⊢; omega)
  have P2 : Rep fx σ2 x G (takeM ms n k) := Rep_row P1 W2 r3 (fun q h1 _ _ => takeM_s h1) (fun q j h1 h2 => takeM_k h1 h2) rfl
  refine ⟨σ1, σ2, hc, P1, r1, P2, fun j hj => ?_, (Kq_row P W1).tr (Kq_row P1 W2)⟩
  rw [takeM_38 (show 6 < 8 by omega), takeM_38 hj, (r2.sm (show x + 12 ∉ [x + 10, x + 11] by simp)).2.2.1, hv j hj]
  exact a7 k j (by omega) hj
/-- a message is carried: all kinds -/
theorem a_bring (P : Rep fx σ x G ms) (hfx : fx = false) (hz : h_sz σ + 2 ≤ h_cz σ) (hsl : h_sl σ + 7 ≤ h_ck σ) {n k np : Nat} (hn : ms.1 36 = nI n) (hn2 : n ≤ 200) (hk : k < n) (A : RA (takeM ms n k) np) : ∃ σ', f_X9_bring σ (some x) (nI k) = some ((), σ') ∧ Rep fx σ' x G (arrM (takeM ms n k) (n - 1) np) ∧ Kq x (cz ((takeM ms n k).2.1 38 6)) (4 * cz ((takeM ms n k).2.1 38 6)) σ σ' := by
  obtain ⟨σ1, σ2, c1, P1, c2, P2, H2, K2⟩ := a_take P hn hn2 hk
  have F := P.2.1
  have F1 := P1.2.1
  have F2 := P2.2.1
  have hn' : (takeM ms n k).1 36 = nI (n - 1) := takeM_36
  generalize takeM ms n k = m2 at P2 H2 A hn'
  obtain ⟨Tt, hL8, hL20, hU, ⟨t, ht2, ht⟩, hON, ⟨hnp2, hnp, hWN, hst⟩, hWS, hkd, hk3⟩ := A
  have hz2 : h_sz σ2 + 2 ≤ h_cz σ2 := by have := K2.2.1; have := K2.2.2.2.1; omega
  have hsl2 : h_sl σ2 + 7 ≤ h_ck σ2 := by have := K2.2.2.1; have := K2.2.2.2.2.1; omega
  have e5 := (H2.at F2 (j := 6) (by omega) (nloose3 (by omega))).1
  have d6 : h_aI σ2 (some (x + 12)) 100 6 = some (m2.2.1 38 6) := (H2.at F2 (j := 6) (by omega) (nloose3 (by omega))).2
  have d7 : h_aI σ2 (some (x + 12)) 100 7 = some (m2.2.1 38 7) := (H2.at F2 (j := 7) (by omega) (nloose3 (by omega))).2
  have e0 : h_gR σ2 (some x) 10 0 = some (some (x + 1)) := by rw [gR_s F2.1, F2.2.1.1]
  have hat := c_at F2 P2.2.2.2.2.2.2.1 (m2.2.1 38 7)
  have hsa := c_siteAt F2 P2.2.2.2.2.2.2.2 (m2.2.1 38 7)
  have pre : ∀ {y}, (if m2.2.1 38 6 = 0 then h_b1 (h_gR σ2 (some x) 10 0) fun x26 => h_b1 (h_rcv σ2 x26 9) fun _ => h_bd (f_X8_at σ2 x26 (m2.2.1 38 7)) fun r28 s29 => h_b1 (h_rcv s29 (some x) 10) fun _ => h_bd (f_X9_takeRegister s29 (some x) r28) fun _ s34 => some ((), s34) else if m2.2.1 38 6 = 1 then h_b1 (h_gR σ2 (some x) 10 0) fun x39 => h_b1 (h_rcv σ2 x39 9) fun _ => h_bd (f_X8_at σ2 x39 (m2.2.1 38 7)) fun r41 s42 => h_b1 (h_rcv s42 (some x) 10) fun _ => h_bd (f_X9_takeRequest s42 (some x) r41) fun _ s47 => some ((), s47) else if m2.2.1 38 6 = 2 then h_b1 (h_rcv σ2 (some x) 10) fun _ => h_bd (f_X9_takeReply σ2 (some x) (m2.2.1 38 7)) fun _ s53 => some ((), s53) else if m2.2.1 38 6 = 3 then h_b1 (h_rcv σ2 (some x) 10) fun _ => h_bd (f_X9_takeData σ2 (some x) (m2.2.1 38 7)) fun _ s59 => some ((), s59) else if m2.2.1 38 6 = 4 then h_b1 (h_rcv σ2 (some x) 10) fun _ => h_bd (f_X9_siteAt σ2 (some x) (m2.2.1 38 7)) fun r64 s65 => h_b1 (h_rcv s65 (some x) 10) fun _ => h_bd (f_X9_takeSolicit s65 (some x) r64) fun _ s70 => some ((), s70) else some ((), σ2)) = y → f_X9_bring σ (some x) (nI k) = y := by
    intro y hy
    unfold f_X9_bring
    rw [gR_s F.1, F.rRow, h_b1_s, gR_s F.1, F.rHand, h_b1_s, rcv_s F.rw6, h_b1_s, c1, h_bd_s, gR_s F1.1, F1.rRow, h_b1_s, rcv_s F1.rw6, h_b1_s, c2, h_bd_s, e5, h_b1_s, d7, h_b1_s, h_b1_s, d6, h_b1_s]
    exact hy
  have stay : Rep fx σ2 x G m2 ∧ Kq x (cz (m2.2.1 38 6)) (4 * cz (m2.2.1 38 6)) σ σ2 := ⟨P2, K2.le (by omega) (by omega)⟩
  unfold arrM
  rcases hkd with h0 | h1 | h2 | h3 | h4
  · rw [if_pos h0]
    cases hsv : srvB m2 (m2.2.1 38 7) with
    | false =>
      rw [hsv, if_neg (by decide)] at hat
      refine ⟨σ2, pre ?_, by rw [if_neg (by decide)]; exact stay.1, stay.2⟩
      rw [if_pos h0, e0, h_b1_s, rcv_s F2.2.2.1.1, h_b1_s, hat, h_bd_s, rcv_s F2.1, h_b1_s]
      unfold f_X9_takeRegister
      rw [if_pos rfl, h_bd_s]
    | true =>
      obtain ⟨i, hi, hi7, hpr⟩ := srvB_nI hsv
      have hcl : (m2.2.1 38 7).toNatClampNeg = i := by rw [hi7, nI_clamp (by omega)]
      rw [hsv, if_pos rfl, hcl] at hat
      obtain ⟨σ3, r1, r2, r3⟩ := a_register P2 H2 h0 Tt hz2 hsl2 ht ht2 hi hpr (hU i hi)
      refine ⟨σ3, pre ?_, by rw [if_pos rfl, hcl]; exact r2, (K2.tr r3).le (by rw [h0]; decide) (by rw [h0]; decide)⟩
      rw [if_pos h0, e0, h_b1_s, rcv_s F2.2.2.1.1, h_b1_s, hat, h_bd_s, rcv_s F2.1, h_b1_s, r1, h_bd_s]
  · have n0 : ¬ m2.2.1 38 6 = 0 := by rw [h1]; decide
    rw [if_neg n0, if_pos h1]
    cases hsv : srvB m2 (m2.2.1 38 7) with
    | false =>
      rw [hsv, if_neg (by decide)] at hat
      refine ⟨σ2, pre ?_, by rw [if_neg (by decide)]; exact stay.1, stay.2⟩
      rw [if_neg n0, if_pos h1, e0, h_b1_s, rcv_s F2.2.2.1.1, h_b1_s, hat, h_bd_s, rcv_s F2.1, h_b1_s]
      have d0 : h_aI σ2 (some (x + 12)) 100 0 = some (m2.2.1 38 0) := (H2.at F2 (j := 0) (by omega) (nloose3 (by omega))).2
      have d1 : h_aI σ2 (some (x + 12)) 100 1 = some (m2.2.1 38 1) := (H2.at F2 (j := 1) (by omega) (nloose3 (by omega))).2
      have d2 : h_aI σ2 (some (x + 12)) 100 2 = some (m2.2.1 38 2) := (H2.at F2 (j := 2) (by omega) (nloose3 (by omega))).2
      unfold f_X9_takeRequest
      rw [e5, h_b1_s, d0, h_b1_s, h_b1_s, d1, h_b1_s, h_b1_s, d2, h_b1_s, if_pos rfl, h_bd_s]
    | true =>
      obtain ⟨i, hi, hi7, hpr⟩ := srvB_nI hsv
      have hcl : (m2.2.1 38 7).toNatClampNeg = i := by rw [hi7, nI_clamp (by omega)]
      rw [hsv, if_pos rfl, hcl] at hat
      obtain ⟨σ3, r1, r2, r3⟩ := a_request P2 H2 h1 Tt hL8 (by omega) (by omega) hn' (by omega) hi hpr (hU i hi) (fun ep hc => crowd_no hL8 Tt.2.1 hi (hU i hi) ep hc)
      refine ⟨σ3, pre ?_, by rw [if_pos rfl, hcl]; exact r2, (K2.tr r3).le (by rw [h1]; decide) (by rw [h1]; decide)⟩
      rw [if_neg n0, if_pos h1, e0, h_b1_s, rcv_s F2.2.2.1.1, h_b1_s, hat, h_bd_s, rcv_s F2.1, h_b1_s, r1, h_bd_s]
  · have n0 : ¬ m2.2.1 38 6 = 0 := by rw [h2]; decide
    have n1 : ¬ m2.2.1 38 6 = 1 := by rw [h2]; decide
    rw [if_neg n0, if_neg n1, if_pos h2]
    cases hsB : siteB m2 (m2.2.1 38 7) with
    | false =>
      rw [hsB, if_neg (by decide)] at hsa
      refine ⟨σ2, pre ?_, by rw [if_neg (by decide)]; exact stay.1, stay.2⟩
      rw [if_neg n0, if_neg n1, if_pos h2, rcv_s F2.1, h_b1_s]
      unfold f_X9_takeReply
      rw [rcv_s F2.1, h_b1_s, hsa, h_bd_s, if_pos rfl, h_bd_s]
    | true =>
      obtain ⟨s, hs, hs7, hps⟩ := siteB_nI hsB
      have hcl : (m2.2.1 38 7).toNatClampNeg = s := by rw [hs7, nI_clamp (by omega)]
      obtain ⟨σ3, r1, r2, r3⟩ := a_reply P2 H2 h2 hfx hz2 (by omega) ht ht2 hs hps (hON s hs).1 hL20 hn' (by omega) hnp hnp2 hWN hst
      refine ⟨σ3, pre ?_, by rw [if_pos rfl, hcl, hs7]; exact r2, (K2.tr r3).le (by rw [h2]; decide) (by rw [h2]; decide)⟩
      rw [if_neg n0, if_neg n1, if_pos h2, rcv_s F2.1, h_b1_s, hs7, r1, h_bd_s]
  · have n0 : ¬ m2.2.1 38 6 = 0 := by rw [h3]; decide
    have n1 : ¬ m2.2.1 38 6 = 1 := by rw [h3]; decide
    have n2 : ¬ m2.2.1 38 6 = 2 := by rw [h3]; decide
    obtain ⟨pl, hpl, h7⟩ := hk3 h3
    have hcl : (m2.2.1 38 7).toNatClampNeg = pl := by rw [h7, nI_clamp (by omega)]
    obtain ⟨σ3, r1, r2, r3⟩ := a_data P2 H2 hfx hpl h7 hn' (by omega) hnp hnp2 (hWS pl hpl)
    refine ⟨σ3, pre ?_, by rw [if_neg n0, if_neg n1, if_neg n2, if_pos h3, hcl]; exact r2, (K2.tr r3).le (by rw [h3]; decide) (by rw [h3]; decide)⟩
    rw [if_neg n0, if_neg n1, if_neg n2, if_pos h3, rcv_s F2.1, h_b1_s, h7, r1, h_bd_s]
  · have n0 : ¬ m2.2.1 38 6 = 0 := by rw [h4]; decide
    have n1 : ¬ m2.2.1 38 6 = 1 := by rw [h4]; decide
    have n2 : ¬ m2.2.1 38 6 = 2 := by rw [h4]; decide
    have n3 : ¬ m2.2.1 38 6 = 3 := by rw [h4]; decide
    rw [if_neg n0, if_neg n1, if_neg n2, if_neg n3]
    cases hsB : siteB m2 (m2.2.1 38 7) with
    | false =>
      rw [hsB, if_neg (by decide)] at hsa
      refine ⟨σ2, pre ?_, by rw [if_neg (by decide)]; exact stay.1, stay.2⟩
      rw [if_neg n0, if_neg n1, if_neg n2, if_neg n3, if_pos h4, rcv_s F2.1, h_b1_s, hsa, h_bd_s, rcv_s F2.1, h_b1_s]
      unfold f_X9_takeSolicit
      rw [if_pos rfl, h_bd_s]
    | true =>
      obtain ⟨s, hs, hs7, hps⟩ := siteB_nI hsB
      have hcl : (m2.2.1 38 7).toNatClampNeg = s := by rw [hs7, nI_clamp (by omega)]
      rw [hsB, if_pos rfl, hcl] at hsa
      have I := P2.si hs hps
      have d0 : h_aI σ2 (some (x + 12)) 100 0 = some (m2.2.1 38 0) := (H2.at F2 (j := 0) (by omega) (nloose3 (by omega))).2
      have d1 : h_aI σ2 (some (x + 12)) 100 1 = some (m2.2.1 38 1) := (H2.at F2 (j := 1) (by omega) (nloose3 (by omega))).2
      have t9 : h_gI σ2 (some x) 10 9 = some (m2.1 1) := by rw [gI_s F2.1, P2.2.2.1.2.1]
      obtain ⟨σ3, r1, r2, r3⟩ := a_forget P2 hs hps (hON s hs).2 hL20 ht ht2 (m2.2.1 38 0) (m2.2.1 38 1)
      refine ⟨σ3, pre ?_, by rw [if_pos rfl, hcl]; exact r2, (K2.tr r3).le (by rw [h4]; decide) (by rw [h4]; decide)⟩
      rw [if_neg n0, if_neg n1, if_neg n2, if_neg n3, if_pos h4, rcv_s F2.1, h_b1_s, hsa, h_bd_s, rcv_s F2.1, h_b1_s]
      unfold f_X9_takeSolicit
      rw [if_neg (fun z => by cases z), gR_s I.1, I.2.2.2.2.2.2.1.1, h_b1_s, e5, h_b1_s, d0, h_b1_s, h_b1_s, d1, h_b1_s, t9, h_b1_s, rcv_s I.2.2.2.2.2.2.1.2, h_b1_s, r1, h_bd_s, h_bd_s]
end BRG
