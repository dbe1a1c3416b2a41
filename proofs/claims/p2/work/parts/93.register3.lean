/-! A REGISTER comes: all of it -/
section RG3
variable {fx : Bool} {σ σ' : HS} {x : Nat} {G : Nat → Nat → Nat} {ms ms' : MS}
theorem Hd.to (H : Hd fx σ x ms) (s : Sm σ σ' (x + 12)) : Hd fx σ' x ms := fun j hj => by
  rw [s.2.2.1]
  exact H j hj
/-- refused -/
theorem refuse (P : Rep fx σ' x G ms) {d s : Nat} (K : Kq x d s σ σ') : (h_b1 (h_gI σ' (some x) 10 11) fun v => h_b1 (h_pI σ' (some x) 10 11 (v + 1)) fun q => (some ((), q) : Option (Unit × HS))) = some ((), h_setI σ' x 11 (ms.1 39 + 1)) ∧ Rep fx (h_setI σ' x 11 (ms.1 39 + 1)) x G (refM ms) ∧ Kq x d s σ (h_setI σ' x 11 (ms.1 39 + 1)) := by
  refine ⟨?_, Rep_xi P (k := 11) (by omega), K.tr (Kp_x P).q⟩
  rw [gI_s P.2.1.1, P.2.2.1.2.2.2.1, h_b1_s, pI_s P.2.1.1, h_b1_s]
theorem a_register (P : Rep fx σ x G ms) (H : Hd fx σ x ms) (hk : ms.2.1 38 6 = 0) (Tt : Tr ms) (hz : h_sz σ + 2 ≤ h_cz σ) (hs : h_sl σ + 7 ≤ h_ck σ) {t : Nat} (ht : ms.1 1 = nI t) (ht2 : t ≤ 1000000) {i : Nat} (hi : i < 8) (hpr : pr ms i) (U : UE ms i) :
    ∃ σ', f_X9_takeRegister σ (some x) (some (G 0 i)) = some ((), σ') ∧ Rep fx σ' x G (regM ms i) ∧ Kq x 2 7 σ σ' := by
  have F := P.2.1
  have B := P.n0
  have h50 := P.1.1
  have h3 : ¬ ms.2.1 38 6 = 3 := by rw [hk]; decide
  have hd : ∀ j, j < 8 → h_aI σ (some (x + 12)) 100 (nI j) = some (ms.2.1 38 j) := fun j hj => (H.at F hj (nloose h3)).2
  have e5 := (H.at F (j := 0) (by omega) (nloose h3)).1
  have d0 : h_aI σ (some (x + 12)) 100 0 = some (ms.2.1 38 0) := hd 0 (by omega)
  have d1 : h_aI σ (some (x + 12)) 100 1 = some (ms.2.1 38 1) := hd 1 (by omega)
  have d2 : h_aI σ (some (x + 12)) 100 2 = some (ms.2.1 38 2) := hd 2 (by omega)
  have d3 : h_aI σ (some (x + 12)) 100 3 = some (ms.2.1 38 3) := hd 3 (by omega)
  have d4 : h_aI σ (some (x + 12)) 100 4 = some (ms.2.1 38 4) := hd 4 (by omega)
  have bad : goodR ms i = false → regM ms i = refM ms := fun h => by unfold regM; rw [h, if_neg (by decide)]
  unfold f_X9_takeRegister
  rw [if_neg (fun z => by cases z), e5, h_b1_s, d0, h_b1_s, h_b1_s, d3, h_b1_s, h_b1_s, d4, h_b1_s, h_b1_s, d1, h_b1_s, h_b1_s, d2, h_b1_s]
  cases hv : vpB (ms.2.1 38 1) (ms.2.1 38 2) with
  | false =>
    obtain ⟨r1, r2, r3⟩ := refuse P (Kq.rf (x := x) (σ := σ))
    refine ⟨_, by rw [of_no hv, h_bd_s, if_pos rfl]; exact r1, ?_, r3.le (by omega) (by omega)⟩
    rw [bad (by unfold goodR; rw [hv]; cases siteB ms (ms.2.1 38 0) <;> cases decide (0 ≤ ms.2.1 38 3 ∧ ms.2.1 38 3 ≤ 15) <;> rfl)]
    exact r2
  | true =>
    obtain ⟨n, hn, hl, hvb⟩ := vpB_nI hv
    have hof := of_yes B (by omega) (by omega) hv 0 0
    have hp1 : hP (rpl (h_sz σ) (pSp (ms.2.1 38 1) (ms.2.1 38 2) 0 0) σ) (h_sz σ + 0) (ms.2.1 38 1) n := by rw [hl]; exact pxHP P hn hvb 0 0
    have K1 := pxK P (ms.2.1 38 1) (ms.2.1 38 2) 0 0
    have P1 := P.ext (Ext_rpl B (pSp (ms.2.1 38 1) (ms.2.1 38 2) 0 0))
    have H1 : Hd fx (rpl (h_sz σ) (pSp (ms.2.1 38 1) (ms.2.1 38 2) 0 0) σ) x ms := H.to (rpl_lo B (by omega) _)
    have hof' : f_X4_of σ (ms.2.1 38 1) (ms.2.1 38 2) = some (some (h_sz σ + 0), rpl (h_sz σ) (pSp (ms.2.1 38 1) (ms.2.1 38 2) 0 0) σ) := hof
    have hmkE : h_mk (rpl (h_sz σ) (pSp (ms.2.1 38 1) (ms.2.1 38 2) 0 0) σ) 1 5 = some (some (h_sz σ + 1), rpl (h_sz σ) ((0, 1, 0, 5, 0) :: pSp (ms.2.1 38 1) (ms.2.1 38 2) 0 0) σ) := E_mk B (l := pSp (ms.2.1 38 1) (ms.2.1 38 2) 0 0) (l' := (0, 1, 0, 5, 0) :: pSp (ms.2.1 38 1) (ms.2.1 38 2) 0 0) (c := 1) (w := 2) rfl rfl rfl (by omega) (by omega)
    generalize hτ : rpl (h_sz σ) (pSp (ms.2.1 38 1) (ms.2.1 38 2) 0 0) σ = τ at hp1 K1 P1 H1 hof' hmkE
    obtain ⟨f1, f2, f3⟩ := refuse P1 K1
    have fin : goodR ms i = false ∨ slotM ms i (ms.2.1 38 0) (ms.2.1 38 1) (ms.2.1 38 2) = none → Rep fx (h_setI τ x 11 (ms.1 39 + 1)) x G (regM ms i) := fun h => by
      have : regM ms i = refM ms := by
        rcases h with h | h
        · exact bad h
        · unfold regM slotR
          rw [h]
          split <;> rfl
      rw [this]
      exact f2
    have F1 := P1.2.1
    have hat := c_siteAt F1 P1.2.2.2.2.2.2.2 (ms.2.1 38 0)
    rw [hof', h_bd_s, if_neg (fun z => by cases z), rcv_s F1.1, h_b1_s, hat, h_bd_s]
    cases hsB : siteB ms (ms.2.1 38 0) with
    | false =>
      exact ⟨_, by rw [if_neg (show ¬ (false = true) by decide), if_pos rfl]; exact f1, fin (Or.inl (by unfold goodR; rw [hsB]; rfl)), f3.le (by omega) (by omega)⟩
    | true =>
      obtain ⟨s, hs8, hs0, hps⟩ := siteB_nI hsB
      rw [if_pos rfl, if_neg (fun z => by cases z), c_isPlace, h_bd_s]
      by_cases hpl : 0 ≤ ms.2.1 38 3 ∧ ms.2.1 38 3 ≤ 15
      · rw [decide_eq_true hpl, b2i_t, if_neg (by decide)]
        have d5 : h_aI τ (some (x + 12)) 100 5 = some (ms.2.1 38 5) := (H1.at F1 (j := 5) (by omega) (nloose h3)).2
        have htag := c_tag hp1 (ms.2.1 38 0) (ms.2.1 38 3) (ms.2.1 38 4)
        rw [← hl] at htag
        have hgood : goodR ms i = (decide (tagF (ms.2.1 38 0) (ms.2.1 38 1) (ms.2.1 38 2) (ms.2.1 38 3) (ms.2.1 38 4) = ms.2.1 38 5) && (decide (ownE ms (ms.2.1 38 1) (ln (ms.2.1 38 2)) = some i) && decide (ms.2.2 (8 * i + (ms.2.1 38 0).toNatClampNeg) < (ms.2.1 38 4).toInt64))) := by
          unfold goodR
          rw [hsB, hv, decide_eq_true hpl]
          simp only [Bool.true_and]
        generalize tagF (ms.2.1 38 0) (ms.2.1 38 1) (ms.2.1 38 2) (ms.2.1 38 3) (ms.2.1 38 4) = tg at htag hgood
        rw [(H1.at F1 (j := 0) (by omega) (nloose h3)).1, h_b1_s, d5, h_b1_s, htag, h_bd_s]
        by_cases htg : ms.2.1 38 5 = tg
        · have hown : (ownE ms (ms.2.1 38 1) (ln (ms.2.1 38 2)) = some i) ↔ ownB ms (ms.2.1 38 1) n i = true := by rw [hl, ln_nI hn, ownE_iff Tt hn, ownB_iff Tt hi hpr]
          rw [if_pos htg, gR_s F1.1, F1.2.1.1, h_b1_s, rcv_s F1.2.2.1.1, h_b1_s, c_owns F1 P1.2.2.2.2.2.2.1 Tt hi hpr hp1, h_bd_s]
          obtain ⟨-, I1⟩ := (P1.2.2.2.2.2.2.1.2.2 i hi).2 hpr
          cases hob : ownB ms (ms.2.1 38 1) n i with
          | false =>
            exact ⟨_, by rw [b2i_f, if_pos rfl]; exact f1, fin (Or.inl (by rw [hgood, decide_eq_false (show ¬ ownE ms (ms.2.1 38 1) (ln (ms.2.1 38 2)) = some i from fun z => by rw [hown.mp z] at hob; cases hob), Bool.false_and, Bool.and_false])), f3.le (by omega) (by omega)⟩
          | true =>
            have hfr := c_fresh hs8 I1 (ms.2.1 38 4)
            rw [← hs0] at hfr
            rw [b2i_t, if_neg (by decide), rcv_s I1.1, h_b1_s, hfr, h_bd_s]
            have hcl : (ms.2.1 38 0).toNatClampNeg = s := by rw [hs0, nI_clamp (by omega)]
            by_cases hfre : ms.2.2 (8 * i + s) < (ms.2.1 38 4).toInt64
            · have hroom := c_room I1 U hp1 (ms.2.1 38 0)
              rw [← hl] at hroom
              have hgt : goodR ms i = true := by rw [hgood, decide_eq_true htg.symm, decide_eq_true (hown.mpr hob), hcl, decide_eq_true hfre]; rfl
              have t9 : h_gI τ (some x) 10 9 = some (ms.1 1) := by rw [gI_s F1.1, P1.2.2.1.2.1]
              rw [decide_eq_true hfre, b2i_t, if_neg (by decide), t9, h_b1_s, rcv_s I1.1, h_b1_s, hroom, h_bd_s]
              cases hsl : slotM ms i (ms.2.1 38 0) (ms.2.1 38 1) (ms.2.1 38 2) with
              | none =>
                exact ⟨_, by rw [if_pos (by rfl)]; exact f1, fin (Or.inr hsl), f3.le (by omega) (by omega)⟩
              | some e =>
                rw [if_neg (show ¬ b2i (some e).isSome = 0 from (by decide : ¬ (1 : Int32) = 0)), hmkE, h_bd_s]
                have P2 := P.ext (Ext_rpl B (eN (ms.2.1 38 1) (ms.2.1 38 2) (ms.2.1 38 0) (ms.2.1 38 3) (ms.2.1 38 4) (ms.1 1 + 180)))
                have K2 : Kq x 2 7 σ (rpl (h_sz σ) (eN (ms.2.1 38 1) (ms.2.1 38 2) (ms.2.1 38 0) (ms.2.1 38 3) (ms.2.1 38 4) (ms.1 1 + 180)) σ) := Kq_rpl P _ (by exact Nat.le_refl 2) (by exact Nat.le_refl 7)
                have P15 := P.ext (Ext_rpl B ((0, 1, 0, 5, 0) :: pSp (ms.2.1 38 1) (ms.2.1 38 2) 0 0))
                have hrc : h_rcv (rpl (h_sz σ) ((0, 1, 0, 5, 0) :: pSp (ms.2.1 38 1) (ms.2.1 38 2) 0 0) σ) (some (h_sz σ + 1)) 1 = some (h_sz σ + 1) := E_rcv B rfl
                have hini : f_X0_init (rpl (h_sz σ) ((0, 1, 0, 5, 0) :: pSp (ms.2.1 38 1) (ms.2.1 38 2) 0 0) σ) (some (h_sz σ + 1)) (some (h_sz σ + 0)) (ms.2.1 38 0) (ms.2.1 38 3) (ms.2.1 38 4) (ms.1 1) = some ((), rpl (h_sz σ) (eN (ms.2.1 38 1) (ms.2.1 38 2) (ms.2.1 38 0) (ms.2.1 38 3) (ms.2.1 38 4) (ms.1 1 + 180)) σ) := by
                  unfold f_X0_init eN
                  rw [h_b1_s, E_pR B (t := 1) (l' := (1, 1, 0, 0, 0) :: (0, 1, 0, 5, 0) :: pSp (ms.2.1 38 1) (ms.2.1 38 2) 0 0) (off := 1) (r := 0) rfl rfl, h_b1_s, E_pI B (t := 1) (l' := (2, 1, 1, 0, ms.2.1 38 0) :: (1, 1, 0, 0, 0) :: (0, 1, 0, 5, 0) :: pSp (ms.2.1 38 1) (ms.2.1 38 2) 0 0) (off := 1) rfl rfl, h_b1_s, E_pI B (t := 1) (l' := (2, 1, 2, 0, ms.2.1 38 3) :: (2, 1, 1, 0, ms.2.1 38 0) :: (1, 1, 0, 0, 0) :: (0, 1, 0, 5, 0) :: pSp (ms.2.1 38 1) (ms.2.1 38 2) 0 0) (off := 1) rfl rfl, h_b1_s, E_pI B (t := 1) (l' := (2, 1, 3, 0, ms.2.1 38 4) :: (2, 1, 2, 0, ms.2.1 38 3) :: (2, 1, 1, 0, ms.2.1 38 0) :: (1, 1, 0, 0, 0) :: (0, 1, 0, 5, 0) :: pSp (ms.2.1 38 1) (ms.2.1 38 2) 0 0) (off := 1) rfl rfl, h_b1_s, E_pI B (t := 1) (l' := (2, 1, 4, 0, ms.1 1 + 180) :: (2, 1, 3, 0, ms.2.1 38 4) :: (2, 1, 2, 0, ms.2.1 38 3) :: (2, 1, 1, 0, ms.2.1 38 0) :: (1, 1, 0, 0, 0) :: (0, 1, 0, 5, 0) :: pSp (ms.2.1 38 1) (ms.2.1 38 2) 0 0) (off := 1) rfl rfl, h_b1_s]
                have hp2 : hP (rpl (h_sz σ) (eN (ms.2.1 38 1) (ms.2.1 38 2) (ms.2.1 38 0) (ms.2.1 38 3) (ms.2.1 38 4) (ms.1 1 + 180)) σ) (h_sz σ + 0) (ms.2.1 38 1) n := ⟨rpl_tg B 0 _, rpl_iv B 0 0 (eN (ms.2.1 38 1) (ms.2.1 38 2) (ms.2.1 38 0) (ms.2.1 38 3) (ms.2.1 38 4) (ms.1 1 + 180)) (Or.inl (show 0 < 2 by decide)), (rpl_iv B 0 1 (eN (ms.2.1 38 1) (ms.2.1 38 2) (ms.2.1 38 0) (ms.2.1 38 3) (ms.2.1 38 4) (ms.1 1 + 180)) (Or.inl (show 0 < 2 by decide))).trans hl, hn, hvb⟩
                have q1 : h_tg (rpl (h_sz σ) (eN (ms.2.1 38 1) (ms.2.1 38 2) (ms.2.1 38 0) (ms.2.1 38 3) (ms.2.1 38 4) (ms.1 1 + 180)) σ) (h_sz σ + 1) = 1 := rpl_tg B 1 _
                have q2 : h_rv (rpl (h_sz σ) (eN (ms.2.1 38 1) (ms.2.1 38 2) (ms.2.1 38 0) (ms.2.1 38 3) (ms.2.1 38 4) (ms.1 1 + 180)) σ) (h_sz σ + 1) 0 = some (h_sz σ + 0) := rpl_rv B 1 0 (eN (ms.2.1 38 1) (ms.2.1 38 2) (ms.2.1 38 0) (ms.2.1 38 3) (ms.2.1 38 4) (ms.1 1 + 180)) (Or.inl (show 1 < 2 by decide))
                have q3 : h_iv (rpl (h_sz σ) (eN (ms.2.1 38 1) (ms.2.1 38 2) (ms.2.1 38 0) (ms.2.1 38 3) (ms.2.1 38 4) (ms.1 1 + 180)) σ) (h_sz σ + 1) 1 = ms.2.1 38 0 := rpl_iv B 1 1 (eN (ms.2.1 38 1) (ms.2.1 38 2) (ms.2.1 38 0) (ms.2.1 38 3) (ms.2.1 38 4) (ms.1 1 + 180)) (Or.inl (show 1 < 2 by decide))
                have q4 : h_iv (rpl (h_sz σ) (eN (ms.2.1 38 1) (ms.2.1 38 2) (ms.2.1 38 0) (ms.2.1 38 3) (ms.2.1 38 4) (ms.1 1 + 180)) σ) (h_sz σ + 1) 2 = ms.2.1 38 3 := rpl_iv B 1 2 (eN (ms.2.1 38 1) (ms.2.1 38 2) (ms.2.1 38 0) (ms.2.1 38 3) (ms.2.1 38 4) (ms.1 1 + 180)) (Or.inl (show 1 < 2 by decide))
                have q5 : h_iv (rpl (h_sz σ) (eN (ms.2.1 38 1) (ms.2.1 38 2) (ms.2.1 38 0) (ms.2.1 38 3) (ms.2.1 38 4) (ms.1 1 + 180)) σ) (h_sz σ + 1) 3 = ms.2.1 38 4 := rpl_iv B 1 3 (eN (ms.2.1 38 1) (ms.2.1 38 2) (ms.2.1 38 0) (ms.2.1 38 3) (ms.2.1 38 4) (ms.1 1 + 180)) (Or.inl (show 1 < 2 by decide))
                have q6 : h_iv (rpl (h_sz σ) (eN (ms.2.1 38 1) (ms.2.1 38 2) (ms.2.1 38 0) (ms.2.1 38 3) (ms.2.1 38 4) (ms.1 1 + 180)) σ) (h_sz σ + 1) 4 = ms.1 1 + 180 := rpl_iv B 1 4 (eN (ms.2.1 38 1) (ms.2.1 38 2) (ms.2.1 38 0) (ms.2.1 38 3) (ms.2.1 38 4) (ms.1 1 + 180)) (Or.inl (show 1 < 2 by decide))
                generalize rpl (h_sz σ) (eN (ms.2.1 38 1) (ms.2.1 38 2) (ms.2.1 38 0) (ms.2.1 38 3) (ms.2.1 38 4) (ms.1 1 + 180)) σ = τ2 at P2 K2 hini hp2 q1 q2 q3 q4 q5 q6
                generalize rpl (h_sz σ) ((0, 1, 0, 5, 0) :: pSp (ms.2.1 38 1) (ms.2.1 38 2) 0 0) σ = τ15 at P15 hrc hini
                obtain ⟨-, I2⟩ := (P2.2.2.2.2.2.2.1.2.2 i hi).2 hpr
                have hsl' : slotM ms i (nI s) (ms.2.1 38 1) (nI n) = some e := by rw [← hs0, ← hl]; exact hsl
                obtain ⟨σ3, k1, k2, k3⟩ := a_keep P2 hi hpr U hs8 ht ht2 hp2 q1 q2 (q3.trans hs0) q4 q5 q6 hsl'
                have t15 : h_gI τ15 (some x) 10 9 = some (ms.1 1) := by rw [gI_s P15.2.1.1, P15.2.2.1.2.1]
                have t2' : h_gI τ2 (some x) 10 9 = some (ms.1 1) := by rw [gI_s P2.2.1.1, P2.2.2.1.2.1]
                refine ⟨σ3, ?_, ?_, K2.tr k3⟩
                · rw [t15, h_b1_s, hrc, h_b1_s, hini, h_bd_s, t2', h_b1_s, rcv_s I2.1, h_b1_s, k1, h_bd_s]
                · have : regM ms i = setM ms i e s (ms.2.1 38 1) (nI n) (ms.2.1 38 3) (ms.2.1 38 4) := by
                    unfold regM slotR
                    rw [hgt, if_pos rfl, hsl]
                    show setE ms i e = _
                    unfold setE setM
                    rw [hcl, ← hs0, ← hl]
                  rw [this]
                  exact k2
            · exact ⟨_, by rw [decide_eq_false hfre, b2i_f, if_pos rfl]; exact f1, fin (Or.inl (by rw [hgood, hcl, decide_eq_false hfre, Bool.and_false, Bool.and_false])), f3.le (by omega) (by omega)⟩
        · exact ⟨_, by rw [if_neg htg]; exact f1, fin (Or.inl (by rw [hgood, decide_eq_false (fun z => htg z.symm), Bool.false_and])), f3.le (by omega) (by omega)⟩
      · exact ⟨_, by rw [decide_eq_false hpl, b2i_f, if_pos rfl]; exact f1, fin (Or.inl (by unfold goodR; rw [hsB, decide_eq_false hpl]; rfl)), f3.le (by omega) (by omega)⟩
end RG3
