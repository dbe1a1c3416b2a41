/-! DATA comes; a SOLICIT comes -/
section DTA
variable {fx : Bool} {σ σ' : HS} {x : Nat} {G : Nat → Nat → Nat} {ms ms' : MS}
theorem los_post {n p : Nat} {v : Int32} {f : Nat → Int32} : losM (postM (k_pI ms 41 v) n f) p = postM (k_pI (losM ms p) 41 v) n f := by
  have e31 : ∀ {m : MS}, (postM m n f).2.1 31 p = m.2.1 31 p := postM_k (by decide)
  unfold losM
  rw [e31]
  show (if ms.2.1 31 p = 1 then _ else _) = _
  by_cases h : ms.2.1 31 p = 1
  · rw [if_pos h, if_pos h]
    unfold postM
    by_cases hn : n = 200
    · rw [if_pos hn, if_pos hn]
      rfl
    · rw [if_neg hn, if_neg hn]
      show ((_ : Nat → Int32), h_up2 (h_upA ms.2.1 37 _) 31 p 4, ms.2.2) = (_, h_upA (h_up2 ms.2.1 31 p 4) 37 _, ms.2.2)
      congr 2
      funext k j
      unfold h_up2 h_upA
      by_cases h1 : k = 37
      · have h2 : ¬ (k = 31 ∧ j = p) := fun z => by omega
        rw [if_neg h2, if_pos h1, if_pos h1]
        show _ = if j / 8 = n then f (j % 8) else (if 37 = 31 ∧ j = p then 4 else ms.2.1 37 j)
        rw [if_neg (show ¬ (37 = 31 ∧ j = p) from fun z => by omega)]
        rfl
      · rw [if_neg h1, if_neg h1]
  · rw [if_neg h, if_neg h]
/-- the fields behind the third of DATA are held loosely -/
theorem Rep_loose {n : Nat} {f g : Nat → Int32} (P : Rep fx σ x G (postM ms n f)) (hfx : fx = false) (hn : ms.1 36 = nI n) (hn2 : n ≤ 200) (h6 : f 6 = 3) (hfg : ∀ j, j < 8 → (j < 3 ∨ 5 < j) → f j = g j) : Rep fx σ x G (postM ms n g) := by
  have e1 : ∀ k, (postM ms n g).1 k = (postM ms n f).1 k := fun k => by unfold postM; split <;> rfl
  have e2 : ∀ k j, k ≠ 37 → (postM ms n g).2.1 k j = (postM ms n f).2.1 k j := fun k j h => by rw [postM_k h, postM_k h]
  have e3 : (postM ms n g).2.2 = (postM ms n f).2.2 := by rw [postM_L, postM_L]
  obtain ⟨Z, F, N, R, W, K, S, T⟩ := P
  refine ⟨Z, F, N.to Sm.rf (e1 _) (e1 _) (e1 _) (e1 _) (e1 _) (e1 _), ?_, W.to Sm.rf Sm.rf (e1 _) (fun _ => e2 _ _ (by decide)) (fun _ => e2 _ _ (by decide)), K.to Sm.rf (fun _ _ => Sm.rf) (e1 _) (fun k j _ _ => e2 _ _ (by omega)), S.to Sm.rf (fun _ _ => Sm.rf) (fun _ _ _ => Sm.rf) (e1 _) (fun k j _ _ => e2 _ _ (by omega)) e3, T.to Sm.rf (fun _ _ => Sm.rf) (e1 _) (fun k j _ _ => e2 _ _ (by omega))⟩
  obtain ⟨fi, m, a1, a2, a3, a4, a5, a6, a7⟩ := R
  refine ⟨fi, m, a1, a2, a3, a4, by rw [e1]; exact a5, by rw [e1]; exact a6, fun q j hq hj => ?_⟩
  have h := a7 q j hq hj
  rw [postM_37 (show 6 < 8 by omega), postM_37 hj] at h ⊢
  by_cases hc : n ≠ 200 ∧ q = n
  · rw [if_pos hc, if_pos hc] at h ⊢
    have g6 : g 6 = 3 := by rw [← hfg 6 (by omega) (by omega)]; exact h6
    by_cases hj2 : j < 3 ∨ 5 < j
    · rw [← hfg j hj hj2, g6]
      rw [h6] at h
      exact h
    · exact Or.inl ⟨hfx, g6, by omega, by omega⟩
  · rw [if_neg hc, if_neg hc] at h ⊢
    exact h
theorem a_passOn (P : Rep fx σ x G ms) (H : Hd fx σ x ms) (hfx : fx = false) {n np i pl : Nat} (hpl : pl < 16) (h7 : ms.2.1 38 7 = nI pl) (hn : ms.1 36 = nI n) (hn2 : n ≤ 200) (hnp : ms.1 28 = nI np) (hnp2 : np ≤ 200) (hi : i < np) (h1 : ms.2.1 38 1 = nI (i + 1)) (hW : ms.2.1 26 pl = -1 ∨ ∃ w, w < 8 ∧ ms.2.1 26 pl = nI w ∧ ¬ ms.2.1 14 w = -1) :
    ∃ σ', f_X9_passOn σ (some x) (some (G 7 i)) (nI pl) = some ((), σ') ∧ Rep fx σ' x G (if onB ms pl = true then solM (onM ms n (ms.2.1 26 pl).toNatClampNeg) (postN n) else losM ms (i + 1)) ∧ Kq x 0 0 σ σ' := by
  have F := P.2.1
  obtain ⟨t0, ⟨-, -, r2, r3, -⟩, -, -, -, ⟨t8, l8⟩, ⟨t9, l9⟩, -⟩ := id F
  obtain ⟨w1, w2⟩ := P.2.2.2.2.1 pl hpl
  have e2 : h_gR σ (some x) 10 2 = some (some (x + 8)) := by rw [gR_s t0, r2]
  have e3 : h_gR σ (some x) 10 3 = some (some (x + 9)) := by rw [gR_s t0, r3]
  have a8 : h_aI σ (some (x + 8)) 100 (nI pl) = some (ms.2.1 26 pl) := by rw [aI_s t8 l8 hpl (by decide), w1]
  have tp := (pkt P hnp hnp2 hi).1
  obtain ⟨σl, l1, l2, l3⟩ := a_lose P hnp hnp2 hi
  have hat := c_siteAt F P.2.2.2.2.2.2.2 (ms.2.1 26 pl)
  unfold f_X9_passOn
  rw [e2, h_b1_s, a8, h_b1_s, rcv_s t0, h_b1_s, hat, h_bd_s]
  rcases hW with hm | ⟨w, hw, hw2, hw3⟩
  · have hs : siteB ms (ms.2.1 26 pl) = false := by rw [hm]; exact siteB_no (Or.inl (by decide))
    refine ⟨σl, ?_, ?_, l3.q⟩
    · rw [hs, if_neg (show ¬ (false = true) by decide), if_pos rfl, rcv_s tp, h_b1_s, l1, h_bd_s]
    · rw [if_neg (f_ne (by unfold onB; rw [decide_eq_false (fun z => z hm)]; rfl))]
      exact l2
  · have hm : ¬ ms.2.1 26 pl = -1 := by rw [hw2]; exact nI_ne_m1 (by omega)
    obtain ⟨tl, tn, u1, u2, u3, u4, u5⟩ := w2 hm
    have hs : siteB ms (ms.2.1 26 pl) = true := by rw [hw2, siteB_i hw, decide_eq_true hw3]
    have a9 : h_aI σ (some (x + 9)) 100 (nI pl) = some (nI tl) := by rw [aI_s t9 l9 hpl (by decide), u1]
    have ti : h_gI σ (some x) 10 9 = some (nI tn) := by rw [gI_s t0, P.2.2.1.2.1, u3]
    have hsub : nI tn - nI tl = nI (tn - tl) := pk_sub u4
    have hwc : (ms.2.1 26 pl).toNatClampNeg = w := by rw [hw2, nI_clamp (by omega)]
    rw [hs, if_pos rfl, if_neg (fun z => by cases z), hwc, ti, h_b1_s, e3, h_b1_s, a9, h_b1_s, hsub]
    by_cases hlt : tn - tl < 30
    · have hon : onB ms pl = true := by
        unfold onB
        rw [decide_eq_true hm, u2, u3, decide_eq_true (nI_lt (a := tn) (b := tl + 30) (by omega) (by omega))]
        rfl
      rw [if_pos (show nI (tn - tl) < 30 from nI_lt (a := tn - tl) (b := 30) hlt (by decide)), if_pos hon]
      have e5 := (H.at F (j := 0) (by omega) (nloose3 (by omega))).1
      have d0 : h_aI σ (some (x + 12)) 100 0 = some (ms.2.1 38 0) := (H.at F (j := 0) (by omega) (nloose3 (by omega))).2
      have d2 : h_aI σ (some (x + 12)) 100 2 = some (ms.2.1 38 2) := (H.at F (j := 2) (by omega) (nloose3 (by omega))).2
      have Iw := P.si hw hw3
      obtain ⟨σ1, p1, p2, p3⟩ := a_postShort P hn hn2 3 (ms.2.1 14 w) (ms.2.1 38 0) (nI (i + 1)) (ms.2.1 38 2)
      have p2' : Rep fx σ1 x G (onM ms n w) := by
        refine Rep_loose p2 hfx hn hn2 rfl (fun j hj hj2 => ?_)
        rcases (show j = 0 ∨ j = 1 ∨ j = 2 ∨ j = 6 ∨ j = 7 by omega) with e | e | e | e | e <;> rw [e]
        · rfl
        · exact h1.symm
        · rfl
        · rfl
        · rfl
      have hn' : (onM ms n w).1 36 = nI (postN n) := postM_36 hn
      obtain ⟨σ2, s1, s2, s3⟩ := a_solicit p2' hn' (postN_le hn2) (ms.2.1 38 0) (ms.2.1 38 2) (nI pl)
      refine ⟨σ2, ?_, ?_, p3.q.tr s3.q⟩
      · rw [e5, h_b1_s, d0, h_b1_s, h_b1_s, d2, h_b1_s, gI_s Iw.1, Iw.2.1, h_b1_s, gI_s tp, (pkt P hnp hnp2 hi).2.1, h_b1_s, rcv_s t0, h_b1_s, p1, h_bd_s, rcv_s p2.2.1.1, h_b1_s, s1, h_bd_s]
      · unfold solM
        have e38 : ∀ j, (onM ms n w).2.1 38 j = ms.2.1 38 j := fun j => postM_k (by decide)
        rw [e38, e38, e38, h7]
        exact s2
    · have hoff : onB ms pl = false := by
        unfold onB
        rw [u2, u3, decide_eq_false (nI_nlt (a := tn) (b := tl + 30) (by omega) (by omega)), Bool.and_false]
      refine ⟨σl, ?_, ?_, l3.q⟩
      · rw [if_neg (show ¬ nI (tn - tl) < 30 from nI_nlt (a := tn - tl) (b := 30) (by omega) (by omega)), rcv_s tp, h_b1_s, l1, h_bd_s]
      · rw [if_neg (f_ne hoff)]
        exact l2
theorem a_data (P : Rep fx σ x G ms) (H : Hd fx σ x ms) (hfx : fx = false) {n np pl : Nat} (hpl : pl < 16) (h7 : ms.2.1 38 7 = nI pl) (hn : ms.1 36 = nI n) (hn2 : n ≤ 200) (hnp : ms.1 28 = nI np) (hnp2 : np ≤ 200) (hW : ms.2.1 26 pl = -1 ∨ ∃ w, w < 8 ∧ ms.2.1 26 pl = nI w ∧ ¬ ms.2.1 14 w = -1) :
    ∃ σ', f_X9_takeData σ (some x) (nI pl) = some ((), σ') ∧ Rep fx σ' x G (cameM ms n pl) ∧ Kq x 0 0 σ σ' := by
  have F := P.2.1
  have T := P.2.2.2.2.2.2.2
  have e5 := (H.at F (j := 0) (by omega) (nloose3 (by omega))).1
  have d0 : h_aI σ (some (x + 12)) 100 0 = some (ms.2.1 38 0) := (H.at F (j := 0) (by omega) (nloose3 (by omega))).2
  have d1 : h_aI σ (some (x + 12)) 100 1 = some (ms.2.1 38 1) := (H.at F (j := 1) (by omega) (nloose3 (by omega))).2
  have d2 : h_aI σ (some (x + 12)) 100 2 = some (ms.2.1 38 2) := (H.at F (j := 2) (by omega) (nloose3 (by omega))).2
  have hpa := c_packetAt F P.2.2.1 P.2.2.2.2.2.1 (ms.2.1 38 1)
  have hat := c_siteAt F T (ms.2.1 38 0)
  unfold f_X9_takeData cameM
  rw [e5, h_b1_s, d0, h_b1_s, h_b1_s, d2, h_b1_s, h_b1_s, d1, h_b1_s, rcv_s F.1, h_b1_s, hpa, h_bd_s, rcv_s F.1, h_b1_s, hat, h_bd_s]
  cases hsB : siteB ms (ms.2.1 38 0) with
  | false =>
    exact ⟨σ, by rw [if_neg (show ¬ (false = true) by decide), if_pos rfl], by rw [Bool.false_and, if_neg (by decide)]; exact P, Kq.rf⟩
  | true =>
    rw [if_pos rfl, if_neg (fun z => by cases z), Bool.true_and]
    cases hpk : decide (1 ≤ ms.2.1 38 1 ∧ ms.2.1 38 1 ≤ ms.1 28) with
    | false =>
      exact ⟨σ, by rw [if_neg (show ¬ (false = true) by decide), if_pos rfl], by rw [if_neg (by decide)]; exact P, Kq.rf⟩
    | true =>
      have g := of_decide_eq_true hpk
      rw [hnp] at g
      obtain ⟨i1, hi1, hi2⟩ := nI_of2 (M := nI np) (n := np) (nI_toInt (by omega)) (fun z => absurd (Int32.lt_of_le_of_lt g.1 z) (by decide)) g.2
      have hpos : 1 ≤ i1 := Nat.pos_of_ne_zero (fun z => by rw [hi2, z] at g; exact absurd g.1 (by decide))
      obtain ⟨i, rfl⟩ : ∃ i, i1 = i + 1 := ⟨i1 - 1, by omega⟩
      have hcl : (ms.2.1 38 1).toNatClampNeg = i + 1 := by rw [hi2, nI_clamp (by omega)]
      have tp := (pkt P hnp hnp2 (i := i) (by omega)).1
      rw [if_pos rfl, if_pos rfl, if_neg (fun z => by cases z), c_isPlace, h_bd_s, decide_eq_true (show 0 ≤ nI pl ∧ nI pl ≤ 15 from ⟨nI_pos' (by omega), nI_le (a := pl) (b := 15) (by omega) (by decide)⟩), b2i_t, if_neg (by decide), rcv_s F.1, h_b1_s, c_hostOf F T (nI_ne_m1 (by omega)), h_bd_s, hcl, show i + 1 - 1 = i by omega]
      cases hh : ff (fun s => decide (ms.2.1 14 s = nI pl)) 0 8 with
      | none =>
        obtain ⟨σ', r1, r2, r3⟩ := a_passOn P H hfx hpl h7 hn hn2 hnp hnp2 (i := i) (by omega) hi2 hW
        refine ⟨σ', ?_, r2, r3⟩
        rw [if_pos (show o2i none = -1 from rfl), rcv_s F.1, h_b1_s, r1, h_bd_s]
      | some hst =>
        obtain ⟨-, q2, q3, -⟩ := ff_some.mp hh
        have q4 := of_decide_eq_true q3
        have hps : ¬ ms.2.1 14 hst = -1 := by rw [q4]; exact nI_ne_m1 (by omega)
        have I := P.si (s := hst) (by omega) hps
        have e1 : h_gR σ (some x) 10 1 = some (some (x + 7)) := by rw [gR_s F.1, F.2.1.2.1]
        have e7 : h_aR σ (some (x + 7)) 108 (nI hst) = some (some (G 3 hst)) := by rw [aR_s F.2.2.2.2.1.1 F.2.2.2.2.1.2 (by omega) (by decide), ((T.2 hst (by omega)).2 hps).1]
        rw [if_neg (show ¬ o2i (some hst) = -1 from nI_ne_m1 (by omega)), e1, h_b1_s]
        show ∃ σ', h_b1 (h_aR σ (some (x + 7)) 108 (nI hst)) _ = some ((), σ') ∧ Rep fx σ' x G (if hasB ms hst (ms.2.1 38 2) = true then dlvM ms (i + 1) (nI hst) else solM (losM ms (i + 1)) n) ∧ _
        rw [e7, h_b1_s, rcv_s I.1, h_b1_s, c_hasEnd (by omega) I, h_bd_s]
        cases hb : hasB ms hst (ms.2.1 38 2) with
        | false =>
          obtain ⟨σ1, s1, s2, s3⟩ := a_solicit P hn hn2 (ms.2.1 38 0) (ms.2.1 38 2) (nI pl)
          have hnp' : (postM (k_pI ms 41 (ms.1 41 + 1)) n (mG (ms.2.1 38 2) (nI pl) 0 0 0 0 4 (ms.2.1 38 0))).1 28 = nI np := by rw [postM_s (by decide) (by decide), pI_n1 (by decide)]; exact hnp
          obtain ⟨σ2, l1, l2, l3⟩ := a_lose s2 hnp' hnp2 (i := i) (by omega)
          refine ⟨σ2, ?_, ?_, s3.q.tr l3.q⟩
          · rw [b2i_f, if_pos rfl, rcv_s F.1, h_b1_s, s1, h_bd_s, rcv_s (pkt s2 hnp' hnp2 (i := i) (by omega)).1, h_b1_s, l1, h_bd_s]
          · rw [if_neg (by decide)]
            unfold solM
            have e38 : ∀ j, (losM ms (i + 1)).2.1 38 j = ms.2.1 38 j := fun j => losM_k (by decide)
            rw [e38, e38, e38, losM_1, h7, ← los_post]
            exact l2
        | true =>
          obtain ⟨σ1, l1, l2, l3⟩ := a_deliver P (nI hst) hnp hnp2 (i := i) (by omega)
          refine ⟨σ1, ?_, by rw [if_pos rfl]; exact l2, l3.q⟩
          rw [b2i_t, if_neg (by decide), rcv_s tp, h_b1_s]
          show h_bd (f_X3_arriveAt σ (some (G 7 i)) (nI hst)) _ = _
          rw [l1, h_bd_s]
end DTA
