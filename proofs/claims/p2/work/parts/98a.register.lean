/-! CALLS: register -/
section RGC
variable {fx : Bool} {σ σ' : HS} {x : Nat} {G : Nat → Nat → Nat} {ms ms' : MS}
/-- a site's last nonce -/
theorem Rep_nonce (P : Rep fx σ x G ms) {s : Nat} {pl : Int32} (hs : s < 8) (hp : ¬ ms.2.1 14 s = -1) : Rep fx (h_setI σ (G 3 s) 1 pl) x G (aS ms 18 s pl) ∧ Kq x 0 0 σ (h_setI σ (G 3 s) 1 pl) := by
  have I := P.si hs hp
  obtain ⟨a1, a2, a3, a4, ⟨a5, a6, a7⟩, ⟨c, c1, c2, c3⟩, ⟨a8, a9⟩, ⟨b1, b2, b3⟩, z, z1, z2, z3, z4⟩ := id I
  have hsm : ∀ q, q ≠ G 3 s → Sm σ (h_setI σ (G 3 s) 1 pl) q := fun q h3 => Sm_I h3
  have ek : ∀ k j, k ≠ 18 → (aS ms 18 s pl).2.1 k j = ms.2.1 k j := fun k j h => aS_k h
  have ne : ∀ {b c : Nat}, h_tg σ b ≠ h_tg σ c → b ≠ c := fun h z => h (by rw [z])
  have I1 : SiR fx (h_setI σ (G 3 s) 1 pl) G (aS ms 18 s pl) s := by
    have h25 : ∀ q, h_tg σ q = 2 ∨ h_tg σ q = 5 → Sm σ (h_setI σ (G 3 s) 1 pl) q := fun q hq => hsm q (ne (by rw [a1]; omega))
    have s4 := hsm (G 4 s) (ne (by rw [a1, a6]; decide))
    have s5 := hsm (G 5 s) (ne (by rw [a1, a9]; decide))
    have s6 := hsm (G 6 s) (ne (by rw [a1, b2]; decide))
    refine ⟨a1, by rw [iv_sIk (by decide), ek _ _ (by decide)]; exact a2, by rw [iv_sI, aS_s], by rw [iv_sIk (by decide), ek _ _ (by decide)]; exact a4, ⟨a5, a6, a7⟩, ⟨c, c1, by rw [ek _ _ (by decide)]; exact c2, fun k hk => ?_⟩, ⟨a8, a9⟩, ⟨b1, b2, b3⟩, z, z1, by rw [s5.2.2.1]; exact z2, fun j hj => ?_, ?_⟩
    · obtain ⟨p, n, d1, d2, d3⟩ := c3 k hk
      exact ⟨p, n, d1, by rw [ek _ _ (by decide)]; exact d2, by rw [ek _ _ (by decide)]; exact d3.to (h25 p (Or.inr d3.1))⟩
    · obtain ⟨a, d1, d2⟩ := z3 j hj
      exact ⟨a, d1, (d2.to h25).1⟩
    · have ec : lL (nP ((aS ms 18 s pl).1 1)) (nC (h_setI σ (G 3 s) 1 pl) (G 6 s)) 0 z = lL (nP (ms.1 1)) (nC σ (G 6 s)) 0 z := by
        show lL (nP (ms.1 1)) _ 0 z = _
        refine lL_congr z 0 (fun j _ hj => ?_)
        obtain ⟨a, d1, d2⟩ := z3 j (by omega)
        unfold nC
        rw [s6.2.2.2.1, d1]
        exact congrArg some (d2.to h25).2
      have em : lL (fun q => nP ((aS ms 18 s pl).1 1) q.1) (nM (aS ms 18 s pl)) (6 * s) 6 = lL (fun q => nP (ms.1 1) q.1) (nM ms) (6 * s) 6 := by
        show lL (fun q : N5 × Int32 => nP (ms.1 1) q.1) _ (6 * s) 6 = _
        refine lL_congr 6 (6 * s) (fun j _ _ => ?_)
        unfold nM
        rw [ek _ _ (by decide), ek _ _ (by decide), ek _ _ (by decide), ek _ _ (by decide), ek _ _ (by decide), ek _ _ (by decide)]
      rw [ec, em]
      exact z4
  exact ⟨Rep_one P hs hp P.1 (fun q g3 _ _ _ _ => hsm q g3) I1 (by rw [ek _ _ (by decide)]; exact hp) (fun _ _ _ => rfl) (fun k j h => ek k j (by omega)) rfl (fun t ht e => ⟨ek _ _ (by decide), ek _ _ (by decide), aS_j e⟩) (fun t k ht e hk => ⟨ek _ _ (by decide), ek _ _ (by decide)⟩) (fun t k j _ _ h1 _ _ _ => ek _ _ (by omega)), Kq_si P hs hp ⟨rfl, rfl, rfl, rfl⟩ (fun q g3 _ _ _ _ => hsm q g3)⟩
theorem g_reg {s cc : Nat} (hs : s < 8) (hcc : cc ≤ 4) : ∀ (c m k cnt : Nat) (σ : HS) (ms : MS), Rep fx σ x G ms → Tr ms → ¬ ms.2.1 14 s = -1 → ms.2.1 15 s = nI cc → k + c = cc → c < m → ∃ σ', g_X9_register_25 m σ (some x) (nI s) (some (G 3 s)) (nI cnt) (nI k) = some (.ok (nI (fo (stR s) (4 * s + k) c (ms, cnt)).2), σ') ∧ Rep fx σ' x G (fo (stR s) (4 * s + k) c (ms, cnt)).1 ∧ Kq x 0 0 σ σ'
  | 0, 0, k, cnt, σ, ms, _, _, _, _, _, h => absurd h (Nat.lt_irrefl 0)
  | c + 1, 0, k, cnt, σ, ms, _, _, _, _, _, h => absurd h (Nat.not_lt_zero _)
  | 0, m + 1, k, cnt, σ, ms, P, Tt, hps, h15, hk, _ => by
    have I := P.si hs hps
    refine ⟨σ, ?_, P, Kq.rf⟩
    rw [g_X9_register_25, gI_s I.1, I.2.2.2.1, h15, h_b1_s, if_pos (nI_le (a := cc) (b := k) (by omega) (by omega))]
    rfl
  | c + 1, m + 1, k, cnt, σ, ms, P, Tt, hps, h15, hk, hm => by
    have I := P.si hs hps
    have F := P.2.1
    obtain ⟨p, n, q1, q2, q3⟩ := c_px I h15 hcc (show k < cc by omega)
    have e0 : h_gR σ (some x) 10 0 = some (some (x + 1)) := by rw [gR_s F.1, F.2.1.1]
    have e2 : h_gR σ (some (G 3 s)) 8 2 = some (some (G 4 s)) := by rw [gR_s I.1, I.2.2.2.2.1.1]
    have how := c_ownerOf F P.2.2.2.2.2.2.1 Tt q3
    have hgo : g_X9_register_25 (m + 1) σ (some x) (nI s) (some (G 3 s)) (nI cnt) (nI k) = (h_bd (f_X8_ownerOf σ (some (x + 1)) (some p)) fun r16 s17 => if r16 = none then g_X9_register_25 m s17 (some x) (nI s) (some (G 3 s)) (nI cnt) (nI (k + 1)) else h_b1 (h_gI s17 (some (G 3 s)) 8 1) fun x22 => h_b1 (h_pI s17 (some (G 3 s)) 8 1 (x22 + 1)) fun s24 => h_b1 (h_gI s24 r16 7 0) fun x26 => h_b1 (h_gR s24 (some (G 3 s)) 8 2) fun x28 => h_b1 (h_aR s24 x28 106 (nI k)) fun x30 => h_b1 (h_gI s24 (some (G 3 s)) 8 0) fun x32 => h_b1 (h_gI s24 (some (G 3 s)) 8 1) fun x34 => h_b1 (h_rcv s24 (some x) 10) fun _ => h_bd (f_X9_postRegister s24 (some x) x26 (nI s) x30 x32 x34) fun _ s37 => g_X9_register_25 m s37 (some x) (nI s) (some (G 3 s)) (nI cnt + 1) (nI (k + 1))) := by
      rw [g_X9_register_25, gI_s I.1, I.2.2.2.1, h15, h_b1_s, if_neg (nI_ge (a := k) (b := cc) (by omega) (by omega)), e0, h_b1_s, e2, h_b1_s, q1, h_b1_s, rcv_s F.2.2.1.1, h_b1_s, nI_c1]
    have hst : stR s (4 * s + k) (ms, cnt) = (match ownE ms (ms.2.1 16 (4 * s + k)) (ln (ms.2.1 17 (4 * s + k))) with | none => (ms, cnt) | some w => (postM (aS ms 18 s (ms.2.1 18 s + 1)) (ms.1 36).toNatClampNeg (mG (nI s) (ms.2.1 16 (4 * s + k)) (ms.2.1 17 (4 * s + k)) (ms.2.1 14 s) (ms.2.1 18 s + 1) (tagF (nI s) (ms.2.1 16 (4 * s + k)) (ms.2.1 17 (4 * s + k)) (ms.2.1 14 s) (ms.2.1 18 s + 1)) 0 (nI w)), cnt + 1)) := rfl
    have hfo : fo (stR s) (4 * s + k) (c + 1) (ms, cnt) = fo (stR s) (4 * s + (k + 1)) c (stR s (4 * s + k) (ms, cnt)) := rfl
    rw [hfo]
    rw [q2, ln_nI q3.2.2.2.1] at hst
    rw [hgo, how, h_bd_s]
    cases ho : ownE ms (ms.2.1 16 (4 * s + k)) n with
    | none =>
      obtain ⟨σ', r1, r2, r3⟩ := g_reg hs hcc c m (k + 1) cnt σ ms P Tt hps h15 (by omega) (by omega)
      rw [ho] at hst
      have hst0 : stR s (4 * s + k) (ms, cnt) = (ms, cnt) := hst
      rw [hst0]
      refine ⟨σ', ?_, r2, r3⟩
      show (if none = none then _ else _) = _
      rw [if_pos rfl]
      exact r1
    | some w =>
      have hw : w < 8 := ownE_lt ho
      have hprw : pr ms w := ((ownE_iff Tt q3.2.2.2.1).mp ho).2.1
      obtain ⟨-, Iw⟩ := (P.2.2.2.2.2.2.1.2.2 w hw).2 hprw
      obtain ⟨P1, K1⟩ := Rep_nonce P (s := s) (pl := ms.2.1 18 s + 1) hs hps
      have hsm : ∀ q, q ≠ G 3 s → Sm σ (h_setI σ (G 3 s) 1 (ms.2.1 18 s + 1)) q := fun q hq => Sm_I hq
      have sp := hsm p (fun z => by have := q3.1; rw [z, I.1] at this; omega)
      have sw := hsm (G 0 w) (fun z => by have := Iw.1; rw [z, I.1] at this; omega)
      have s4 := hsm (G 4 s) (fun z => by have := I.2.2.2.2.1.2.1; rw [z, I.1] at this; omega)
      obtain ⟨n0, n1, n2⟩ := Rep_n P
      obtain ⟨σ2, g1, g2, g3⟩ := a_postRegister P1 (n := n0) n2 n1 (q3.to sp) (nI w) (nI s) (ms.2.1 14 s) (ms.2.1 18 s + 1)
      have v0 : h_iv (h_setI σ (G 3 s) 1 (ms.2.1 18 s + 1)) (G 3 s) 0 = ms.2.1 14 s := by rw [iv_sIk (by decide)]; exact I.2.1
      have v1 : h_iv (h_setI σ (G 3 s) 1 (ms.2.1 18 s + 1)) (G 3 s) 1 = ms.2.1 18 s + 1 := iv_sI
      have t3 : h_tg (h_setI σ (G 3 s) 1 (ms.2.1 18 s + 1)) (G 3 s) = 8 := I.1
      have e2' : h_gR (h_setI σ (G 3 s) 1 (ms.2.1 18 s + 1)) (some (G 3 s)) 8 2 = some (some (G 4 s)) := by rw [gR_s t3]; exact congrArg some I.2.2.2.2.1.1
      have q1' : h_aR (h_setI σ (G 3 s) 1 (ms.2.1 18 s + 1)) (some (G 4 s)) 106 (nI k) = some (some p) := by
        rw [aR_s (show h_tg (h_setI σ (G 3 s) 1 (ms.2.1 18 s + 1)) (G 4 s) = 106 from I.2.2.2.2.1.2.1) (show h_ln (h_setI σ (G 3 s) 1 (ms.2.1 18 s + 1)) (G 4 s) = 4 from I.2.2.2.2.1.2.2) (show k < 4 by omega) (by decide)]
        have := q1
        rw [aR_s I.2.2.2.2.1.2.1 I.2.2.2.2.1.2.2 (show k < 4 by omega) (by decide)] at this
        exact this
      have gw : h_gI (h_setI σ (G 3 s) 1 (ms.2.1 18 s + 1)) (some (G 0 w)) 7 0 = some (nI w) := by rw [gI_s (by rw [sw.1]; exact Iw.1), sw.2.2.1, Iw.2.1]
      have hcl : (ms.1 36).toNatClampNeg = n0 := by rw [n2, nI_clamp (by omega)]
      rw [ho, hcl] at hst
      have hst1 : stR s (4 * s + k) (ms, cnt) = (postM (aS ms 18 s (ms.2.1 18 s + 1)) n0 (mG (nI s) (ms.2.1 16 (4 * s + k)) (nI n) (ms.2.1 14 s) (ms.2.1 18 s + 1) (tagF (nI s) (ms.2.1 16 (4 * s + k)) (nI n) (ms.2.1 14 s) (ms.2.1 18 s + 1)) 0 (nI w)), cnt + 1) := hst
      rw [hst1, show Option.map (G 0) (some w) = some (G 0 w) from rfl]
      clear hst hst1
      generalize hm2 : postM (aS ms 18 s (ms.2.1 18 s + 1)) n0 (mG (nI s) (ms.2.1 16 (4 * s + k)) (nI n) (ms.2.1 14 s) (ms.2.1 18 s + 1) (tagF (nI s) (ms.2.1 16 (4 * s + k)) (nI n) (ms.2.1 14 s) (ms.2.1 18 s + 1)) 0 (nI w)) = m2 at g2
      have ek : ∀ q j, q ≠ 18 → q ≠ 37 → m2.2.1 q j = ms.2.1 q j := fun q j h1 h2 => by rw [← hm2, postM_k h2, aS_k h1]
      obtain ⟨σ3, r1, r2, r3⟩ := g_reg hs hcc c m (k + 1) (cnt + 1) σ2 m2 g2 (Tr_congr (fun q j h1 h2 => ek q j (by omega) (by omega)) Tt) (by rw [ek 14 s (by decide) (by decide)]; exact hps) (by rw [ek 15 s (by decide) (by decide)]; exact h15) (by omega) (by omega)
      refine ⟨σ3, ?_, r2, (K1.tr g3.q).tr r3⟩
      rw [if_neg (fun z => by cases z), gI_s I.1, I.2.2.1, h_b1_s, pI_s I.1, h_b1_s, gw, h_b1_s, e2', h_b1_s, q1', h_b1_s, gI_s t3, v0, h_b1_s, gI_s t3, v1, h_b1_s, rcv_s P1.2.1.1, h_b1_s, g1, h_bd_s, nI_c1]
      exact r1
theorem rgs_0 {s : Nat} : ∀ (c i : Nat) (q : MS × Nat), (fo (stR s) i c q).1.1 0 = q.1.1 0
  | 0, i, q => rfl
  | c + 1, i, q => by
    show (fo (stR s) (i + 1) c (stR s i q)).1.1 0 = _
    rw [rgs_0 c (i + 1)]
    unfold stR
    split
    · rfl
    · show (postM _ _ _).1 0 = _
      rw [postM_s (by decide) (by decide)]
      rfl
theorem k_register (h : Bt fx σ x ms) (hm : Rm σ) (I0 : MI ms) (Tt : Tr ms) (a : Int32) : lcI cdL_register (f_X9_register σ (some x) a) (fun τ => f_X10_register τ (some (x + 15)) a) (some x) (some (x + 15)) (some (x + 49)) σ (fun τ => Bt fx τ x (if siteB ms a = true then (rgsM ms a.toNatClampNeg).1 else noM ms) ∧ Gw (0 + 1) (0 + 6) σ τ) := by
  obtain ⟨G, P⟩ := h.1
  obtain ⟨n, n1, n2⟩ := Rep_n P
  have hp := p_register_eq ms a n2 n1 I0
  have hat := c_siteAt P.2.1 P.2.2.2.2.2.2.2 a
  cases hsB : siteB ms a with
  | false =>
    rw [hsB, if_neg (by decide)] at hp hat
    rw [if_neg (by decide)]
    refine stepI h (σ1 := σ) (r := .error 1) (c0 := 1) ?_ (Or.inr ⟨1, rfl, rfl, by decide⟩) Kq.rf ⟨G, P.cd 1⟩ hp noM_0 (fun τ V => q_X10_register V a)
    unfold f_X9_register
    rw [rcv_s P.2.1.1, h_b1_s, hat, h_bd_s, if_pos rfl, hm.thr]
  | true =>
    obtain ⟨s, hs, rfl, hps⟩ := siteB_nI hsB
    rw [hsB, if_pos rfl] at hp hat
    rw [if_pos rfl]
    rw [nI_clamp (by omega)] at hp hat ⊢
    obtain ⟨cc, c1, c2⟩ := I0.2.2.2.2.2.2.1 s hs
    obtain ⟨σ1, r1, r2, r3⟩ := g_reg (fx := fx) (x := x) (G := G) hs c2 cc h_hN 0 0 σ (okM ms) (P.cd 0) Tt hps c1 (by omega) (h_hN_lt (by omega))
    have er : rgsM ms s = fo (stR s) (4 * s + 0) cc (okM ms, 0) := by unfold rgsM; rw [c1, nI_clamp (by omega)]; rfl
    rw [← er] at r1 r2
    refine stepI h (σ1 := σ1) (r := .ok (nI (rgsM ms s).2)) (c0 := 0) ?_ (Or.inl ⟨rfl, rfl⟩) r3 ⟨G, r2⟩ hp ?_ (fun τ V => q_X10_register V (nI s))
    · unfold f_X9_register
      rw [rcv_s P.2.1.1, h_b1_s, hat, h_bd_s, if_neg (fun z => by cases z)]
      exact r1
    · rw [er, rgs_0]
      exact okM_0
end RGC
