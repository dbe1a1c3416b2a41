/-! CALLS: move, and those that read alone -/
section CLC
variable {fx : Bool} {σ σ' : HS} {x : Nat} {G : Nat → Nat → Nat} {ms ms' : MS}
def wntM (ms : MS) (p : Nat) (s : Int32) : MS := aS (aS ms 26 p s) 27 p (ms.1 1 + 30)
/-- a site went away from the place p -/
theorem Rep_went (P : Rep fx σ x G ms) {p t : Nat} {s : Int32} (hp : p < 16) (ht : ms.1 1 = nI t) (ht2 : t ≤ 1000000) : Rep fx (h_setI (h_setI σ (x + 8) p s) (x + 9) p (nI t)) x G (wntM ms p s) := by
  obtain ⟨Z, F, N, R, Wn, K, S, T⟩ := P
  have W : WI [x + 8, x + 9] σ (h_setI (h_setI σ (x + 8) p s) (x + 9) p (nI t)) := (WI_I (by simp)).tr (WI_I (by simp))
  have hL : ∀ a, a ∈ [x + 8, x + 9] → h_tg σ a = 100 := by
    intro a ha
    simp only [List.mem_cons, List.mem_nil_iff, or_false] at ha
    rcases ha with rfl | rfl
    · exact F.2.2.2.2.2.1.1
    · exact F.2.2.2.2.2.2.1.1
  have ek : ∀ k j, k ≠ 26 → k ≠ 27 → (wntM ms p s).2.1 k j = ms.2.1 k j := fun k j h1 h2 => by unfold wntM; rw [aS_k h2, aS_k h1]
  refine ⟨Zx_WI W Z, W.fx F, N.to (W.sm (by simp)) rfl rfl rfl rfl rfl rfl, R.to (W.sm (by simp)) (W.sm (by simp)) rfl rfl (fun _ => ek _ _ (by decide) (by decide)), ?_, Kx_WI K F W (fun a ha => Or.inr (Or.inr (Or.inl (hL a ha)))) rfl (fun k j h1 h2 => ek k j (by omega) (by omega)), Sx_WI S F W (fun a ha => Or.inr (Or.inr (Or.inl (hL a ha)))) rfl (fun k j h1 h2 => ek k j (by omega) (by omega)) rfl, Tx_WI T F W (fun a ha => Or.inr (Or.inr (Or.inl (hL a ha)))) rfl (fun k j h1 h2 => ek k j (by omega) (by omega))⟩
  intro q hq
  by_cases e : q = p
  · subst e
    have e26 : (wntM ms q s).2.1 26 q = s := by unfold wntM; rw [aS_k (by decide), aS_s]
    have e27 : (wntM ms q s).2.1 27 q = nI (t + 30) := by unfold wntM; rw [aS_s, ht]; exact nI_add t 30
    rw [e26, e27, iv_sIa (by omega), iv_sI]
    exact ⟨rfl, fun _ => ⟨t, t, by rw [iv_sI], rfl, ht, Nat.le_refl t, ht2⟩⟩
  · have e26 : (wntM ms p s).2.1 26 q = ms.2.1 26 q := by unfold wntM; rw [aS_j e, aS_j e]
    have e27 : (wntM ms p s).2.1 27 q = ms.2.1 27 q := by unfold wntM; rw [aS_j e, aS_j e]
    rw [e26, e27, iv_sIa (by omega), iv_sIk e, iv_sIk e, iv_sIa (by omega)]
    exact Wn q hq
/-- a site is at another place -/
theorem Rep_place (P : Rep fx σ x G ms) {s : Nat} {pl : Int32} (hs : s < 8) (hp : ¬ ms.2.1 14 s = -1) (hpl : ¬ pl = -1) : Rep fx (h_setI σ (G 3 s) 0 pl) x G (aS ms 14 s pl) ∧ Kq x 0 0 σ (h_setI σ (G 3 s) 0 pl) := by
  have I := P.si hs hp
  obtain ⟨a1, a2, a3, a4, ⟨a5, a6, a7⟩, ⟨c, c1, c2, c3⟩, ⟨a8, a9⟩, ⟨b1, b2, b3⟩, z, z1, z2, z3, z4⟩ := id I
  have hsm : ∀ q, q ≠ G 3 s → Sm σ (h_setI σ (G 3 s) 0 pl) q := fun q h3 => Sm_I h3
  have ek : ∀ k j, k ≠ 14 → (aS ms 14 s pl).2.1 k j = ms.2.1 k j := fun k j h => aS_k h
  have ne : ∀ {b c : Nat}, h_tg σ b ≠ h_tg σ c → b ≠ c := fun h z => h (by rw [z])
  have I1 : SiR fx (h_setI σ (G 3 s) 0 pl) G (aS ms 14 s pl) s := by
    have h25 : ∀ q, h_tg σ q = 2 ∨ h_tg σ q = 5 → Sm σ (h_setI σ (G 3 s) 0 pl) q := fun q hq => hsm q (ne (by rw [a1]; omega))
    have s4 := hsm (G 4 s) (ne (by rw [a1, a6]; decide))
    have s5 := hsm (G 5 s) (ne (by rw [a1, a9]; decide))
    have s6 := hsm (G 6 s) (ne (by rw [a1, b2]; decide))
    refine ⟨a1, by rw [iv_sI, aS_s], by rw [iv_sIk (by decide), ek _ _ (by decide)]; exact a3, by rw [iv_sIk (by decide), ek _ _ (by decide)]; exact a4, ⟨a5, a6, a7⟩, ⟨c, c1, by rw [ek _ _ (by decide)]; exact c2, fun k hk => ?_⟩, ⟨a8, a9⟩, ⟨b1, b2, b3⟩, z, z1, by rw [s5.2.2.1]; exact z2, fun j hj => ?_, ?_⟩
    · obtain ⟨p, n, d1, d2, d3⟩ := c3 k hk
      exact ⟨p, n, d1, by rw [ek _ _ (by decide)]; exact d2, by rw [ek _ _ (by decide)]; exact d3.to (h25 p (Or.inr d3.1))⟩
    · obtain ⟨a, d1, d2⟩ := z3 j hj
      exact ⟨a, d1, (d2.to h25).1⟩
    · have ec : lL (nP ((aS ms 14 s pl).1 1)) (nC (h_setI σ (G 3 s) 0 pl) (G 6 s)) 0 z = lL (nP (ms.1 1)) (nC σ (G 6 s)) 0 z := by
        show lL (nP (ms.1 1)) _ 0 z = _
        refine lL_congr z 0 (fun j _ hj => ?_)
        obtain ⟨a, d1, d2⟩ := z3 j (by omega)
        unfold nC
        rw [s6.2.2.2.1, d1]
        exact congrArg some (d2.to h25).2
      have em : lL (fun q => nP ((aS ms 14 s pl).1 1) q.1) (nM (aS ms 14 s pl)) (6 * s) 6 = lL (fun q => nP (ms.1 1) q.1) (nM ms) (6 * s) 6 := by
        show lL (fun q : N5 × Int32 => nP (ms.1 1) q.1) _ (6 * s) 6 = _
        refine lL_congr 6 (6 * s) (fun j _ _ => ?_)
        unfold nM
        rw [ek _ _ (by decide), ek _ _ (by decide), ek _ _ (by decide), ek _ _ (by decide), ek _ _ (by decide), ek _ _ (by decide)]
      rw [ec, em]
      exact z4
  exact ⟨Rep_one P hs hp P.1 (fun q g3 _ _ _ _ => hsm q g3) I1 (by rw [aS_s]; exact hpl) (fun _ _ _ => rfl) (fun k j h => ek k j (by omega)) rfl (fun t ht e => ⟨aS_j e, ek _ _ (by decide), ek _ _ (by decide)⟩) (fun t k ht e hk => ⟨ek _ _ (by decide), ek _ _ (by decide)⟩) (fun t k j _ _ h1 _ _ _ => ek _ _ (by omega)), Kq_si P hs hp ⟨rfl, rfl, rfl, rfl⟩ (fun q g3 _ _ _ _ => hsm q g3)⟩
theorem k_move (h : Bt fx σ x ms) (hm : Rm σ) {t : Nat} (ht : ms.1 1 = nI t) (ht2 : t ≤ 1000000) (hpl : ∀ s, s < 8 → ms.2.1 14 s = -1 ∨ ∃ p, p < 16 ∧ ms.2.1 14 s = nI p) (a b : Int32) : lcV cdL_move (f_X9_move σ (some x) a b) (fun τ => f_X10_move τ (some (x + 15)) a b) (some x) (some (x + 15)) σ (fun τ => Bt fx τ x (if moveB ms a b = true then aS (wntM (okM ms) (ms.2.1 14 a.toNatClampNeg).toNatClampNeg a) 14 a.toNatClampNeg b else noM ms) ∧ Gw (0 + 1) (0 + 6) σ τ) := by
  obtain ⟨G, P⟩ := h.1
  have hat := c_siteAt P.2.1 P.2.2.2.2.2.2.2 a
  cases hsB : siteB ms a with
  | false =>
    have hf : moveB ms a b = false := by unfold moveB; rw [hsB]; rfl
    have hp := p_move_eq ms a b (i := 0) (p0 := 0) (fun z => by rw [hsB] at z; cases z)
    rw [hf, if_neg (by decide)] at hp
    rw [hf, if_neg (by decide)]
    rw [hsB, if_neg (by decide)] at hat
    refine stepV h (σ1 := σ) (r := .error 1) (c0 := 1) ?_ (Or.inr ⟨1, rfl, rfl⟩) Kq.rf ⟨G, P.cd 1⟩ hp noM_0 (fun τ V => q_X10_move V a b)
    unfold f_X9_move
    rw [rcv_s P.2.1.1, h_b1_s, hat, h_bd_s, if_pos rfl, hm.thr]
  | true =>
    obtain ⟨s, hs, rfl, hps⟩ := siteB_nI hsB
    rw [hsB, if_pos rfl, nI_clamp (by omega)] at hat
    have I := P.si hs hps
    obtain ⟨p0, hp0, hp1⟩ : ∃ p, p < 16 ∧ ms.2.1 14 s = nI p := (hpl s hs).resolve_left hps
    have hp := p_move_eq ms (nI s) b (i := s) (p0 := p0) (fun _ => ⟨rfl, hs, hp1, hp0⟩)
    by_cases h4 : 0 ≤ b ∧ b ≤ 15
    · have hne : ¬ b = -1 := fun z => by rw [z] at h4; exact absurd h4.1 (by decide)
      have hho := c_hostOf P.2.1 P.2.2.2.2.2.2.2 hne
      by_cases h5 : freeB ms b = true
      · have hb : moveB ms (nI s) b = true := by unfold moveB; rw [hsB, decide_eq_true h4, h5]; rfl
        rw [if_pos hb] at hp ⊢
        rw [nI_clamp (n := s) (by omega), hp1, nI_clamp (n := p0) (by omega)]
        have F := P.2.1
        obtain ⟨t0, ⟨-, -, r2, r3, -⟩, -, -, -, ⟨t8, l8⟩, ⟨t9, l9⟩, -⟩ := id F
        have P1 := Rep_went P (p := p0) (s := nI s) hp0 ht ht2
        have K1 : Kq x 0 0 σ (h_setI (h_setI σ (x + 8) p0 (nI s)) (x + 9) p0 (nI t)) := (Kp_WI P.1 (L := [x + 8, x + 9]) ((WI_I (by simp)).tr (WI_I (by simp))) (fun a ha => by simp only [List.mem_cons, List.mem_nil_iff, or_false] at ha; exact Or.inl (by omega))).q
        have ew : ∀ j, (wntM ms p0 (nI s)).2.1 14 j = ms.2.1 14 j := fun j => by unfold wntM; rw [aS_k (by decide), aS_k (by decide)]
        obtain ⟨P2, K2⟩ := Rep_place P1 (s := s) (pl := b) hs (by rw [ew]; exact hps) hne
        have n8 : G 3 s ≠ x + 8 := fun z => by have := I.1; rw [z, t8] at this; omega
        have w1 : h_sI σ (some (x + 8)) 100 (nI p0) (nI s) = some (h_setI σ (x + 8) p0 (nI s)) := sI_s t8 l8 hp0 (by decide)
        have w2 : h_sI (h_setI σ (x + 8) p0 (nI s)) (some (x + 9)) 100 (nI p0) (nI t) = some (h_setI (h_setI σ (x + 8) p0 (nI s)) (x + 9) p0 (nI t)) := sI_s (σ := h_setI σ (x + 8) p0 (nI s)) t9 l9 hp0 (by decide)
        have v0 : h_iv σ (G 3 s) 0 = nI p0 := I.2.1.trans hp1
        have v1 : h_iv (h_setI σ (x + 8) p0 (nI s)) (G 3 s) 0 = nI p0 := by rw [iv_sIa n8]; exact v0
        have v2 : h_iv (h_setI σ (x + 8) p0 (nI s)) x 9 = nI t := by rw [iv_sIa (by omega)]; exact P.2.2.1.2.1.trans ht
        have e2 : h_gR σ (some x) 10 2 = some (some (x + 8)) := by rw [gR_s t0, r2]
        have e3 : h_gR (h_setI σ (x + 8) p0 (nI s)) (some x) 10 3 = some (some (x + 9)) := by rw [gR_s (show h_tg (h_setI σ (x + 8) p0 (nI s)) x = 10 from t0)]; exact congrArg some r3
        have e4 : h_gI (h_setI σ (x + 8) p0 (nI s)) (some (G 3 s)) 8 0 = some (nI p0) := by rw [gI_s (show h_tg (h_setI σ (x + 8) p0 (nI s)) (G 3 s) = 8 from I.1), v1]
        have e5 : h_gI (h_setI σ (x + 8) p0 (nI s)) (some x) 10 9 = some (nI t) := by rw [gI_s (show h_tg (h_setI σ (x + 8) p0 (nI s)) x = 10 from t0), v2]
        refine stepV h (σ1 := h_setI (h_setI (h_setI σ (x + 8) p0 (nI s)) (x + 9) p0 (nI t)) (G 3 s) 0 b) (r := .ok ()) (c0 := 0) ?_ (Or.inl ⟨rfl, rfl⟩) (K1.tr K2) ⟨G, P2.ms1 rfl (fun q hq => okM_1 hq)⟩ hp (okM_0 (ms := ms)) (fun τ V => q_X10_move V (nI s) b)
        unfold f_X9_move
        rw [rcv_s P.2.1.1, h_b1_s, hat, h_bd_s, if_neg (fun z => by cases z), c_isPlace, h_bd_s, decide_eq_true h4, b2i_t, if_neg (by decide), rcv_s P.2.1.1, h_b1_s, hho, h_bd_s, if_pos ((o2i_free ms b).mpr h5), e2, h_b1_s, gI_s I.1, v0, h_b1_s, w1, h_b1_s, e3, h_b1_s, e4, h_b1_s, e5, h_b1_s, w2, h_b1_s, pI_s (show h_tg (h_setI (h_setI σ (x + 8) p0 (nI s)) (x + 9) p0 (nI t)) (G 3 s) = 8 from I.1), h_b1_s]
      · have hb : moveB ms (nI s) b = false := by unfold moveB; rw [hsB, decide_eq_true h4]; cases hx : freeB ms b with
          | false => rfl
          | true => exact absurd hx h5
        rw [hb, if_neg (by decide)] at hp
        rw [hb, if_neg (by decide)]
        refine stepV h (σ1 := σ) (r := .error 1) (c0 := 1) ?_ (Or.inr ⟨1, rfl, rfl⟩) Kq.rf ⟨G, P.cd 1⟩ hp noM_0 (fun τ V => q_X10_move V (nI s) b)
        unfold f_X9_move
        rw [rcv_s P.2.1.1, h_b1_s, hat, h_bd_s, if_neg (fun z => by cases z), c_isPlace, h_bd_s, decide_eq_true h4, b2i_t, if_neg (by decide), rcv_s P.2.1.1, h_b1_s, hho, h_bd_s, if_neg (fun z => h5 ((o2i_free ms b).mp z)), hm.thr]
    · have hb : moveB ms (nI s) b = false := by unfold moveB; rw [hsB, decide_eq_false h4]; rfl
      rw [hb, if_neg (by decide)] at hp
      rw [hb, if_neg (by decide)]
      refine stepV h (σ1 := σ) (r := .error 1) (c0 := 1) ?_ (Or.inr ⟨1, rfl, rfl⟩) Kq.rf ⟨G, P.cd 1⟩ hp noM_0 (fun τ V => q_X10_move V (nI s) b)
      unfold f_X9_move
      rw [rcv_s P.2.1.1, h_b1_s, hat, h_bd_s, if_neg (fun z => by cases z), c_isPlace, h_bd_s, decide_eq_false h4, b2i_f, if_pos rfl, hm.thr]
end CLC
