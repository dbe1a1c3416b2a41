/-! A PACKET STARTS -/
def pK (no s ep : Int32) : List Op := (2, 0, 5, 0, -1) :: (2, 0, 2, 0, ep) :: (2, 0, 1, 0, s) :: (2, 0, 0, 0, no) :: (0, 4, 0, 8, 0) :: []
section SND
variable {fx : Bool} {σ σ' : HS} {x : Nat} {G G' : Nat → Nat → Nat} {ms ms' : MS}
def gPk (G : Nat → Nat → Nat) (np a : Nat) : Nat → Nat → Nat := fun k j => if k = 7 ∧ j = np then a else G k j
theorem gPk_n {np a k j : Nat} (h : k ≠ 7 ∨ j ≠ np) : gPk G np a k j = G k j := if_neg (fun z => by omega)
theorem gPk_s {np a : Nat} : gPk G np a 7 np = a := if_pos ⟨rfl, rfl⟩
/-- the numbers of a packet that starts -/
def nwM (ms : MS) (np : Nat) (s ep : Int32) : MS := aS (aS (aS (k_pI ms 28 (nI (np + 1))) 29 (np + 1) s) 30 (np + 1) ep) 33 (np + 1) (-1)
theorem nw_k {np k j : Nat} {s ep : Int32} (h : j ≠ np + 1 ∨ (k ≠ 29 ∧ k ≠ 30 ∧ k ≠ 33)) : (nwM ms np s ep).2.1 k j = ms.2.1 k j := by
  unfold nwM
  rcases h with h | h
  · rw [aS_j h, aS_j h, aS_j h]; rfl
  · rw [aS_k h.2.2, aS_k h.2.1, aS_k h.1]; rfl
theorem nw_1 {np k : Nat} {s ep : Int32} (h : k ≠ 28) : (nwM ms np s ep).1 k = ms.1 k := pI_n1 h
theorem nw_28 {np : Nat} {s ep : Int32} : (nwM ms np s ep).1 28 = nI (np + 1) := by
  show (k_pI ms 28 (nI (np + 1))).1 28 = _
  exact pI_s1
theorem pk_make (B : N0 σ x) (hz : x + 1 ≤ h_cz σ) (hs : h_sl σ + 8 ≤ h_ck σ) (no s ep : Int32) : h_mk σ 4 8 = some (some (x + 0), rpl x [(0, 4, 0, 8, 0)] σ) ∧ h_rcv (rpl x [(0, 4, 0, 8, 0)] σ) (some (x + 0)) 4 = some (x + 0) ∧ f_X3_init (rpl x [(0, 4, 0, 8, 0)] σ) (some (x + 0)) no s ep = some ((), rpl x (pK no s ep) σ) := by
  refine ⟨E_mk B (l := []) (l' := [(0, 4, 0, 8, 0)]) (c := 0) (w := 0) rfl rfl rfl (by omega) (by omega), E_rcv B rfl, ?_⟩
  unfold f_X3_init pK
  rw [h_b1_s, E_pI B (t := 4) (l' := (2, 0, 0, 0, no) :: (0, 4, 0, 8, 0) :: []) (off := 0) rfl rfl, h_b1_s, E_pI B (t := 4) (l' := (2, 0, 1, 0, s) :: (2, 0, 0, 0, no) :: (0, 4, 0, 8, 0) :: []) (off := 0) rfl rfl, h_b1_s, E_pI B (t := 4) (l' := (2, 0, 2, 0, ep) :: (2, 0, 1, 0, s) :: (2, 0, 0, 0, no) :: (0, 4, 0, 8, 0) :: []) (off := 0) rfl rfl, h_b1_s, E_pI B (t := 4) (l' := (2, 0, 5, 0, -1) :: (2, 0, 2, 0, ep) :: (2, 0, 1, 0, s) :: (2, 0, 0, 0, no) :: (0, 4, 0, 8, 0) :: []) (off := 0) rfl rfl, h_b1_s]
set_option maxRecDepth 100000 in
theorem Rep_packet (P : Rep fx σ x G ms) {np : Nat} {s ep : Int32} (hnp : ms.1 28 = nI np) (hlt : np < 200) (hfr : ms.2.1 31 (np + 1) = 0 ∧ ms.2.1 32 (np + 1) = 0 ∧ ms.2.1 34 (np + 1) = 0 ∧ ms.2.1 35 (np + 1) = 0) : Rep fx (h_setI (h_setR (rpl (h_sz σ) (pK (nI (np + 1)) s ep) σ) (x + 14) np (some (h_sz σ + 0))) x 8 (nI (np + 1))) x (gPk G np (h_sz σ + 0)) (nwM ms np s ep) ∧ Kq x 1 8 σ (h_setI (h_setR (rpl (h_sz σ) (pK (nI (np + 1)) s ep) σ) (x + 14) np (some (h_sz σ + 0))) x 8 (nI (np + 1))) := by
  have B := P.n0
  have h50 := P.1.1
  have P0 := P
  have P1 := P.ext (Ext_rpl B (pK (nI (np + 1)) s ep))
  have K1 : Kq x 1 8 σ (rpl (h_sz σ) (pK (nI (np + 1)) s ep) σ) := Kq_rpl P _ (by exact Nat.le_refl 1) (by exact Nat.le_refl 8)
  have tg : h_tg (rpl (h_sz σ) (pK (nI (np + 1)) s ep) σ) (h_sz σ + 0) = 4 := rpl_tg B 0 _
  have iv : ∀ j r, ivL 0 j (pK (nI (np + 1)) s ep) = r → h_iv (rpl (h_sz σ) (pK (nI (np + 1)) s ep) σ) (h_sz σ + 0) j = r := fun j r e => (rpl_iv B 0 j (pK (nI (np + 1)) s ep) (Or.inl (show 0 < 1 by decide))).trans e
  have i0 := iv 0 _ rfl
  have i1 := iv 1 _ rfl
  have i2 := iv 2 _ rfl
  have i3 := iv 3 _ rfl
  have i4 := iv 4 _ rfl
  have i5 := iv 5 _ rfl
  have i6 := iv 6 _ rfl
  have i7 := iv 7 _ rfl
  have lt0 : ∀ i, i < np → G 7 i < h_sz σ := fun i hi => P0.lt (by rw [(pkt P0 hnp (by omega) hi).1]; decide)
  generalize rpl (h_sz σ) (pK (nI (np + 1)) s ep) σ = τ at P1 K1 tg i0 i1 i2 i3 i4 i5 i6 i7
  have hn : ∀ b, b ≠ x + 14 → b ≠ x → Sm τ (h_setI (h_setR τ (x + 14) np (some (h_sz σ + 0))) x 8 (nI (np + 1))) b := fun b g1 g2 => (Sm_R g1).tr (Sm_I g2)
  refine ⟨?_, K1.1, K1.2.1, K1.2.2.1, K1.2.2.2.1, K1.2.2.2.2.1, fun c g1 g2 => (K1.2.2.2.2.2 c g1 g2).tr (hn c (by omega) (by omega))⟩
  obtain ⟨Z, F, N, R, W, K, S, T⟩ := P1
  have ht : ∀ b, h_tg τ b ≠ 105 → h_tg τ b ≠ 10 → Sm τ (h_setI (h_setR τ (x + 14) np (some (h_sz σ + 0))) x 8 (nI (np + 1))) b := fun b g1 g2 => hn b (fun z => g1 (by rw [z]; exact F.2.2.2.2.2.2.2.2.2.2.2.1)) (fun z => g2 (by rw [z]; exact F.1))
  refine ⟨Z, ?_, ?_, R.to (hn _ (by omega) (by omega)) (hn _ (by omega) (by omega)) (nw_1 (by decide)) (nw_1 (by decide)) (fun _ => nw_k (Or.inr (by omega))), W.to (hn _ (by omega) (by omega)) (hn _ (by omega) (by omega)) (nw_1 (by decide)) (fun _ => nw_k (Or.inr (by omega))) (fun _ => nw_k (Or.inr (by omega))), ?_, ?_, ?_⟩
  · exact (F.to (Fs_R (a := x + 14) (k := np) (v := some (h_sz σ + 0)) (by omega) (by omega) (by omega))).to Fs_I
  · obtain ⟨n1, n2, n3, n4, n5, n6⟩ := N
    refine ⟨by rw [iv_sI, nw_28], by rw [iv_sIk (by omega), nw_1 (by decide)]; exact n2, by rw [iv_sIk (by omega), nw_1 (by decide)]; exact n3, by rw [iv_sIk (by omega), nw_1 (by decide)]; exact n4, by rw [iv_sIk (by omega), nw_1 (by decide)]; exact n5, by rw [iv_sIk (by omega), nw_1 (by decide)]; exact n6⟩
  · obtain ⟨np', k1, k2, k3, k4⟩ := K
    have en : np' = np := (nI_eq (by omega) (by omega)).mp (k2.symm.trans hnp)
    subst en
    refine ⟨np' + 1, by omega, nw_28, fun i j hi hj e => ?_, fun i hi => ?_⟩
    · by_cases e1 : i = np'
      · by_cases e2 : j = np'
        · rw [e1, e2]
        · rw [e1, gPk_s, gPk_n (Or.inr e2)] at e
          have := lt0 j (by omega)
          omega
      · by_cases e2 : j = np'
        · rw [e2, gPk_s, gPk_n (Or.inr e1)] at e
          have := lt0 i (by omega)
          omega
        · rw [gPk_n (Or.inr e1), gPk_n (Or.inr e2)] at e
          exact k3 i j (by omega) (by omega) e
    · by_cases e1 : i = np'
      · subst e1
        have sa := ht (h_sz σ + 0) (by rw [tg]; decide) (by rw [tg]; decide)
        rw [gPk_s, sa.1, sa.2.2.1, sa.2.2.1, sa.2.2.1, sa.2.2.1, sa.2.2.1, sa.2.2.1, sa.2.2.1, sa.2.2.1, i0, i1, i2, i3, i4, i5, i6, i7]
        have e29 : (nwM ms i s ep).2.1 29 (i + 1) = s := by unfold nwM; rw [aS_k (by decide), aS_k (by decide), aS_s]
        have e30 : (nwM ms i s ep).2.1 30 (i + 1) = ep := by unfold nwM; rw [aS_k (by decide), aS_s]
        have e33 : (nwM ms i s ep).2.1 33 (i + 1) = -1 := by unfold nwM; rw [aS_s]
        rw [e29, e30, e33, nw_k (k := 31) (Or.inr (by omega)), nw_k (k := 32) (Or.inr (by omega)), nw_k (k := 34) (Or.inr (by omega)), nw_k (k := 35) (Or.inr (by omega)), hfr.1, hfr.2.1, hfr.2.2.1, hfr.2.2.2]
        exact ⟨rv_sR, tg, rfl, rfl, rfl, rfl, rfl, rfl, rfl, rfl⟩
      · obtain ⟨b1, b2, b3⟩ := k4 i (by omega)
        have sa := ht (G 7 i) (by rw [b2]; decide) (by rw [b2]; decide)
        rw [gPk_n (Or.inr e1), sa.1, sa.2.2.1, sa.2.2.1, sa.2.2.1, sa.2.2.1, sa.2.2.1, sa.2.2.1, sa.2.2.1, sa.2.2.1, nw_k (Or.inl (by omega)), nw_k (Or.inl (by omega)), nw_k (Or.inl (by omega)), nw_k (Or.inl (by omega)), nw_k (Or.inl (by omega)), nw_k (Or.inl (by omega)), nw_k (Or.inl (by omega))]
        refine ⟨?_, b2, b3⟩
        show h_rv (h_setR τ (x + 14) np' (some (h_sz σ + 0))) (x + 14) i = _
        rw [rv_sRk e1]
        exact b1
  · exact (S.to (ms' := nwM ms np s ep) (hn _ (by omega) (by omega)) (fun b hb => ht b (by rcases hb with h | h | h | h <;> rw [h] <;> decide) (by rcases hb with h | h | h | h <;> rw [h] <;> decide)) (fun i hi hp => by obtain ⟨-, -, -, -, -, -, ⟨-, b1, -⟩, -⟩ := (S.2.2 i hi).2 hp; exact ht _ (by rw [b1]; decide) (by rw [b1]; decide)) (nw_1 (by decide)) (fun k j h1 h2 => nw_k (Or.inr (by omega))) rfl).g (fun k i hk => gPk_n (Or.inl (by omega)))
  · exact (T.to (ms' := nwM ms np s ep) (hn _ (by omega) (by omega)) (fun b hb => ht b (by rcases hb with h | h | h | h | h | h <;> rw [h] <;> decide) (by rcases hb with h | h | h | h | h | h <;> rw [h] <;> decide)) (nw_1 (by decide)) (fun k j h1 h2 => nw_k (Or.inr (by omega)))).g (fun k i h1 h2 => gPk_n (Or.inl (by omega)))
end SND
