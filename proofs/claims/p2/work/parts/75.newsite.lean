/-! A SITE COMES, A SERVER COMES: the two sides with new cells -/
section NSV
variable {fx : Bool} {σ σ' : HS} {x : Nat} {G G' : Nat → Nat → Nat} {ms ms' : MS}
theorem SiR.num {s : Nat} (I : SiR fx σ G ms s) (e1 : ms'.1 1 = ms.1 1) (e14 : ms'.2.1 14 s = ms.2.1 14 s) (e15 : ms'.2.1 15 s = ms.2.1 15 s) (e18 : ms'.2.1 18 s = ms.2.1 18 s) (e16 : ∀ k, k < 4 → ms'.2.1 16 (4 * s + k) = ms.2.1 16 (4 * s + k)) (e17 : ∀ k, k < 4 → ms'.2.1 17 (4 * s + k) = ms.2.1 17 (4 * s + k)) (en : ∀ k j, 19 ≤ k → k ≤ 24 → 6 * s ≤ j → j < 6 * s + 6 → ms'.2.1 k j = ms.2.1 k j) : SiR fx σ G ms' s := by
  obtain ⟨a1, a2, a3, a4, a5, ⟨c, c1, c2, c3⟩, a7, a8, z, z1, z2, z3, z4⟩ := I
  refine ⟨a1, by rw [e14]; exact a2, by rw [e18]; exact a3, by rw [e15]; exact a4, a5, ⟨c, c1, by rw [e15]; exact c2, fun k hk => by rw [e16 k (by omega), e17 k (by omega)]; exact c3 k hk⟩, a7, a8, z, z1, z2, z3, ?_⟩
  have em : lL (fun q => nP (ms'.1 1) q.1) (nM ms') (6 * s) 6 = lL (fun q => nP (ms.1 1) q.1) (nM ms) (6 * s) 6 := by
    rw [e1]
    refine lL_congr 6 (6 * s) (fun j hj1 hj2 => ?_)
    unfold nM
    rw [en 19 j (by omega) (by omega) hj1 hj2, en 20 j (by omega) (by omega) hj1 hj2, en 21 j (by omega) (by omega) hj1 hj2, en 22 j (by omega) (by omega) hj1 hj2, en 23 j (by omega) (by omega) hj1 hj2, en 24 j (by omega) (by omega) hj1 hj2]
  rw [em, e1]
  exact z4
theorem SiR.g {s : Nat} (I : SiR fx σ G ms s) (h3 : G' 3 s = G 3 s) (h4 : G' 4 s = G 4 s) (h5 : G' 5 s = G 5 s) (h6 : G' 6 s = G 6 s) : SiR fx σ G' ms s := by
  unfold SiR at *
  rw [h3, h4, h5, h6]
  exact I
theorem SvR.num {i : Nat} (I : SvR σ G ms i) (e1 : ms'.1 1 = ms.1 1) (e4 : ms'.2.1 4 i = ms.2.1 4 i) (e5 : ms'.2.1 5 i = ms.2.1 5 i) (e6 : ms'.2.1 6 i = ms.2.1 6 i) (en : ∀ k j, 7 ≤ k → k ≤ 12 → 16 * i ≤ j → j < 16 * i + 16 → ms'.2.1 k j = ms.2.1 k j) (e3 : ∀ s, s < 8 → ms'.2.2 (8 * i + s) = ms.2.2 (8 * i + s)) : SvR σ G ms' i := by
  obtain ⟨a1, a2, a3, a4, a5, a6, b3, b4, b5⟩ := I
  have epB : pB ms' i = pB ms i := e4
  have epL : pL ms' i = pL ms i := by unfold pL; rw [e5]
  refine ⟨a1, a2, by rw [e6]; exact a3, by rw [epB, epL]; exact a4, a5, a6, fun s hs => by rw [e3 s hs]; exact b3 s hs, b4, ?_⟩
  have em : eL (ms'.1 1) (eM ms') (16 * i) 16 = eL (ms.1 1) (eM ms) (16 * i) 16 := by
    rw [e1]
    refine eL_congr 16 (16 * i) (fun j h1 h2 => ?_)
    unfold eM
    rw [en 7 j (by omega) (by omega) h1 h2, en 8 j (by omega) (by omega) h1 h2, en 9 j (by omega) (by omega) h1 h2, en 10 j (by omega) (by omega) h1 h2, en 11 j (by omega) (by omega) h1 h2, en 12 j (by omega) (by omega) h1 h2]
  rw [em, e1]
  exact b5
theorem SvR.g {i : Nat} (I : SvR σ G ms i) (h0 : G' 0 i = G 0 i) (h1 : G' 1 i = G 1 i) (h2 : G' 2 i = G 2 i) : SvR σ G' ms i := by
  unfold SvR at *
  rw [h0, h1, h2]
  exact I
/-- where the new site's parts lie -/
def gSite (G : Nat → Nat → Nat) (s a : Nat) : Nat → Nat → Nat := fun k j => if 3 ≤ k ∧ k ≤ 6 ∧ j = s then a + (k - 3) else G k j
theorem gSite_n {s a k j : Nat} (h : j ≠ s) : gSite G s a k j = G k j := if_neg (fun z => h z.2.2)
theorem gSite_k {s a k j : Nat} (h : k < 3 ∨ 6 < k) : gSite G s a k j = G k j := if_neg (fun z => by omega)
theorem gSite_s {s a k : Nat} (h : 3 ≤ k ∧ k ≤ 6) : gSite G s a k s = a + (k - 3) := if_pos ⟨h.1, h.2, rfl⟩
theorem Kx.g (K : Kx σ x G ms) (h : ∀ i, G' 7 i = G 7 i) : Kx σ x G' ms := by
  obtain ⟨np, a1, a2, a3, a4⟩ := K
  exact ⟨np, a1, a2, fun i j hi hj e => a3 i j hi hj (by rw [← h, ← h]; exact e), fun i hi => by rw [h i]; exact a4 i hi⟩
theorem Sx.g (S : Sx σ x G ms) (h : ∀ k i, k ≤ 2 → G' k i = G k i) : Sx σ x G' ms := by
  obtain ⟨s1, s2, s3⟩ := S
  refine ⟨fun i j hi hj p1 p2 e => s1 i j hi hj p1 p2 (by rw [← h 1 i (by omega), ← h 1 j (by omega), ← h 2 i (by omega), ← h 2 j (by omega), ← h 0 i (by omega), ← h 0 j (by omega)]; exact e), fun i hi p => by rw [h 2 i (by omega)]; exact s2 i hi p, fun i hi => ⟨(s3 i hi).1, fun p => ?_⟩⟩
  obtain ⟨r1, I⟩ := (s3 i hi).2 p
  exact ⟨by rw [h 0 i (by omega)]; exact r1, I.g (h 0 i (by omega)) (h 1 i (by omega)) (h 2 i (by omega))⟩
theorem Tx.g (T : Tx fx σ x G ms) (h : ∀ k i, 3 ≤ k → k ≤ 6 → G' k i = G k i) : Tx fx σ x G' ms := by
  obtain ⟨t1, t2⟩ := T
  refine ⟨fun i j hi hj p1 p2 e => t1 i j hi hj p1 p2 (by rw [← h 3 i (by omega) (by omega), ← h 3 j (by omega) (by omega), ← h 4 i (by omega) (by omega), ← h 4 j (by omega) (by omega), ← h 5 i (by omega) (by omega), ← h 5 j (by omega) (by omega), ← h 6 i (by omega) (by omega), ← h 6 j (by omega) (by omega)]; exact e), fun i hi => ⟨(t2 i hi).1, fun p => ?_⟩⟩
  obtain ⟨r1, I⟩ := (t2 i hi).2 p
  exact ⟨by rw [h 3 i (by omega) (by omega)]; exact r1, I.g (h 3 i (by omega) (by omega)) (h 4 i (by omega) (by omega)) (h 5 i (by omega) (by omega)) (h 6 i (by omega) (by omega))⟩
theorem Tx.to' (T : Tx fx σ x G ms) (ht : ∀ b, h_tg σ b = 2 ∨ h_tg σ b = 3 ∨ h_tg σ b = 5 ∨ h_tg σ b = 8 ∨ h_tg σ b = 104 ∨ h_tg σ b = 106 → Sm σ σ' b) : ∀ s, s < 8 → ¬ ms.2.1 14 s = -1 → SiR fx σ' G ms s := fun s hs h => ((T.2 s hs).2 h).2.to ht rfl (fun _ _ _ _ => rfl)
set_option maxRecDepth 100000 in
theorem Rep_site (P : Rep fx σ x G ms) {s : Nat} (hs : s < 8) (h14 : ms.2.1 14 s = -1) (h15 : ms.2.1 15 s = 0) (h18 : ms.2.1 18 s = 0) (hnt : lL (fun q => nP (ms.1 1) q.1) (nM ms) (6 * s) 6 = []) {pl : Int32} (hpl : ¬ pl = -1) : Rep fx (h_setR (rpl (h_sz σ) (sTx pl) σ) (x + 7) s (some (h_sz σ + 0))) x (gSite G s (h_sz σ)) (aS ms 14 s pl) := by
  have B := P.n0
  have h50 := P.1.1
  have P0 := P
  have P1 := P.ext (Ext_rpl B (sTx pl))
  have tg : ∀ k t, tgL k (sTx pl) = t → h_tg (rpl (h_sz σ) (sTx pl) σ) (h_sz σ + k) = t := fun k t e => (rpl_tg B k _).trans e
  have rv : ∀ k j r, k < 4 → rvL k j (sTx pl) = some r → h_rv (rpl (h_sz σ) (sTx pl) σ) (h_sz σ + k) j = some (h_sz σ + r) := fun k j r hk e => by rw [rpl_rv B k j (sTx pl) (Or.inl hk), e]; rfl
  have iv : ∀ k j r, k < 4 → ivL k j (sTx pl) = r → h_iv (rpl (h_sz σ) (sTx pl) σ) (h_sz σ + k) j = r := fun k j r hk e => (rpl_iv B k j (sTx pl) (Or.inl hk)).trans e
  have ln : ∀ k r, k < 4 → lnL k (sTx pl) = r → h_ln (rpl (h_sz σ) (sTx pl) σ) (h_sz σ + k) = r := fun k r hk e => (rpl_ln B k (sTx pl) (Or.inl hk)).trans e
  have lt0 : ∀ t k, t < 8 → ¬ ms.2.1 14 t = -1 → 3 ≤ k → k ≤ 6 → G k t < h_sz σ := by
    intro t k ht hp hk1 hk2
    obtain ⟨-, a1, -, -, -, ⟨-, a6, -⟩, -, ⟨-, a9⟩, ⟨-, b2, -⟩, -⟩ := (P0.2.2.2.2.2.2.2.2 t ht).2 hp
    rcases (show k = 3 ∨ k = 4 ∨ k = 5 ∨ k = 6 by omega) with e | e | e | e <;> rw [e]
    · exact P0.lt (by rw [a1]; decide)
    · exact P0.lt (by rw [a6]; decide)
    · exact P0.lt (by rw [a9]; decide)
    · exact P0.lt (by rw [b2]; decide)
  generalize hτ : rpl (h_sz σ) (sTx pl) σ = τ at P1 tg rv iv ln ⊢
  have hn : ∀ b, b ≠ x + 7 → Sm τ (h_setR τ (x + 7) s (some (h_sz σ + 0))) b := fun b hb => Sm_R hb
  obtain ⟨Z, F, N, R, W, K, S, T⟩ := P1
  have ht : ∀ b, h_tg τ b ≠ 108 → Sm τ (h_setR τ (x + 7) s (some (h_sz σ + 0))) b := fun b hb => hn b (fun z => hb (by rw [z]; exact F.2.2.2.2.1.1))
  refine ⟨Z, F.to (Fs_R (by omega) (by omega) (by omega)), N.to (hn x (by omega)) rfl rfl rfl rfl rfl rfl, R.to (hn _ (by omega)) (hn _ (by omega)) rfl rfl (fun _ => aS_k (by decide)), W.to (hn _ (by omega)) (hn _ (by omega)) rfl (fun _ => aS_k (by decide)) (fun _ => aS_k (by decide)), ?_, ?_, ?_⟩
  · exact (K.to (ms' := aS ms 14 s pl) (hn _ (by omega)) (fun b hb => ht b (by rw [hb]; decide)) rfl (fun k j h1 h2 => aS_k (by omega))).g (fun i => gSite_k (by omega))
  · exact (S.to (ms' := aS ms 14 s pl) (hn _ (by omega)) (fun b hb => ht b (by rcases hb with h | h | h | h <;> rw [h] <;> decide)) (fun i hi hp => ht _ (by obtain ⟨-, -, -, -, -, -, ⟨-, b1, -⟩, -⟩ := (S.2.2 i hi).2 hp; rw [b1]; decide)) rfl (fun k j h1 h2 => aS_k (by omega)) rfl).g (fun k i hk => gSite_k (by omega))
  · have T' := T.to' (σ' := h_setR τ (x + 7) s (some (h_sz σ + 0))) (fun b hb => ht b (by rcases hb with h | h | h | h | h | h <;> rw [h] <;> decide))
    have e14 : ∀ t, t ≠ s → (aS ms 14 s pl).2.1 14 t = ms.2.1 14 t := fun t h => aS_j h
    have es : (aS ms 14 s pl).2.1 14 s = pl := aS_s
    have ek : ∀ k j, k ≠ 14 → (aS ms 14 s pl).2.1 k j = ms.2.1 k j := fun k j h => aS_k h
    refine ⟨fun i j hi hj p1 p2 h => ?_, fun t htt => ?_⟩
    · by_cases e1 : i = s
      · by_cases e2 : j = s
        · rw [e1, e2]
        · exfalso
          rw [e14 j e2] at p2
          have l3 := lt0 j 3 hj p2 (by omega) (by omega)
          have l4 := lt0 j 4 hj p2 (by omega) (by omega)
          have l5 := lt0 j 5 hj p2 (by omega) (by omega)
          have l6 := lt0 j 6 hj p2 (by omega) (by omega)
          rw [e1, gSite_s (by omega), gSite_s (by omega), gSite_s (by omega), gSite_s (by omega), gSite_n e2, gSite_n e2, gSite_n e2, gSite_n e2] at h
          omega
      · rw [e14 i e1] at p1
        by_cases e2 : j = s
        · exfalso
          have l3 := lt0 i 3 hi p1 (by omega) (by omega)
          have l4 := lt0 i 4 hi p1 (by omega) (by omega)
          have l5 := lt0 i 5 hi p1 (by omega) (by omega)
          have l6 := lt0 i 6 hi p1 (by omega) (by omega)
          rw [e2, gSite_s (by omega), gSite_s (by omega), gSite_s (by omega), gSite_s (by omega), gSite_n e1, gSite_n e1, gSite_n e1, gSite_n e1] at h
          omega
        · rw [e14 j e2] at p2
          rw [gSite_n e1, gSite_n e1, gSite_n e1, gSite_n e1, gSite_n e2, gSite_n e2, gSite_n e2, gSite_n e2] at h
          exact T.1 i j hi hj p1 p2 h
    · by_cases e : t = s
      · subst e
        refine ⟨fun z => absurd (es.symm.trans z) hpl, fun _ => ⟨?_, ?_⟩⟩
        · rw [gSite_s (by omega)]
          exact rv_sR
        · have q3 : gSite G t (h_sz σ) 3 t = h_sz σ + 0 := gSite_s (by omega)
          have q4 : gSite G t (h_sz σ) 4 t = h_sz σ + 1 := gSite_s (by omega)
          have q5 : gSite G t (h_sz σ) 5 t = h_sz σ + 2 := gSite_s (by omega)
          have q6 : gSite G t (h_sz σ) 6 t = h_sz σ + 3 := gSite_s (by omega)
          have n0 := hn (h_sz σ + 0) (by omega)
          have n1 := hn (h_sz σ + 1) (by omega)
          have n2 := hn (h_sz σ + 2) (by omega)
          have n3 := hn (h_sz σ + 3) (by omega)
          unfold SiR
          rw [q3, q4, q5, q6, es, ek 18 t (by omega), ek 15 t (by omega), h15, h18, n0.1, n1.1, n1.2.1, n2.1, n3.1, n3.2.1, n0.2.2.1, n0.2.2.1, n0.2.2.1, n0.2.2.2.1, n0.2.2.2.1, n2.2.2.2.1, n2.2.2.1]
          refine ⟨tg 0 8 rfl, iv 0 0 pl (by omega) rfl, iv 0 1 0 (by omega) rfl, iv 0 3 0 (by omega) rfl, ⟨rv 0 2 1 (by omega) rfl, tg 1 106 rfl, ln 1 4 (by omega) rfl⟩, ⟨0, by omega, rfl, fun k hk => absurd hk (Nat.not_lt_zero k)⟩, ⟨rv 0 4 2 (by omega) rfl, tg 2 3 rfl⟩, ⟨rv 2 0 3 (by omega) rfl, tg 3 104 rfl, ln 3 6 (by omega) rfl⟩, 0, by omega, iv 2 1 0 (by omega) rfl, fun j hj => absurd hj (Nat.not_lt_zero j), ?_⟩
          have em : lL (fun q => nP ((aS ms 14 t pl).1 1) q.1) (nM (aS ms 14 t pl)) (6 * t) 6 = [] := by
            rw [← hnt]
            refine lL_congr 6 (6 * t) (fun j _ _ => ?_)
            unfold nM
            rw [ek 19 j (by omega), ek 20 j (by omega), ek 21 j (by omega), ek 22 j (by omega), ek 23 j (by omega), ek 24 j (by omega)]
          rw [em]
          exact ⟨[], List.Perm.refl _, List.Pairwise.nil, trivial⟩
      · refine ⟨fun z => ?_, fun z => ?_⟩
        · rw [e14 t e] at z
          rw [rv_sRk e]
          exact (T.2 t htt).1 z
        · rw [e14 t e] at z
          obtain ⟨r1, I⟩ := (T.2 t htt).2 z
          refine ⟨by rw [rv_sRk e, gSite_n e]; exact r1, ?_⟩
          exact ((T' t htt z).num (ms' := aS ms 14 s pl) rfl (e14 t e) (ek 15 _ (by omega)) (ek 18 _ (by omega)) (fun k _ => ek 16 _ (by omega)) (fun k _ => ek 17 _ (by omega)) (fun k j h1 _ _ _ => ek k j (by omega))).g (gSite_n e) (gSite_n e) (gSite_n e) (gSite_n e)
end NSV
