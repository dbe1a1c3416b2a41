/-! THE ACTS OF THE ONE SIDE, HELD AGAINST THE OTHER'S: lose, deliver, draw, ask, follow, solicit -/
/-- the heap has grown by dz cells of ds places; the other side's cells are as they were -/
def Kp (x dz ds : Nat) (σ σ' : HS) : Prop := h_sz σ' = h_sz σ + dz ∧ h_sl σ' = h_sl σ + ds ∧ h_cz σ' = h_cz σ ∧ h_ck σ' = h_ck σ ∧ ∀ a, x + 15 ≤ a → a ≤ x + 49 → Sm σ σ' a
theorem Kp.rf {x : Nat} {σ : HS} : Kp x 0 0 σ σ := ⟨rfl, rfl, rfl, rfl, fun _ _ _ => Sm.rf⟩
theorem Kp.tr {x d1 d2 s1 s2 : Nat} {σ σ1 σ2 : HS} (h : Kp x d1 s1 σ σ1) (h' : Kp x d2 s2 σ1 σ2) : Kp x (d1 + d2) (s1 + s2) σ σ2 := by
  obtain ⟨a1, a2, a3, a4, a5⟩ := h
  obtain ⟨b1, b2, b3, b4, b5⟩ := h'
  exact ⟨by rw [b1, a1]; omega, by rw [b2, a2]; omega, b3.trans a3, b4.trans a4, fun a h1 h2 => (a5 a h1 h2).tr (b5 a h1 h2)⟩
theorem Kp.tr0 {x : Nat} {σ σ1 σ2 : HS} (h : Kp x 0 0 σ σ1) (h' : Kp x 0 0 σ1 σ2) : Kp x 0 0 σ σ2 := h.tr h'
theorem aS_comm {ms : MS} {k k' j j' : Nat} {v v' : Int32} (h : k ≠ k') : aS (aS ms k j v) k' j' v' = aS (aS ms k' j' v') k j v := by
  unfold aS
  refine Prod.ext rfl (Prod.ext ?_ rfl)
  funext a b
  show h_up2 (h_up2 ms.2.1 k j v) k' j' v' a b = h_up2 (h_up2 ms.2.1 k' j' v') k j v a b
  unfold h_up2
  by_cases h1 : a = k' ∧ b = j'
  · rw [if_pos h1, if_neg (fun z => h (z.1.symm.trans h1.1)), if_pos h1]
  · rw [if_neg h1]
    by_cases h2 : a = k ∧ b = j
    · rw [if_pos h2, if_pos h2]
    · rw [if_neg h2, if_neg h2, if_neg h1]
section AC2
variable {fx : Bool} {σ : HS} {x : Nat} {G : Nat → Nat → Nat} {ms : MS}
theorem Kp_WI {L : List Nat} {σ' : HS} (Z : Zx σ x) (W : WI L σ σ') (hL : ∀ a, a ∈ L → a < x + 15 ∨ h_tg σ a = 4 ∨ h_tg σ a = 8 ∨ h_tg σ a = 3) : Kp x 0 0 σ σ' := by
  refine ⟨W.2.2.2.2.1.1, W.2.2.2.2.1.2.1, W.2.2.2.2.1.2.2.1, W.2.2.2.2.1.2.2.2, fun a h1 h2 => W.sm (fun ha => ?_)⟩
  have ht := Z.2.2 a h1 h2
  rcases hL a ha with h | h | h | h
  · omega
  · rw [h] at ht; revert ht; decide
  · rw [h] at ht; revert ht; decide
  · rw [h] at ht; revert ht; decide
/-- a packet: where it stands -/
theorem Rep_np (P : Rep fx σ x G ms) : ∃ np, np ≤ 200 ∧ ms.1 28 = nI np := by
  obtain ⟨np, k1, k2, -⟩ := P.2.2.2.2.2.1
  exact ⟨np, k1, k2⟩
theorem Rep_n (P : Rep fx σ x G ms) : ∃ n, n ≤ 200 ∧ ms.1 36 = nI n := by
  obtain ⟨f, n, a1, a2, a3, a4, a5, -⟩ := P.2.2.2.1
  exact ⟨n, a2, a5⟩
theorem pkt (P : Rep fx σ x G ms) {i np : Nat} (hnp : ms.1 28 = nI np) (hnp2 : np ≤ 200) (hi : i < np) : h_tg σ (G 7 i) = 4 ∧ h_iv σ (G 7 i) 0 = nI (i + 1) ∧ h_iv σ (G 7 i) 1 = ms.2.1 29 (i + 1) ∧ h_iv σ (G 7 i) 2 = ms.2.1 30 (i + 1) ∧ h_iv σ (G 7 i) 3 = ms.2.1 31 (i + 1) ∧ h_iv σ (G 7 i) 4 = ms.2.1 32 (i + 1) ∧ h_iv σ (G 7 i) 5 = ms.2.1 33 (i + 1) ∧ h_iv σ (G 7 i) 6 = ms.2.1 34 (i + 1) ∧ h_iv σ (G 7 i) 7 = ms.2.1 35 (i + 1) := by
  obtain ⟨np', k1, k2, k3, k4⟩ := P.2.2.2.2.2.1
  have en : np' = np := (nI_eq (by omega) (by omega)).mp (k2.symm.trans hnp)
  subst en
  exact (k4 i hi).2
theorem Kp_pk (P : Rep fx σ x G ms) {i np k : Nat} {v : Int32} (hnp : ms.1 28 = nI np) (hnp2 : np ≤ 200) (hi : i < np) : Kp x 0 0 σ (h_setI σ (G 7 i) k v) := Kp_WI P.1 (WI_I (L := [G 7 i]) (by simp)) (fun a ha => by rw [List.mem_singleton.mp ha]; exact Or.inr (Or.inl (pkt P hnp hnp2 hi).1))
theorem Kp_x (P : Rep fx σ x G ms) {k : Nat} {v : Int32} : Kp x 0 0 σ (h_setI σ x k v) := Kp_WI P.1 (WI_I (L := [x]) (by simp)) (fun a ha => by rw [List.mem_singleton.mp ha]; exact Or.inl (by omega))
theorem Kp_post (P : Rep fx σ x G ms) {σ' : HS} (W : WI [x + 10, x + 11, x + 13] σ σ') : Kp x 0 0 σ σ' := Kp_WI P.1 W (fun a ha => by simp only [List.mem_cons, List.mem_nil_iff, or_false] at ha; exact Or.inl (by omega))
theorem a_lose (P : Rep fx σ x G ms) {i np : Nat} (hnp : ms.1 28 = nI np) (hnp2 : np ≤ 200) (hi : i < np) : ∃ σ', f_X3_lose σ (some (G 7 i)) = some ((), σ') ∧ Rep fx σ' x G (losM ms (i + 1)) ∧ Kp x 0 0 σ σ' := by
  obtain ⟨t0, -, -, -, t3, -⟩ := pkt P hnp hnp2 hi
  unfold f_X3_lose losM
  rw [gI_s t0, t3, h_b1_s]
  by_cases h : ms.2.1 31 (i + 1) = 1
  · rw [if_pos h, if_pos h, pI_s t0, h_b1_s]
    exact ⟨_, rfl, Rep_pk P hnp hnp2 hi (k := 3) (by omega), Kp_pk P hnp hnp2 hi⟩
  · rw [if_neg h, if_neg h]
    exact ⟨σ, rfl, P, Kp.rf⟩
theorem a_deliver (P : Rep fx σ x G ms) {i np : Nat} (s : Int32) (hnp : ms.1 28 = nI np) (hnp2 : np ≤ 200) (hi : i < np) : ∃ σ', f_X3_arriveAt σ (some (G 7 i)) s = some ((), σ') ∧ Rep fx σ' x G (dlvM ms (i + 1) s) ∧ Kp x 0 0 σ σ' := by
  have t0 := (pkt P hnp hnp2 hi).1
  unfold f_X3_arriveAt dlvM
  rw [pI_s t0, h_b1_s]
  have P1 := Rep_pk P (v := 2) hnp hnp2 hi (k := 3) (by omega)
  have K1 := Kp_pk P (k := 3) (v := 2) hnp hnp2 hi
  have e1 : h_iv (h_setI σ (G 7 i) 3 2) (G 7 i) 7 = ms.2.1 35 (i + 1) := by
    rw [iv_sIk (by decide)]; exact (pkt P hnp hnp2 hi).2.2.2.2.2.2.2.2
  generalize h_setI σ (G 7 i) 3 2 = s1 at P1 K1 e1
  have t1 := (pkt P1 (by exact hnp) hnp2 hi).1
  rw [gI_s t1, e1, h_b1_s]
  by_cases h : ms.2.1 35 (i + 1) = 0
  · rw [if_pos h, if_pos h, pI_s t1, h_b1_s]
    have P2 := Rep_pk P1 (v := s) (by exact hnp) hnp2 hi (k := 5) (by omega)
    have K2 := Kp_pk P1 (k := 5) (v := s) (by exact hnp) hnp2 hi
    have e2 : h_iv (h_setI s1 (G 7 i) 5 s) (G 7 i) 7 = ms.2.1 35 (i + 1) := by rw [iv_sIk (by decide)]; exact e1
    generalize h_setI s1 (G 7 i) 5 s = s2 at P2 K2 e2
    have t2 := (pkt P2 (by exact hnp) hnp2 hi).1
    rw [gI_s t2, e2, h_b1_s, pI_s t2, h_b1_s]
    refine ⟨_, rfl, ?_, (K1.tr0 K2).tr0 (Kp_pk P2 (by exact hnp) hnp2 hi)⟩
    have P3 := Rep_pk P2 (v := ms.2.1 35 (i + 1) + 1) (by exact hnp) hnp2 hi (k := 7) (by omega)
    have e : aS (aS (aS ms 31 (i + 1) 2) 33 (i + 1) s) 35 (i + 1) (ms.2.1 35 (i + 1) + 1) = aS (aS (aS ms 33 (i + 1) s) 35 (i + 1) (ms.2.1 35 (i + 1) + 1)) 31 (i + 1) 2 := by
      rw [aS_comm (k := 31) (k' := 33) (by decide), aS_comm (k := 31) (k' := 35) (by decide)]
    rw [← e]
    exact P3
  · rw [if_neg h, if_neg h, h_b1_s, pI_s t1, h_b1_s]
    refine ⟨_, rfl, ?_, K1.tr0 (Kp_pk P1 (by exact hnp) hnp2 hi)⟩
    have P3 := Rep_pk P1 (v := ms.2.1 35 (i + 1) + 1) (by exact hnp) hnp2 hi (k := 7) (by omega)
    rw [aS_comm (k := 35) (k' := 31) (by decide)]
    exact P3
theorem a_draw (P : Rep fx σ x G ms) : ∃ σ', f_X9_draw σ (some x) = some (drw (ms.1 2), σ') ∧ Rep fx σ' x G (k_pI ms 2 (drw (ms.1 2))) ∧ Kp x 0 0 σ σ' ∧ WI [x] σ σ' := by
  have F := P.2.1
  have n3 := P.2.2.1.2.2.1
  unfold f_X9_draw
  rw [gI_s F.1, n3, h_b1_s, h_b1_s, pI_s F.1, h_b1_s]
  have P1 := Rep_xi P (k := 10) (v := ms.1 2 ^^^ (ms.1 2 <<< (13 &&& 31))) (by omega)
  have K1 := Kp_x P (k := 10) (v := ms.1 2 ^^^ (ms.1 2 <<< (13 &&& 31)))
  have W1 : WI [x] σ (h_setI σ x 10 (ms.1 2 ^^^ (ms.1 2 <<< (13 &&& 31)))) := WI_I (by simp)
  have e1 : h_iv (h_setI σ x 10 (ms.1 2 ^^^ (ms.1 2 <<< (13 &&& 31)))) x 10 = ms.1 2 ^^^ (ms.1 2 <<< (13 &&& 31)) := iv_sI
  generalize ea : ms.1 2 ^^^ (ms.1 2 <<< (13 &&& 31)) = a at P1 K1 W1 e1
  generalize h_setI σ x 10 a = s1 at P1 K1 W1 e1
  have F1 := P1.2.1
  rw [gI_s F1.1, e1, h_b1_s, h_b1_s, pI_s F1.1, h_b1_s]
  have P2 := Rep_xi P1 (k := 10) (v := a ^^^ h_ushr a 17) (by omega)
  have K2 := Kp_x P1 (k := 10) (v := a ^^^ h_ushr a 17)
  have W2 : WI [x] s1 (h_setI s1 x 10 (a ^^^ h_ushr a 17)) := WI_I (by simp)
  have e2 : h_iv (h_setI s1 x 10 (a ^^^ h_ushr a 17)) x 10 = a ^^^ h_ushr a 17 := iv_sI
  generalize eb : a ^^^ h_ushr a 17 = b at P2 K2 W2 e2
  generalize h_setI s1 x 10 b = s2 at P2 K2 W2 e2
  have F2 := P2.2.1
  rw [gI_s F2.1, e2, h_b1_s, h_b1_s, pI_s F2.1, h_b1_s]
  have P3 := Rep_xi P2 (k := 10) (v := b ^^^ (b <<< (5 &&& 31))) (by omega)
  have K3 := Kp_x P2 (k := 10) (v := b ^^^ (b <<< (5 &&& 31)))
  have W3 : WI [x] s2 (h_setI s2 x 10 (b ^^^ (b <<< (5 &&& 31)))) := WI_I (by simp)
  have e3 : h_iv (h_setI s2 x 10 (b ^^^ (b <<< (5 &&& 31)))) x 10 = b ^^^ (b <<< (5 &&& 31)) := iv_sI
  have ed : b ^^^ (b <<< (5 &&& 31)) = drw (ms.1 2) := by
    unfold drw
    rw [ea, eb]
  rw [ed] at P3 K3 W3 e3 ⊢
  generalize h_setI s2 x 10 (drw (ms.1 2)) = s3 at P3 K3 W3 e3
  have F3 := P3.2.1
  rw [gI_s F3.1, e3, h_b1_s]
  refine ⟨s3, rfl, ?_, (K1.tr0 K2).tr0 K3, (W1.tr W2).tr W3⟩
  have : k_pI (k_pI (k_pI ms (xk 10) a) (xk 10) b) (xk 10) (drw (ms.1 2)) = k_pI ms 2 (drw (ms.1 2)) := by
    rw [pI_pI, pI_pI]; rfl
  rw [← this]
  exact P3
theorem a_postShort (P : Rep fx σ x G ms) {n : Nat} (hn : ms.1 36 = nI n) (h : n ≤ 200) (kd to a b c : Int32) : ∃ σ', f_X9_postShort σ (some x) kd to a b c = some ((), σ') ∧ Rep fx σ' x G (postM ms n (mG a b c 0 0 0 kd to)) ∧ Kp x 0 0 σ σ' := by
  obtain ⟨σ', r1, r2, r3⟩ := c_postShort P.2.1 P.2.2.2.1 hn h kd to a b c
  exact ⟨σ', r1, Rep_post P r2 r3, Kp_post P r2⟩
theorem a_ask (P : Rep fx σ x G ms) {n i np : Nat} (sv : Int32) (hn : ms.1 36 = nI n) (h : n ≤ 200) (hnp : ms.1 28 = nI np) (hnp2 : np ≤ 200) (hi : i < np) : ∃ σ', f_X9_postRequest σ (some x) sv (some (G 7 i)) = some ((), σ') ∧ Rep fx σ' x G (askM ms n (i + 1) sv) ∧ Kp x 0 0 σ σ' := by
  unfold f_X9_postRequest askM
  obtain ⟨s1, r1, P1, K1, -⟩ := a_draw P
  rw [rcv_s P.2.1.1, h_b1_s, r1, h_bd_s]
  generalize drw (ms.1 2) = g at P1
  have hnp1 : (k_pI ms 2 g).1 28 = nI np := by rw [pI_n1 (by decide)]; exact hnp
  have t1 := (pkt P1 hnp1 hnp2 hi).1
  rw [pI_s t1, h_b1_s]
  have P2 := Rep_pk P1 (v := g) hnp1 hnp2 hi (k := 4) (by omega)
  have K2 := Kp_pk P1 (k := 4) (v := g) hnp1 hnp2 hi
  generalize h_setI s1 (G 7 i) 4 g = s2 at P2 K2
  have t2 := (pkt P2 hnp1 hnp2 hi).1
  rw [pI_s t2, h_b1_s]
  have P3 := Rep_pk P2 (v := 0) hnp1 hnp2 hi (k := 3) (by omega)
  have K3 := Kp_pk P2 (k := 3) (v := 0) hnp1 hnp2 hi
  generalize h_setI s2 (G 7 i) 3 0 = s3 at P3 K3
  rw [aS_comm (k := 32) (k' := 31) (by decide)] at P3
  obtain ⟨t3, -, f1, f2, -, f4, -⟩ := pkt P3 hnp1 hnp2 hi
  rw [gI_s t3, f1, h_b1_s, gI_s t3, f4, h_b1_s, gI_s t3, f2, h_b1_s, rcv_s P3.2.1.1, h_b1_s]
  obtain ⟨s4, r4, P4, K4⟩ := a_postShort P3 (n := n) (by rw [aS_1, aS_1, pI_n1 (by decide)]; exact hn) h 1 sv ((aS (aS (k_pI ms 2 g) 31 (i + 1) 0) 32 (i + 1) g).2.1 29 (i + 1)) ((aS (aS (k_pI ms 2 g) 31 (i + 1) 0) 32 (i + 1) g).2.1 32 (i + 1)) ((aS (aS (k_pI ms 2 g) 31 (i + 1) 0) 32 (i + 1) g).2.1 30 (i + 1))
  refine ⟨s4, ?_, ?_, ((K1.tr0 K2).tr0 K3).tr0 K4⟩
  · show h_bd (f_X9_postShort s3 (some x) 1 sv _ _ _) _ = _
    rw [r4, h_bd_s]
  · rw [aS_s, aS_k (show (29 : Nat) ≠ 32 by decide), aS_k (show (29 : Nat) ≠ 31 by decide), aS_k (show (30 : Nat) ≠ 32 by decide), aS_k (show (30 : Nat) ≠ 31 by decide)] at P4
    exact P4
theorem a_solicit (P : Rep fx σ x G ms) {n : Nat} (hn : ms.1 36 = nI n) (h : n ≤ 200) (s ep pl : Int32) : ∃ σ', f_X9_postSolicit σ (some x) s ep pl = some ((), σ') ∧ Rep fx σ' x G (postM (k_pI ms 41 (ms.1 41 + 1)) n (mG ep pl 0 0 0 0 4 s)) ∧ Kp x 0 0 σ σ' := by
  have F := P.2.1
  unfold f_X9_postSolicit
  rw [gI_s F.1, P.2.2.1.2.2.2.2.2, h_b1_s, pI_s F.1, h_b1_s]
  have P1 := Rep_xi P (k := 13) (v := ms.1 41 + 1) (by omega)
  have K1 := Kp_x P (k := 13) (v := ms.1 41 + 1)
  generalize h_setI σ x 13 (ms.1 41 + 1) = s1 at P1 K1
  rw [rcv_s P1.2.1.1, h_b1_s]
  have P1' : Rep fx s1 x G (k_pI ms 41 (ms.1 41 + 1)) := P1
  obtain ⟨s2, r2, P2, K2⟩ := a_postShort P1' (n := n) (by rw [pI_n1 (by decide)]; exact hn) h 4 s ep pl 0
  exact ⟨s2, by rw [r2, h_bd_s], P2, K1.tr0 K2⟩
/-- what a note says is done -/
theorem a_follow (P : Rep fx σ x G ms) {n i np a : Nat} {pl : Int32} (hn : ms.1 36 = nI n) (h : n ≤ 200) (hnp : ms.1 28 = nI np) (hnp2 : np ≤ 200) (hi : i < np) (ha : h_tg σ a = 2) (hp : h_iv σ a 1 = pl) : ∃ σ', f_X9_follow σ (some x) (some a) (some (G 7 i)) = some ((), σ') ∧ Rep fx σ' x G (folM ms n (i + 1) pl) ∧ Kp x 0 0 σ σ' := by
  have t0 := (pkt P hnp hnp2 hi).1
  have hne : a ≠ G 7 i := fun z => by rw [z, t0] at ha; cases ha
  unfold f_X9_follow folM f_X1_isHole
  rw [rcv_s ha, h_b1_s, gI_s ha, hp, h_b1_s]
  by_cases h1 : pl = -1
  · rw [if_pos h1, if_pos h1, h_bd_s, if_neg (by decide), pI_s t0, h_b1_s]
    exact ⟨_, rfl, Rep_pk P hnp hnp2 hi (k := 3) (by omega), Kp_pk P hnp hnp2 hi⟩
  · rw [if_neg h1, if_neg h1, h_bd_s, if_pos rfl, pI_s t0, h_b1_s]
    have P1 := Rep_pk P (v := 1) hnp hnp2 hi (k := 3) (by omega)
    have K1 := Kp_pk P (k := 3) (v := 1) hnp hnp2 hi
    have ea : h_tg (h_setI σ (G 7 i) 3 1) a = 2 ∧ h_iv (h_setI σ (G 7 i) 3 1) a 1 = pl := ⟨ha, by rw [iv_sIa hne]; exact hp⟩
    generalize h_setI σ (G 7 i) 3 1 = s1 at P1 K1 ea
    obtain ⟨t1, f0, f1, f2, -⟩ := pkt P1 (by exact hnp) hnp2 hi
    rw [gI_s ea.1, ea.2, h_b1_s, gI_s t1, f1, h_b1_s, gI_s t1, f0, h_b1_s, gI_s t1, f2, h_b1_s, rcv_s P1.2.1.1, h_b1_s, aS_k (show (29 : Nat) ≠ 3 + 28 by decide), aS_k (show (30 : Nat) ≠ 3 + 28 by decide)]
    obtain ⟨s2, r2, P2, K2⟩ := a_postShort P1 (n := n) (by exact hn) h 3 pl (ms.2.1 29 (i + 1)) (nI (i + 1)) (ms.2.1 30 (i + 1))
    exact ⟨s2, by rw [r2, h_bd_s], P2, K1.tr0 K2⟩
end AC2
