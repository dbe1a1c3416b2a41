/-! WRITES THAT KEEP THE TWO SIDES TOGETHER -/
section ACT
variable {fx : Bool} {σ σ' : HS} {x : Nat} {G : Nat → Nat → Nat} {ms ms' : MS} {L : List Nat}
theorem Sx_WI (S : Sx σ x G ms) (F : Fx σ x) (W : WI L σ σ') (hL : ∀ a, a ∈ L → h_tg σ a = 10 ∨ h_tg σ a = 6 ∨ h_tg σ a = 100 ∨ h_tg σ a = 4 ∨ h_tg σ a = 8 ∨ h_tg σ a = 3) (e1 : ms'.1 1 = ms.1 1) (e2 : ∀ k j, 3 ≤ k → k ≤ 12 → ms'.2.1 k j = ms.2.1 k j) (e3 : ms'.2.2 = ms.2.2) : Sx σ' x G ms' := by
  have nt : ∀ b, h_tg σ b ≠ 10 → h_tg σ b ≠ 6 → h_tg σ b ≠ 100 → h_tg σ b ≠ 4 → h_tg σ b ≠ 8 → h_tg σ b ≠ 3 → b ∉ L := fun b h1 h2 h3 h4 h5 h6 hb => by
    rcases hL b hb with h | h | h | h | h | h
    · exact h1 h
    · exact h2 h
    · exact h3 h
    · exact h4 h
    · exact h5 h
    · exact h6 h
  refine S.to (W.sm (nt _ ?_ ?_ ?_ ?_ ?_ ?_)) (fun b hb => W.sm (nt b ?_ ?_ ?_ ?_ ?_ ?_)) (fun i hi hp => W.sm (nt _ ?_ ?_ ?_ ?_ ?_ ?_)) e1 e2 e3
  all_goals first
    | (rw [F.2.2.2.1.1]; decide)
    | (rcases hb with h | h | h | h <;> rw [h] <;> decide)
    | (rw [((S.2.2 i hi).2 hp).2.2.2.2.2.2.1.2.1]; decide)
theorem Tx_WI (T : Tx fx σ x G ms) (F : Fx σ x) (W : WI L σ σ') (hL : ∀ a, a ∈ L → h_tg σ a = 10 ∨ h_tg σ a = 6 ∨ h_tg σ a = 100 ∨ h_tg σ a = 4) (e1 : ms'.1 1 = ms.1 1) (e2 : ∀ k j, 14 ≤ k → k ≤ 24 → ms'.2.1 k j = ms.2.1 k j) : Tx fx σ' x G ms' := by
  have nt : ∀ b, h_tg σ b ≠ 10 → h_tg σ b ≠ 6 → h_tg σ b ≠ 100 → h_tg σ b ≠ 4 → b ∉ L := fun b h1 h2 h3 h4 hb => by
    rcases hL b hb with h | h | h | h
    · exact h1 h
    · exact h2 h
    · exact h3 h
    · exact h4 h
  refine T.to (W.sm (nt _ ?_ ?_ ?_ ?_)) (fun b hb => W.sm (nt b ?_ ?_ ?_ ?_)) e1 e2
  all_goals first
    | (rw [F.2.2.2.2.1.1]; decide)
    | (rcases hb with h | h | h | h | h | h <;> rw [h] <;> decide)
theorem Kx_WI (K : Kx σ x G ms) (F : Fx σ x) (W : WI L σ σ') (hL : ∀ a, a ∈ L → h_tg σ a = 10 ∨ h_tg σ a = 6 ∨ h_tg σ a = 100 ∨ h_tg σ a = 8 ∨ h_tg σ a = 3) (e1 : ms'.1 28 = ms.1 28) (e2 : ∀ k j, 29 ≤ k → k ≤ 35 → ms'.2.1 k j = ms.2.1 k j) : Kx σ' x G ms' := by
  have nt : ∀ b, h_tg σ b ≠ 10 → h_tg σ b ≠ 6 → h_tg σ b ≠ 100 → h_tg σ b ≠ 8 → h_tg σ b ≠ 3 → b ∉ L := fun b h1 h2 h3 h4 h5 hb => by
    rcases hL b hb with h | h | h | h | h
    · exact h1 h
    · exact h2 h
    · exact h3 h
    · exact h4 h
    · exact h5 h
  refine K.to (W.sm (nt _ ?_ ?_ ?_ ?_ ?_)) (fun b hb => W.sm (nt b ?_ ?_ ?_ ?_ ?_)) e1 e2
  all_goals first
    | (rw [F.2.2.2.2.2.2.2.2.2.2.2.1]; decide)
    | (rw [hb]; decide)
theorem Zx_WI (W : WI L σ σ') (Z : Zx σ x) : Zx σ' x := by
  unfold Zx at *
  rw [W.1, W.2.2.2.2.1.1]
  exact Z
/-- a message has come -/
theorem Rep_post (P : Rep fx σ x G ms) (W : WI [x + 10, x + 11, x + 13] σ σ') {n : Nat} {f : Nat → Int32} (R : Rx fx σ' x (postM ms n f)) : Rep fx σ' x G (postM ms n f) := by
  obtain ⟨Z, F, N, -, Wn, K, S, T⟩ := P
  have hL : ∀ a, a ∈ [x + 10, x + 11, x + 13] → h_tg σ a = 6 ∨ h_tg σ a = 100 := by
    intro a ha
    simp only [List.mem_cons, List.mem_nil_iff, or_false] at ha
    rcases ha with rfl | rfl | rfl
    · exact Or.inl F.rw6
    · exact Or.inr F.c100
    · exact Or.inr F.d100
  refine ⟨Zx_WI W Z, W.fx F, N.to (W.sm (by simp)) (postM_s (by decide) (by decide)) (postM_s (by decide) (by decide)) (postM_s (by decide) (by decide)) (postM_s (by decide) (by decide)) (postM_s (by decide) (by decide)) (postM_s (by decide) (by decide)), R, Wn.to (W.sm (by simp)) (W.sm (by simp)) (postM_s (by decide) (by decide)) (fun j => postM_k (by decide)) (fun j => postM_k (by decide)), Kx_WI K F W (fun a ha => ?_) (postM_s (by decide) (by decide)) (fun k j h1 h2 => postM_k (by omega)), Sx_WI S F W (fun a ha => ?_) (postM_s (by decide) (by decide)) (fun k j h1 h2 => postM_k (by omega)) postM_L, Tx_WI T F W (fun a ha => ?_) (postM_s (by decide) (by decide)) (fun k j h1 h2 => postM_k (by omega))⟩
  · rcases hL a ha with h | h <;> rw [h] <;> decide
  · rcases hL a ha with h | h <;> rw [h] <;> decide
  · rcases hL a ha with h | h <;> rw [h] <;> decide
/-- a plain int of the object -/
def xk (k : Nat) : Nat := if k = 10 then 2 else if k = 11 then 39 else if k = 12 then 40 else 41
theorem Rep_xi (P : Rep fx σ x G ms) {k : Nat} {v : Int32} (hk : k = 10 ∨ k = 11 ∨ k = 12 ∨ k = 13) : Rep fx (h_setI σ x k v) x G (k_pI ms (xk k) v) := by
  obtain ⟨Z, F, N, R, Wn, K, S, T⟩ := P
  have W : WI [x] σ (h_setI σ x k v) := WI_I (by simp)
  have hx : ∀ a, a ∈ [x] → h_tg σ a = 10 := fun a ha => by rw [List.mem_singleton.mp ha]; exact F.1
  have hxk : xk k = 2 ∨ xk k = 39 ∨ xk k = 40 ∨ xk k = 41 := by rcases hk with rfl | rfl | rfl | rfl <;> decide
  refine ⟨Zx_WI W Z, W.fx F, ?_, R.to (W.sm (by simp)) (W.sm (by simp)) (pI_n1 (by omega)) (pI_n1 (by omega)) (fun _ => rfl), Wn.to (W.sm (by simp)) (W.sm (by simp)) (pI_n1 (by omega)) (fun _ => rfl) (fun _ => rfl), Kx_WI K F W (fun a ha => Or.inl (hx a ha)) (pI_n1 (by omega)) (fun _ _ _ _ => rfl), Sx_WI S F W (fun a ha => Or.inl (hx a ha)) (pI_n1 (by omega)) (fun _ _ _ _ => rfl) rfl, Tx_WI T F W (fun a ha => Or.inl (hx a ha)) (pI_n1 (by omega)) (fun _ _ _ _ => rfl)⟩
  obtain ⟨n1, n2, n3, n4, n5, n6⟩ := N
  rcases hk with rfl | rfl | rfl | rfl
  · exact ⟨by rw [iv_sIk (by decide), pI_n1 (by decide)]; exact n1, by rw [iv_sIk (by decide), pI_n1 (by decide)]; exact n2, by rw [iv_sI]; exact pI_s1.symm, by rw [iv_sIk (by decide), pI_n1 (by decide)]; exact n4, by rw [iv_sIk (by decide), pI_n1 (by decide)]; exact n5, by rw [iv_sIk (by decide), pI_n1 (by decide)]; exact n6⟩
  · exact ⟨by rw [iv_sIk (by decide), pI_n1 (by decide)]; exact n1, by rw [iv_sIk (by decide), pI_n1 (by decide)]; exact n2, by rw [iv_sIk (by decide), pI_n1 (by decide)]; exact n3, by rw [iv_sI]; exact pI_s1.symm, by rw [iv_sIk (by decide), pI_n1 (by decide)]; exact n5, by rw [iv_sIk (by decide), pI_n1 (by decide)]; exact n6⟩
  · exact ⟨by rw [iv_sIk (by decide), pI_n1 (by decide)]; exact n1, by rw [iv_sIk (by decide), pI_n1 (by decide)]; exact n2, by rw [iv_sIk (by decide), pI_n1 (by decide)]; exact n3, by rw [iv_sIk (by decide), pI_n1 (by decide)]; exact n4, by rw [iv_sI]; exact pI_s1.symm, by rw [iv_sIk (by decide), pI_n1 (by decide)]; exact n6⟩
  · exact ⟨by rw [iv_sIk (by decide), pI_n1 (by decide)]; exact n1, by rw [iv_sIk (by decide), pI_n1 (by decide)]; exact n2, by rw [iv_sIk (by decide), pI_n1 (by decide)]; exact n3, by rw [iv_sIk (by decide), pI_n1 (by decide)]; exact n4, by rw [iv_sIk (by decide), pI_n1 (by decide)]; exact n5, by rw [iv_sI]; exact pI_s1.symm⟩
/-- an int of a packet -/
theorem Rep_pk (P : Rep fx σ x G ms) {i k np : Nat} {v : Int32} (hnp : ms.1 28 = nI np) (hnp2 : np ≤ 200) (hi : i < np) (hk : 3 ≤ k ∧ k ≤ 7) : Rep fx (h_setI σ (G 7 i) k v) x G (aS ms (k + 28) (i + 1) v) := by
  obtain ⟨Z, F, N, R, Wn, K, S, T⟩ := P
  have K0 := K
  obtain ⟨np', k1, k2, k3, k4⟩ := K
  have en : np' = np := (nI_eq (by omega) (by omega)).mp (k2.symm.trans hnp)
  subst en
  have ht := (k4 i hi).2.1
  have W : WI [G 7 i] σ (h_setI σ (G 7 i) k v) := WI_I (by simp)
  have hx : ∀ a, a ∈ [G 7 i] → h_tg σ a = 4 := fun a ha => by rw [List.mem_singleton.mp ha]; exact ht
  have ne : ∀ a t, h_tg σ a = t → t ≠ 4 → a ∉ [G 7 i] := fun a t h1 h2 ha => h2 (h1.symm.trans (hx a ha))
  refine ⟨Zx_WI W Z, W.fx F, N.to (W.sm (ne _ _ F.1 (by decide))) rfl rfl rfl rfl rfl rfl, R.to (W.sm (ne _ _ F.rw6 (by decide))) (W.sm (ne _ _ F.c100 (by decide))) rfl rfl (fun j => aS_k (by omega)), Wn.to (W.sm (ne _ _ F.2.2.2.2.2.1.1 (by decide))) (W.sm (ne _ _ F.2.2.2.2.2.2.1.1 (by decide))) rfl (fun j => aS_k (by omega)) (fun j => aS_k (by omega)), ?_, Sx_WI S F W (fun a ha => by rw [hx a ha]; decide) rfl (fun k' j h1 h2 => aS_k (by omega)) rfl, Tx_WI T F W (fun a ha => by rw [hx a ha]; decide) rfl (fun k' j h1 h2 => aS_k (by omega))⟩
  refine ⟨np', k1, k2, k3, fun q hq => ?_⟩
  obtain ⟨b0, b1, b2, b3, b4, b5, b6, b7, b8, b9⟩ := k4 q hq
  by_cases e : q = i
  · subst e
    refine ⟨b0, b1, ?_, ?_, ?_, ?_, ?_, ?_, ?_, ?_⟩
    · rw [iv_sIk (by omega)]; exact b2
    · rw [iv_sIk (by omega), aS_k (by omega)]; exact b3
    · rw [iv_sIk (by omega), aS_k (by omega)]; exact b4
    · by_cases h : k = 3
      · subst h; rw [iv_sI, aS_s]
      · rw [iv_sIk (by omega), aS_k (by omega)]; exact b5
    · by_cases h : k = 4
      · subst h; rw [iv_sI, aS_s]
      · rw [iv_sIk (by omega), aS_k (by omega)]; exact b6
    · by_cases h : k = 5
      · subst h; rw [iv_sI, aS_s]
      · rw [iv_sIk (by omega), aS_k (by omega)]; exact b7
    · by_cases h : k = 6
      · subst h; rw [iv_sI, aS_s]
      · rw [iv_sIk (by omega), aS_k (by omega)]; exact b8
    · by_cases h : k = 7
      · subst h; rw [iv_sI, aS_s]
      · rw [iv_sIk (by omega), aS_k (by omega)]; exact b9
  · have hG : G 7 q ≠ G 7 i := fun z => e (k3 q i hq hi z)
    rw [iv_sIa hG, iv_sIa hG, iv_sIa hG, iv_sIa hG, iv_sIa hG, iv_sIa hG, iv_sIa hG, iv_sIa hG, aS_j (show q + 1 ≠ i + 1 by omega), aS_j (show q + 1 ≠ i + 1 by omega), aS_j (show q + 1 ≠ i + 1 by omega), aS_j (show q + 1 ≠ i + 1 by omega), aS_j (show q + 1 ≠ i + 1 by omega), aS_j (show q + 1 ≠ i + 1 by omega), aS_j (show q + 1 ≠ i + 1 by omega)]
    exact ⟨b0, b1, b2, b3, b4, b5, b6, b7, b8, b9⟩
end ACT
