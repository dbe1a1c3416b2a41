/-! CALLS: message and note, where the two sides hold the same (fx = true) -/
section EQL
variable {fx : Bool} {σ τ : HS} {x : Nat} {G : Nat → Nat → Nat} {ms ms' : MS}
theorem k_message (h : Bt fx σ x ms) (hm : Rm σ) (hfx : fx = true) {n : Nat} (hn : ms.1 36 = nI n) (hn2 : n ≤ 200) (a b : Int32) : lcI cdL_message (f_X9_message σ (some x) a b) (fun τ => f_X10_message τ (some (x + 15)) a b) (some x) (some (x + 15)) (some (x + 49)) σ (fun τ => Bt fx τ x (if (msgB n a && decide (0 ≤ b ∧ b ≤ 7)) = true then okM ms else noM ms) ∧ Gw (0 + 1) (0 + 6) σ τ) := by
  obtain ⟨G, P⟩ := h.1
  obtain ⟨r1, r2, r3⟩ := rowHas P hn hn2 a
  have hp := p_message_eq ms a b hn hn2
  by_cases hb : (msgB n a && decide (0 ≤ b ∧ b ≤ 7)) = true
  · rw [if_pos hb] at hp ⊢
    obtain ⟨b1, b2⟩ := (Bool.and_eq_true _ _).mp hb
    have b3 := of_decide_eq_true b2
    obtain ⟨k, hk, rfl⟩ := msgB_some hn2 b1
    obtain ⟨j, hj, rfl⟩ := nI_of2 (M := 7) (n := 7) (by decide) (Int32.not_lt.mpr b3.1) b3.2
    rw [nI_clamp (by omega), nI_clamp (by omega)] at hp
    obtain ⟨f, n', a1, a2, a3, a4, a5, a6, a7⟩ := id P.2.2.2.1
    have en : n' = n := (nI_eq (by omega) (by omega)).mp (a5.symm.trans hn)
    have hc : cel σ x f k j = ms.2.1 37 (8 * k + j) := (a7 k j (by omega) (by omega)).resolve_left (fun z => by rw [hfx] at z; exact absurd z.1 (by decide))
    refine stepI h (σ1 := σ) (r := .ok (ms.2.1 37 (8 * k + j))) (c0 := 0) ?_ (Or.inl ⟨rfl, rfl⟩) Kq.rf ⟨G, P.cd 0⟩ hp okM_0 (fun τ V => q_X10_message V (nI k) (nI j))
    unfold f_X9_message
    rw [r1, h_b1_s, r2, h_b1_s, r3, h_bd_s, b1, if_neg (by decide), if_neg (nI_pos (by omega)), if_pos (show nI j < 8 from nI_lt (a := j) (b := 8) (by omega) (by omega)), r1, h_b1_s, r2, h_b1_s, c_get P.2.1 a3 a1 (by omega) (by omega), h_bd_s, hc]
  · rw [if_neg hb] at hp ⊢
    refine stepI h (σ1 := σ) (r := .error 3) (c0 := 1) ?_ (Or.inr ⟨3, rfl, rfl, by decide⟩) Kq.rf ⟨G, P.cd 1⟩ hp noM_0 (fun τ V => q_X10_message V a b)
    unfold f_X9_message
    rw [r1, h_b1_s, r2, h_b1_s, r3, h_bd_s]
    cases hs : msgB n a with
    | false => rw [if_pos (by rfl), hm.thr]
    | true =>
      rw [if_neg (by decide)]
      by_cases h1 : b < 0
      · rw [if_pos h1, hm.thr]
      · rw [if_neg h1]
        by_cases h2 : b < 8
        · exfalso
          obtain ⟨j, hj, rfl⟩ := nI_of2 (M := 8) (n := 8) (by decide) h1 (Int32.le_of_lt h2)
          have hj8 : j < 8 := (nI_ltI (a := j) (b := 8) (by omega) (by omega)).mp h2
          exact hb (by rw [hs, decide_eq_true (i8' hj8)]; rfl)
        · rw [if_neg h2, hm.thr]
theorem k_note (h : Bt fx σ x ms) (hm : Rm σ) (hfx : fx = true) (hL : ∀ k, k < 48 → Ln (ms.2.1 20 k)) (hD : ∀ s, s < 8 → DN ms s) (a ep w : Int32) : lcI cdL_note (f_X9_note σ (some x) a ep w) (fun τ => f_X10_note τ (some (x + 15)) a ep w) (some x) (some (x + 15)) (some (x + 49)) σ (fun τ => Bt fx τ x (if siteB ms a = true then okM ms else noM ms) ∧ Gw (0 + 1) (0 + 6) σ τ) := by
  obtain ⟨G, P⟩ := h.1
  have hat := c_siteAt P.2.1 P.2.2.2.2.2.2.2 a
  have hp := p_note_eq ms a ep w hL
  cases hb : siteB ms a with
  | false =>
    rw [hb, if_neg (by decide)] at hp hat
    rw [if_neg (by decide)]
    refine stepI h (σ1 := σ) (r := .error 1) (c0 := 1) ?_ (Or.inr ⟨1, rfl, rfl, by decide⟩) Kq.rf ⟨G, P.cd 1⟩ hp noM_0 (fun τ V => q_X10_note V a ep w)
    unfold f_X9_note
    rw [rcv_s P.2.1.1, h_b1_s, hat, h_bd_s, if_pos rfl, hm.thr]
  | true =>
    obtain ⟨s, hs, rfl, hps⟩ := siteB_nI hb
    rw [hb, if_pos rfl, nI_clamp (by omega)] at hp hat
    rw [if_pos rfl]
    have I := P.si hs hps
    have t9 : h_gI σ (some x) 10 9 = some (ms.1 1) := by rw [gI_s P.2.1.1, P.2.2.1.2.1]
    obtain ⟨r, f1, f2⟩ := c_noteF I (hD s hs) hL hs ep
    refine stepI h (σ1 := σ) (r := .ok (ntV ms s ep w)) (c0 := 0) ?_ (Or.inl ⟨rfl, rfl⟩) Kq.rf ⟨G, P.cd 0⟩ hp okM_0 (fun τ V => q_X10_note V (nI s) ep w)
    unfold f_X9_note ntV
    rw [rcv_s P.2.1.1, h_b1_s, hat, h_bd_s, if_neg (fun z => by cases z), gR_s I.1, I.2.2.2.2.2.2.1.1, h_b1_s, t9, h_b1_s, rcv_s I.2.2.2.2.2.2.1.2, h_b1_s, f1, h_bd_s]
    cases hf : ntF ms s ep with
    | none =>
      rw [hf] at f2
      have f2' : r = none := f2
      rw [if_pos f2']
    | some k =>
      rw [hf] at f2
      obtain ⟨q, g1, ⟨g2, p', b', m', g3, g4⟩, e1, e2, e3, e4, e5⟩ := f2
      have v1 : h_iv σ q 1 = ms.2.1 21 k := e3
      have v2 : h_iv σ q 2 = ms.2.1 22 k := e5.resolve_right (fun z => by rw [hfx] at z; exact absurd z.1 (by decide))
      have v0 : h_iv σ p' 1 = ms.2.1 20 k := by
        have : (nV σ q).2.1 = h_iv σ p' 1 := by unfold nV; rw [g3]; rfl
        rw [← this]; exact e2
      rw [if_neg (by rw [g1]; exact fun z => by cases z), g1]
      dsimp only
      by_cases h0 : w = 0
      · rw [if_pos h0, if_pos h0, gR_s g2, h_b1_s, g3, gI_s g4.1, h_b1_s, v0]
      rw [if_neg h0, if_neg h0]
      by_cases h1 : w = 1
      · rw [if_pos h1, if_pos h1, gI_s g2, h_b1_s, v1]
      rw [if_neg h1, if_neg h1]
      by_cases h2 : w = 2
      · rw [if_pos h2, if_pos h2, gI_s g2, h_b1_s, v2]
      · rw [if_neg h2, if_neg h2]
end EQL
