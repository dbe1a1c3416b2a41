/-! CALLS whose answers are not compared -/
def lcVu (cd : Nat → Option Int32) (F9 : Option (Except Nat Unit × HS)) (F10 : HS → Option (Unit × HS)) (x mo : Option Nat) (σ : HS) (K : HS → Prop) : Prop := ∃ q r σ1, h_rcv σ x 10 = some q ∧ F9 = some (r, σ1) ∧ (∀ k, r = .error k → (cd k).isSome = true) ∧ ∀ k σ2, h_hp cd (fun _ τ => some τ) r σ1 k σ2 → ∃ q2, h_rcv σ2 mo 11 = some q2 ∧ ∃ σ3, F10 σ2 = some ((), σ3) ∧ K σ3
def lcIu (cd : Nat → Option Int32) (F9 : Option (Except Nat Int32 × HS)) (F10 : HS → Option (Int32 × HS)) (x mo o : Option Nat) (σ : HS) (K : HS → Prop) : Prop := ∃ q r σ1, h_rcv σ x 10 = some q ∧ F9 = some (r, σ1) ∧ (∀ k, r = .error k → (cd k).isSome = true) ∧ (∀ v, r = .ok v → (h_sL σ1 o 101 0 (Int32.toInt64 v)).isSome = true) ∧ ∀ k σ2, h_hp cd (fun v τ => h_sL τ o 101 0 (Int32.toInt64 v)) r σ1 k σ2 → ∃ q2, h_rcv σ2 mo 11 = some q2 ∧ ∃ v σ3, F10 σ2 = some (v, σ3) ∧ K σ3
def lcNu (F9 : Option (Int32 × HS)) (F10 : HS → Option (Int32 × HS)) (x mo : Option Nat) (σ : HS) (K : HS → Prop) : Prop := ∃ q v σ1, h_rcv σ x 10 = some q ∧ F9 = some (v, σ1) ∧ ∃ q2, h_rcv σ1 mo 11 = some q2 ∧ ∃ w σ2, F10 σ1 = some (w, σ2) ∧ K σ2
section PTS
variable {fx : Bool} {σ τ : HS} {x sl i : Nat} {G : Nat → Nat → Nat} {ms ms' : MS} {n np M t : Nat}
theorem thr_same {a : Option Nat} {k : Int32} (h : f_X10_thrown σ a = some (k, τ)) : τ = σ := by
  unfold f_X10_thrown at h
  cases hg : h_gI σ a 11 0 with
  | none => rw [hg] at h; cases h
  | some v =>
    rw [hg, h_b1_s] at h
    cases h
    rfl
theorem lcV.u {cd : Nat → Option Int32} {F9 : Option (Except Nat Unit × HS)} {F10 : HS → Option (Unit × HS)} {a mo : Option Nat} {K : HS → Prop} (h : lcV cd F9 F10 a mo σ K) : lcVu cd F9 F10 a mo σ K := by
  obtain ⟨q, r, σ1, h1, h2, h3, h4⟩ := h
  refine ⟨q, r, σ1, h1, h2, h3, fun k σ2 h => ?_⟩
  obtain ⟨q2, a1, σ3, a2, q3, a3, σ4, a4, a5⟩ := h4 k σ2 h
  rw [thr_same a4] at a5
  exact ⟨q2, a1, σ3, a2, a5⟩
theorem lcI.u {cd : Nat → Option Int32} {F9 : Option (Except Nat Int32 × HS)} {F10 : HS → Option (Int32 × HS)} {a mo o : Option Nat} {K : HS → Prop} (h : lcI cd F9 F10 a mo o σ K) : lcIu cd F9 F10 a mo o σ K := by
  obtain ⟨q, r, σ1, h1, h2, h3, h3', h4⟩ := h
  refine ⟨q, r, σ1, h1, h2, h3, h3', fun k σ2 h => ?_⟩
  obtain ⟨q2, a1, v, σ3, a2, q3, a3, σ4, a4, a5, a6⟩ := h4 k σ2 h
  rw [thr_same a4] at a6
  exact ⟨q2, a1, v, σ3, a2, a6⟩
theorem lcN.u {F9 : Option (Int32 × HS)} {F10 : HS → Option (Int32 × HS)} {a mo : Option Nat} {K : HS → Prop} (h : lcN F9 F10 a mo σ K) : lcNu F9 F10 a mo σ K := by
  obtain ⟨q, v, σ1, h1, h2, q2, h3, σ2, h4, h5⟩ := h
  exact ⟨q, v, σ1, h1, h2, q2, h3, v, σ2, h4, h5⟩
theorem lcIu_mono {cd : Nat → Option Int32} {F9 : Option (Except Nat Int32 × HS)} {F10 : HS → Option (Int32 × HS)} {a mo o : Option Nat} {K K' : HS → Prop} (h : lcIu cd F9 F10 a mo o σ K) (hK : ∀ τ, K τ → K' τ) : lcIu cd F9 F10 a mo o σ K' := by
  obtain ⟨q, r, σ1, h1, h2, h3, h3', h4⟩ := h
  refine ⟨q, r, σ1, h1, h2, h3, h3', fun k σ2 h => ?_⟩
  obtain ⟨q2, a1, v, σ3, a2, a6⟩ := h4 k σ2 h
  exact ⟨q2, a1, v, σ3, a2, hK _ a6⟩
/-- a call that writes nothing, its answer not compared -/
theorem stepIu {cd : Nat → Option Int32} {F9 : Option (Except Nat Int32 × HS)} {F10 : HS → Option (Int32 × HS)} {r : Except Nat Int32} {w c0 : Int32} {p : Option (Int32 × MS)} (h : Bt fx σ x ms) (h9 : F9 = some (r, σ)) (hr : (∃ v, r = .ok v) ∨ ∃ k c, r = .error k ∧ cd k = some c) (hp : p = some (w, k_pI ms 0 c0)) (lift : ∀ τ, MV τ (x + 15) (kA (x + 15)) ms → Rl τ (x + 15) (kA (x + 15)) (F10 τ) p) : lcIu cd F9 F10 (some x) (some (x + 15)) (some (x + 49)) σ (fun τ => Bt fx τ x (k_pI ms 0 c0) ∧ Gw 1 6 σ τ) := by
  obtain ⟨⟨G, P⟩, V, o⟩ := h
  have P' := P.cd c0
  have hsL : ∀ w : Int64, h_sL σ (some (x + 49)) 101 0 w = some (h_setL σ (x + 49) 0 w) := fun w => sL_s (i := 0) (n := 1) o.1 o.2 (by decide) (by decide)
  have K : Kq x 0 0 σ σ := Kq.rf
  refine ⟨x, r, σ, rcv_s P.2.1.1, h9, fun k hk => ?_, fun w _ => by rw [hsL]; rfl, fun k σ2 h => ?_⟩
  · rcases hr with ⟨v, h⟩ | ⟨k', c, h, h2⟩
    · rw [h] at hk; cases hk
    · rw [h] at hk; cases hk; rw [h2]; rfl
  · rcases hr with ⟨v, rfl⟩ | ⟨k', c, rfl, h2⟩
    · have h' : k = 0 ∧ h_sL σ (some (x + 49)) 101 0 (Int32.toInt64 v) = some σ2 := h
      have g2 := h'.2
      rw [hsL] at g2
      have g3 := Option.some.inj g2
      have V2 : MV σ2 (x + 15) (kA (x + 15)) ms := by
        rw [← g3]
        exact V.to (Sm_L (Ne.symm OC_nA.1)) (fun k hk => Sm_L (Ne.symm (OC_nA.2 k hk)))
      obtain ⟨σ3, l1, l2, l3⟩ := lift σ2 V2 _ _ hp
      rw [← g3] at l3
      exact ⟨x + 15, rcv_s V2.1, w, σ3, l1, ⟨⟨G, Rep_MF (Rep_out P') l3⟩, l2, l3.oc (K.oc o)⟩, (K.gw.tr l3.gw).le (by omega) (by omega)⟩
    · have h' : cd k' = some k ∧ ∃ z w, h_sz σ ≤ z ∧ z ≤ h_sz σ + 1 ∧ w ≤ h_sl σ + 6 ∧ σ2 = h_bump σ z w := h
      obtain ⟨g1, z, w', g2, g3, g4, g5⟩ := h'
      have hb : Bmp σ σ2 := ⟨z, w', g2, g3, g4, g5⟩
      have V2 : MV σ2 (x + 15) (kA (x + 15)) ms := by rw [g5]; exact V
      obtain ⟨σ3, l1, l2, l3⟩ := lift σ2 V2 _ _ hp
      exact ⟨x + 15, rcv_s V2.1, w, σ3, l1, ⟨⟨G, Rep_MF (hb.rep P') l3⟩, l2, l3.oc (hb.oc (K.oc o))⟩, ((K.gw.tr hb.gw).tr l3.gw).le (by omega) (by omega)⟩
theorem u_message (h : JA x sl i σ ms n np M t) (hi : i ≤ 2560) (a b : Int32) : lcIu cdL_message (f_X9_message σ (some x) a b) (fun τ => f_X10_message τ (some (x + 15)) a b) (some x) (some (x + 15)) (some (x + 49)) σ (JJ x sl (i + 5)) := by
  have hm := h.rm hi
  obtain ⟨G, P⟩ := h.1.1
  have gg := h.2.1.2.2.2.2.2.2.2
  obtain ⟨r1, r2, r3⟩ := rowHas P gg.2.1 gg.1 a
  have hp := p_message_eq ms a b gg.2.1 gg.1
  have key : ∃ r, f_X9_message σ (some x) a b = some (r, σ) ∧ ((∃ v, r = .ok v) ∨ ∃ k c, r = .error k ∧ cdL_message k = some c) := by
    have e3 : (∃ v, (Except.error 3 : Except Nat Int32) = .ok v) ∨ ∃ k c, (Except.error 3 : Except Nat Int32) = .error k ∧ cdL_message k = some c := Or.inr ⟨3, 1, rfl, rfl⟩
    unfold f_X9_message
    rw [r1, h_b1_s, r2, h_b1_s, r3, h_bd_s]
    cases hb : msgB n a with
    | false => exact ⟨.error 3, by rw [if_pos (by rfl), hm.thr], e3⟩
    | true =>
      rw [if_neg (by decide)]
      obtain ⟨k, hk, rfl⟩ := msgB_some gg.1 hb
      by_cases h1 : b < 0
      · exact ⟨.error 3, by rw [if_pos h1, hm.thr], e3⟩
      · rw [if_neg h1]
        by_cases h2 : b < 8
        · obtain ⟨j, hj, rfl⟩ := nI_of2 (M := 8) (n := 8) (by decide) h1 (Int32.le_of_lt h2)
          have hj8 : j < 8 := (nI_ltI (a := j) (b := 8) (by omega) (by omega)).mp h2
          obtain ⟨f, n', a1, a2, a3, a4, a5, a6, a7⟩ := id P.2.2.2.1
          refine ⟨.ok (cel σ x f k j), ?_, Or.inl ⟨_, rfl⟩⟩
          rw [if_pos h2, r1, h_b1_s, r2, h_b1_s, c_get P.2.1 a3 a1 (by have := gg.1; omega) hj8, h_bd_s]
        · exact ⟨.error 3, by rw [if_neg h2, hm.thr], e3⟩
  obtain ⟨r, k1, k2⟩ := key
  by_cases hb : (msgB n a && decide (0 ≤ b ∧ b ≤ 7)) = true
  · rw [if_pos hb] at hp
    exact lcIu_mono (stepIu (c0 := 0) h.1 k1 k2 hp (fun τ V => q_X10_message V a b)) (fun τ hh => h.no hh.1 hh.2 (by omega) (by omega))
  · rw [if_neg hb] at hp
    exact lcIu_mono (stepIu (c0 := 1) h.1 k1 k2 hp (fun τ V => q_X10_message V a b)) (fun τ hh => h.no hh.1 hh.2 (by omega) (by omega))
theorem u_note (h : JA x sl i σ ms n np M t) (hi : i ≤ 2560) (a ep w : Int32) : lcIu cdL_note (f_X9_note σ (some x) a ep w) (fun τ => f_X10_note τ (some (x + 15)) a ep w) (some x) (some (x + 15)) (some (x + 49)) σ (JJ x sl (i + 5)) := by
  have hm := h.rm hi
  obtain ⟨G, P⟩ := h.1.1
  have d := h.2.1.2.2.2.2.2.1
  have hat := c_siteAt P.2.1 P.2.2.2.2.2.2.2 a
  have hp := p_note_eq ms a ep w d.1
  have key : ∃ r, f_X9_note σ (some x) a ep w = some (r, σ) ∧ ((∃ v, r = .ok v) ∨ ∃ k c, r = .error k ∧ cdL_note k = some c) := by
    have e3 : (∃ v, (Except.error 1 : Except Nat Int32) = .ok v) ∨ ∃ k c, (Except.error 1 : Except Nat Int32) = .error k ∧ cdL_note k = some c := Or.inr ⟨1, 1, rfl, rfl⟩
    unfold f_X9_note
    rw [rcv_s P.2.1.1, h_b1_s, hat, h_bd_s]
    cases hb : siteB ms a with
    | false => exact ⟨.error 1, by rw [if_neg (show ¬ (false = true) by decide), if_pos rfl, hm.thr], e3⟩
    | true =>
      obtain ⟨s, hs, rfl, hps⟩ := siteB_nI hb
      rw [if_pos (show true = true from rfl), if_neg (fun z => by cases z), nI_clamp (by omega)]
      have I := P.si hs hps
      have t9 : h_gI σ (some x) 10 9 = some (ms.1 1) := by rw [gI_s P.2.1.1, P.2.2.1.2.1]
      obtain ⟨r, f1, f2⟩ := c_noteF I (d.2.2.1 s hs) d.1 hs ep
      rw [gR_s I.1, I.2.2.2.2.2.2.1.1, h_b1_s, t9, h_b1_s, rcv_s I.2.2.2.2.2.2.1.2, h_b1_s, f1, h_bd_s]
      cases hf : ntF ms s ep with
      | none =>
        rw [hf] at f2
        have f2' : r = none := f2
        exact ⟨.ok (-1), by rw [if_pos f2'], Or.inl ⟨_, rfl⟩⟩
      | some k =>
        rw [hf] at f2
        obtain ⟨q, g1, ⟨g2, p', b', m', g3, g4⟩, -⟩ := f2
        rw [if_neg (by rw [g1]; exact fun z => by cases z), g1]
        by_cases h0 : w = 0
        · exact ⟨.ok (h_iv σ p' 1), by rw [if_pos h0, gR_s g2, h_b1_s, g3, gI_s g4.1, h_b1_s], Or.inl ⟨_, rfl⟩⟩
        rw [if_neg h0]
        by_cases h1 : w = 1
        · exact ⟨.ok (h_iv σ q 1), by rw [if_pos h1, gI_s g2, h_b1_s], Or.inl ⟨_, rfl⟩⟩
        rw [if_neg h1]
        by_cases h2 : w = 2
        · exact ⟨.ok (h_iv σ q 2), by rw [if_pos h2, gI_s g2, h_b1_s], Or.inl ⟨_, rfl⟩⟩
        · exact ⟨.ok (-1), by rw [if_neg h2], Or.inl ⟨_, rfl⟩⟩
  obtain ⟨r, k1, k2⟩ := key
  by_cases hb : siteB ms a = true
  · rw [if_pos hb] at hp
    exact lcIu_mono (stepIu (c0 := 0) h.1 k1 k2 hp (fun τ V => q_X10_note V a ep w)) (fun τ hh => h.no hh.1 hh.2 (by omega) (by omega))
  · rw [if_neg hb] at hp
    exact lcIu_mono (stepIu (c0 := 1) h.1 k1 k2 hp (fun τ V => q_X10_note V a ep w)) (fun τ hh => h.no hh.1 hh.2 (by omega) (by omega))
end PTS
