/-! .. THE PREFIXES OF SITES; PACKETS; THE ROW -/
theorem ff_shift (P : Nat → Bool) (a : Nat) : ∀ (c i : Nat), ff P (a + i) c = (ff (fun k => P (a + k)) i c).map (fun k => a + k)
  | 0, i => rfl
  | c + 1, i => by
    unfold ff
    by_cases h : P (a + i) = true
    · rw [if_pos h, if_pos h]; rfl
    · rw [if_neg h, if_neg h]
      exact ff_shift P a c (i + 1)
section RDT
variable {fx : Bool} {σ : HS} {x : Nat} {G : Nat → Nat → Nat} {ms : MS}
/-- the prefixes of a site -/
theorem c_px {s c k : Nat} (I : SiR fx σ G ms s) (hc : ms.2.1 15 s = nI c) (hc4 : c ≤ 4) (hk : k < c) : ∃ p n, h_aR σ (some (G 4 s)) 106 (nI k) = some (some p) ∧ ms.2.1 17 (4 * s + k) = nI n ∧ hP σ p (ms.2.1 16 (4 * s + k)) n := by
  obtain ⟨-, -, -, -, ⟨a5, a6, a7⟩, ⟨c', c1, c2, c3⟩, -⟩ := I
  have ec : c' = c := (nI_eq (by omega) (by omega)).mp (c2.symm.trans hc)
  subst ec
  obtain ⟨p, n, d1, d2, d3⟩ := c3 k hk
  exact ⟨p, n, by rw [aR_s a6 a7 (by omega) (by omega), d1], d2, d3⟩
theorem c_hasEnd {s : Nat} (hs : s < 8) (I : SiR fx σ G ms s) (ep : Int32) : f_X7_hasEndpoint σ (some (G 3 s)) ep = some (b2i (hasB ms s ep), σ) := by
  obtain ⟨c, c1, c2, -⟩ := I.2.2.2.2.2.1
  unfold f_X7_hasEndpoint hasB
  rw [c2, nI_clamp (by omega)]
  have key := lp_find (fun m k => g_X7_hasEndpoint_2 m σ (some (G 3 s)) ep k) c (fun k => ag (ln (ms.2.1 17 (4 * s + k))) (ms.2.1 16 (4 * s + k)) ep) (fun _ => some (1, σ)) (some (0, σ))
    (fun m => by
      show g_X7_hasEndpoint_2 (m + 1) σ (some (G 3 s)) ep (nI c) = _
      rw [g_X7_hasEndpoint_2, gI_s I.1, I.2.2.2.1, c2, h_b1_s, if_pos (Int32.le_refl _)])
    (fun m k hk => by
      show g_X7_hasEndpoint_2 (m + 1) σ (some (G 3 s)) ep (nI k) = _
      obtain ⟨p, n, f1, f2, f3⟩ := c_px I c2 c1 hk
      rw [g_X7_hasEndpoint_2, gI_s I.1, I.2.2.2.1, c2, h_b1_s, if_neg (nI_ge hk (by omega)), gR_s I.1, I.2.2.2.2.1.1, h_b1_s, f1, h_b1_s, rcv_s f3.1, h_b1_s, has_eq f3 ep, h_bd_s, nI_1, f2, ln_nI f3.2.2.2.1, ag_comm f3.2.2.2.1]
      cases ag n (ms.2.1 16 (4 * s + k)) ep <;> rfl)
    c h_hN 0 (by omega) (h_hN_lt (by omega))
  refine Eq.trans key ?_
  have e : ff (fun k => ag (ln (ms.2.1 17 k)) (ms.2.1 16 k) ep) (4 * s) c = (ff (fun k => ag (ln (ms.2.1 17 (4 * s + k))) (ms.2.1 16 (4 * s + k)) ep) 0 c).map (fun k => 4 * s + k) := ff_shift _ (4 * s) c 0
  rw [e]
  cases ff (fun k => ag (ln (ms.2.1 17 (4 * s + k))) (ms.2.1 16 (4 * s + k)) ep) 0 c <;> rfl
/-- a site has the very same prefix -/
theorem c_holds {s p n : Nat} {b : Int32} (I : SiR fx σ G ms s) (hp : hP σ p b n) : f_X7_holds σ (some (G 3 s)) (some p) = some (b2i (ff (fun k => decide (ms.2.1 16 (4 * s + k) = b) && decide (ms.2.1 17 (4 * s + k) = nI n)) 0 (ms.2.1 15 s).toNatClampNeg).isSome, σ) := by
  obtain ⟨c, c1, c2, -⟩ := I.2.2.2.2.2.1
  unfold f_X7_holds
  rw [c2, nI_clamp (by omega)]
  have key := lp_find (fun m k => g_X7_holds_2 m σ (some (G 3 s)) (some p) k) c (fun k => decide (ms.2.1 16 (4 * s + k) = b) && decide (ms.2.1 17 (4 * s + k) = nI n)) (fun _ => some (1, σ)) (some (0, σ))
    (fun m => by
      show g_X7_holds_2 (m + 1) σ (some (G 3 s)) (some p) (nI c) = _
      rw [g_X7_holds_2, gI_s I.1, I.2.2.2.1, c2, h_b1_s, if_pos (Int32.le_refl _)])
    (fun m k hk => by
      show g_X7_holds_2 (m + 1) σ (some (G 3 s)) (some p) (nI k) = _
      obtain ⟨p', n', f1, f2, f3⟩ := c_px I c2 c1 hk
      have h32 := f3.2.2.2.1
      have h32' := hp.2.2.2.1
      rw [g_X7_holds_2, gI_s I.1, I.2.2.2.1, c2, h_b1_s, if_neg (nI_ge hk (by omega)), gR_s I.1, I.2.2.2.2.1.1, h_b1_s, f1, h_b1_s, rcv_s f3.1, h_b1_s, same_eq f3 hp, h_bd_s, nI_1, f2]
      have e : decide (nI n' = nI n) = decide (n' = n) := decide_eq_decide.mpr (nI_eq (by omega) (by omega))
      rw [e]
      cases (decide (ms.2.1 16 (4 * s + k) = b) && decide (n' = n)) <;> rfl)
    c h_hN 0 (by omega) (h_hN_lt (by omega))
  refine Eq.trans key ?_
  cases ff (fun k => decide (ms.2.1 16 (4 * s + k) = b) && decide (ms.2.1 17 (4 * s + k) = nI n)) 0 c <;> rfl
-- packets
theorem c_packetAt (F : Fx σ x) (N : Nx σ x ms) (K : Kx σ x G ms) (p : Int32) : f_X9_packetAt σ (some x) p = some (if decide (1 ≤ p ∧ p ≤ ms.1 28) = true then some (G 7 (p.toNatClampNeg - 1)) else none, σ) := by
  obtain ⟨np, k1, k2, k3, k4⟩ := K
  unfold f_X9_packetAt
  by_cases h1 : p < 1
  · rw [if_pos h1, decide_eq_false (fun z => absurd (Int32.lt_of_lt_of_le h1 z.1) (Int32.lt_irrefl))]; rfl
  · have h1' : (1 : Int32) ≤ p := Int32.not_lt.mp h1
    rw [if_neg h1, gI_s F.1, N.1, h_b1_s]
    by_cases h2 : p ≤ ms.1 28
    · rw [if_pos h2, decide_eq_true ⟨h1', h2⟩, gR_s F.1, F.2.1.2.2.2.2.2.2.2, h_b1_s]
      obtain ⟨i, hi, rfl⟩ := nI_of (x := p) (fun z => absurd (Int32.lt_of_le_of_lt h1' z) (by decide))
      have hi1 : 1 ≤ i := (nI_leI (a := 1) (by omega) hi).mp h1'
      have hi2 : i ≤ np := by rw [k2] at h2; exact (nI_leI hi (by omega)).mp h2
      rw [show (1 : Int32) = nI 1 from rfl, pk_sub (by omega), aR_s F.2.2.2.2.2.2.2.2.2.2.2.1 F.2.2.2.2.2.2.2.2.2.2.2.2 (by omega) (by omega), h_b1_s, nI_clamp hi, (k4 (i - 1) (by omega)).1]
      rfl
    · rw [if_neg h2, decide_eq_false (fun z => h2 z.2)]; rfl
/-- the packet that waits with a nonce: the first such -/
def wtP (ms : MS) (s no : Int32) (i : Nat) : Bool := decide (ms.2.1 31 (i + 1) = 0) && (decide (ms.2.1 29 (i + 1) = s) && decide (ms.2.1 32 (i + 1) = no))
theorem c_waiting (F : Fx σ x) (N : Nx σ x ms) (K : Kx σ x G ms) (s no : Int32) {np : Nat} (hnp : ms.1 28 = nI np) (hnp2 : np ≤ 200) : f_X9_waiting σ (some x) s no = some ((ff (wtP ms s no) 0 np).map (G 7), σ) := by
  obtain ⟨np', k1, k2, k3, k4⟩ := K
  have en : np' = np := (nI_eq (by omega) (by omega)).mp (k2.symm.trans hnp)
  subst en
  unfold f_X9_waiting
  have key := lp_find (fun m k => g_X9_waiting_2 m σ (some x) s no k) np' (wtP ms s no) (fun i => some (some (G 7 i), σ)) (some (none, σ))
    (fun m => by
      show g_X9_waiting_2 (m + 1) σ (some x) s no (nI np') = _
      rw [g_X9_waiting_2, gI_s F.1, N.1, hnp, h_b1_s, if_pos (Int32.le_refl _)])
    (fun m i hi => by
      show g_X9_waiting_2 (m + 1) σ (some x) s no (nI i) = _
      obtain ⟨a1, a2, a3, a4, a5, a6, a7, -⟩ := k4 i hi
      rw [g_X9_waiting_2, gI_s F.1, N.1, hnp, h_b1_s, if_neg (nI_ge hi (by omega)), gR_s F.1, F.2.1.2.2.2.2.2.2.2, h_b1_s, aR_s F.2.2.2.2.2.2.2.2.2.2.2.1 F.2.2.2.2.2.2.2.2.2.2.2.2 (by omega) (by omega), a1]
      simp only [h_b1_s]
      rw [gI_s a2, gI_s a2, gI_s a2, a6, a4, a7, nI_1]
      simp only [h_b1_s]
      unfold wtP
      by_cases h1 : ms.2.1 31 (i + 1) = 0
      · rw [if_pos h1, decide_eq_true h1]
        by_cases h2 : ms.2.1 29 (i + 1) = s
        · rw [if_pos h2, decide_eq_true h2]
          by_cases h3 : ms.2.1 32 (i + 1) = no
          · rw [if_pos h3, decide_eq_true h3]; rfl
          · rw [if_neg h3, decide_eq_false h3]; rfl
        · rw [if_neg h2, decide_eq_false h2]; rfl
      · rw [if_neg h1, decide_eq_false h1]; rfl)
    np' h_hN 0 (by omega) (h_hN_lt (by omega))
  refine Eq.trans key ?_
  cases ff (wtP ms s no) 0 np' <;> rfl
-- the row
theorem c_has (F : Fx σ x) (R : Rx fx σ x ms) {n : Nat} (hn : ms.1 36 = nI n) (h : n ≤ 200) (k : Int32) : f_X5_has σ (some (x + 10)) k = some (b2i (msgB n k), σ) := by
  obtain ⟨f, n', a1, a2, a3, a4, a5, a6, a7⟩ := R
  have en : n' = n := (nI_eq (by omega) (by omega)).mp (a5.symm.trans hn)
  subst en
  unfold f_X5_has msgB
  by_cases h1 : k < 0
  · rw [if_pos h1, decide_eq_false (fun z => absurd (Int32.lt_of_le_of_lt z.1 h1) (by decide))]; rfl
  · rw [if_neg h1, gI_s F.2.2.2.2.2.2.2.1.1, a4, h_b1_s]
    by_cases h2 : nI n' ≤ k
    · rw [if_pos h2, decide_eq_false (fun z => Int32.not_lt.mpr h2 z.2)]; rfl
    · rw [if_neg h2, decide_eq_true ⟨Int32.not_lt.mp h1, Int32.not_le.mp h2⟩]; rfl
theorem r200 {f q : Nat} (hf : f < 200) (hq : q ≤ 200) : (nI f + nI q) - (nI f + nI q) / 200 * 200 = nI (ring f q) := by
  rw [nI_add, show (200 : Int32) = nI 200 from rfl]
  exact pk_rem (by omega) (by omega) (by omega)
end RDT
