/-! WHAT THE ONE SIDE'S READING METHODS ANSWER, BY THE OTHER'S NUMBERS: sites, servers -/
section RDS
variable {fx : Bool} {σ : HS} {x : Nat} {G : Nat → Nat → Nat} {ms : MS}
theorem n8 {i : Nat} (h : i < 8) : ¬ nI i < 0 ∧ nI i < 8 := ⟨nI_pos (by omega), nI_lt (a := i) (b := 8) h (by omega)⟩
theorem b8 {a : Int32} (h1 : ¬ a < 0) (h2 : a < 8) : ∃ i, i < 8 ∧ a = nI i := by
  obtain ⟨j, hj, rfl⟩ := nI_of h1
  exact ⟨j, (nI_ltI (a := j) (b := 8) hj (by omega)).mp h2, rfl⟩
theorem siteB_no {a : Int32} (h : a < 0 ∨ ¬ a < 8) : siteB ms a = false := by
  unfold siteB
  rw [decide_eq_false (fun z => by
    rcases h with h | h
    · exact absurd (Int32.lt_of_le_of_lt z.1 h) (by decide)
    · apply h
      obtain ⟨i, hi, rfl⟩ := i8 z
      exact (n8 hi).2)]
  rfl
theorem srvB_no {a : Int32} (h : a < 0 ∨ ¬ a < 8) : srvB ms a = false := by
  unfold srvB
  rw [decide_eq_false (fun z => by
    rcases h with h | h
    · exact absurd (Int32.lt_of_le_of_lt z.1 h) (by decide)
    · apply h
      obtain ⟨i, hi, rfl⟩ := i8 z
      exact (n8 hi).2)]
  rfl
theorem c_siteAt (F : Fx σ x) (T : Tx fx σ x G ms) (s : Int32) : f_X9_siteAt σ (some x) s = some (if siteB ms s = true then some (G 3 s.toNatClampNeg) else none, σ) := by
  unfold f_X9_siteAt
  by_cases h1 : s < 0
  · rw [if_pos h1, siteB_no (Or.inl h1)]; rfl
  · rw [if_neg h1]
    by_cases h2 : s < 8
    · obtain ⟨i, hi, rfl⟩ := b8 h1 h2
      rw [if_pos h2, gR_s F.1, F.2.1.2.1, h_b1_s, aR_s F.2.2.2.2.1.1 F.2.2.2.2.1.2 hi (by omega), h_b1_s, nI_clamp (by omega), siteB_i hi]
      by_cases h3 : ms.2.1 14 i = -1
      · rw [(T.2 i hi).1 h3, decide_eq_false (fun z => z h3)]; rfl
      · rw [((T.2 i hi).2 h3).1, decide_eq_true (show ¬ ms.2.1 14 i = -1 from h3)]; rfl
    · rw [if_neg h2, siteB_no (Or.inr h2)]; rfl
theorem c_isPlace (p : Int32) : f_X9_isPlace σ p = some (b2i (decide (0 ≤ p ∧ p ≤ 15)), σ) := by
  unfold f_X9_isPlace
  by_cases h1 : p < 0
  · rw [if_pos h1, decide_eq_false (fun z => absurd (Int32.lt_of_le_of_lt z.1 h1) (by decide))]; rfl
  · obtain ⟨j, hj, rfl⟩ := nI_of h1
    rw [if_neg h1]
    by_cases h2 : (16 : Int32) ≤ nI j
    · rw [if_pos h2, decide_eq_false (fun z => ?_)]; rfl
      have a1 := (nI_leI (a := 16) (b := j) (by omega) hj).mp h2
      have a2 := (nI_leI (a := j) (b := 15) hj (by omega)).mp z.2
      omega
    · have a1 : ¬ 16 ≤ j := fun z => h2 (nI_le (a := 16) (b := j) z hj)
      rw [if_neg h2, decide_eq_true ⟨nI_pos' hj, nI_le (a := j) (b := 15) (by omega) (by omega)⟩]; rfl
theorem c_hostOf (F : Fx σ x) (T : Tx fx σ x G ms) {p : Int32} (hp : ¬ p = -1) : f_X9_hostOf σ (some x) p = some (o2i (ff (fun s => decide (ms.2.1 14 s = p)) 0 8), σ) := by
  unfold f_X9_hostOf
  have key := lp_find (fun n k => g_X9_hostOf_2 n σ (some x) p k) 8 (fun s => decide (ms.2.1 14 s = p)) (fun s => some (nI s, σ)) (some (-1, σ))
    (fun n => by show g_X9_hostOf_2 (n + 1) σ (some x) p (nI 8) = _; rw [g_X9_hostOf_2, if_pos (by decide)])
    (fun n i hi => by
      show g_X9_hostOf_2 (n + 1) σ (some x) p (nI i) = _
      rw [g_X9_hostOf_2, if_neg (show ¬ (8 : Int32) ≤ nI i from nI_ge (b := 8) hi (by omega)), gR_s F.1, F.2.1.2.1]
      simp only [h_b1_s]
      rw [aR_s F.2.2.2.2.1.1 F.2.2.2.2.1.2 hi (by omega)]
      simp only [h_b1_s]
      rw [nI_1]
      by_cases h3 : ms.2.1 14 i = -1
      · rw [(T.2 i hi).1 h3, if_pos rfl, decide_eq_false (fun z => hp (z.symm.trans h3))]; rfl
      · obtain ⟨a1, a2⟩ := (T.2 i hi).2 h3
        rw [a1, if_neg (by simp), gI_s a2.1, h_b1_s, a2.2.1]
        by_cases h4 : ms.2.1 14 i = p
        · rw [if_pos h4, decide_eq_true h4]; rfl
        · rw [if_neg h4, decide_eq_false h4]; rfl)
    8 h_hN 0 rfl (h_hN_lt (by omega))
  refine Eq.trans key ?_
  cases ff (fun s => decide (ms.2.1 14 s = p)) 0 8 <;> rfl
theorem c_at (F : Fx σ x) (S : Sx σ x G ms) (s : Int32) : f_X8_at σ (some (x + 1)) s = some (if srvB ms s = true then some (G 0 s.toNatClampNeg) else none, σ) := by
  unfold f_X8_at
  by_cases h1 : s < 0
  · rw [if_pos h1, srvB_no (Or.inl h1)]; rfl
  · rw [if_neg h1]
    by_cases h2 : s < 8
    · obtain ⟨i, hi, rfl⟩ := b8 h1 h2
      rw [if_pos h2, gR_s F.2.2.1.1, F.2.2.1.2, h_b1_s, aR_s F.2.2.2.1.1 F.2.2.2.1.2 hi (by omega), h_b1_s, nI_clamp (by omega), srvB_i hi]
      by_cases h3 : ms.2.1 3 i = 0
      · rw [(S.2.2 i hi).1 h3, decide_eq_false (fun z => z h3)]; rfl
      · rw [((S.2.2 i hi).2 h3).1, decide_eq_true (show ¬ ms.2.1 3 i = 0 from h3)]; rfl
    · rw [if_neg h2, srvB_no (Or.inr h2)]; rfl
theorem c_isChild (F : Fx σ x) (S : Sx σ x G ms) (T : Tr ms) {c i : Nat} (hc : c < 8) (hi : i < 8) (hp : pr ms i) : f_X8_isChild σ (some (x + 1)) (nI c) (some (G 0 i)) = some (b2i (decide (ms.2.1 6 c = nI i)), σ) := by
  unfold f_X8_isChild
  rw [gR_s F.2.2.1.1, F.2.2.1.2]
  simp only [h_b1_s]
  rw [aR_s F.2.2.2.1.1 F.2.2.2.1.2 hc (by omega)]
  simp only [h_b1_s]
  have hs := ((S.2.2 i hi).2 hp).2
  by_cases h3 : ms.2.1 3 c = 0
  · rw [(S.2.2 c hc).1 h3, if_pos rfl, decide_eq_false (fun z => ?_)]
    · rfl
    · have := T.2.2.2.1 c hc h3
      exact nI_ne_m1 (by omega) (z.symm.trans this)
  · obtain ⟨a1, a2⟩ := (S.2.2 c hc).2 h3
    rw [a1, if_neg (by simp), gI_s a2.1, h_b1_s, gI_s hs.1, h_b1_s, a2.2.2.1, hs.2.1]
    by_cases h4 : ms.2.1 6 c = nI i
    · rw [if_pos h4, decide_eq_true h4]; rfl
    · rw [if_neg h4, decide_eq_false h4]; rfl
/-- a server that is there: where it stands, the prefix of its part -/
theorem c_sv (S : Sx σ x G ms) (F : Fx σ x) {c : Nat} (hc : c < 8) (hp : pr ms c) : h_aR σ (some (x + 2)) 107 (nI c) = some (some (G 0 c)) ∧ ∃ p, h_gR σ (some (G 0 c)) 7 2 = some (some p) ∧ hP σ p (pB ms c) (pL ms c) := by
  obtain ⟨a1, a2⟩ := (S.2.2 c hc).2 hp
  obtain ⟨p, p1, p2⟩ := a2.2.2.2.1
  exact ⟨by rw [aR_s F.2.2.2.1.1 F.2.2.2.1.2 hc (by omega), a1], p, by rw [gR_s a2.1, p1], p2⟩
theorem ch_pr (T : Tr ms) {c i : Nat} (hc : c < 8) (hi : i < 8) (h : ms.2.1 6 c = nI i) : pr ms c := (T.2.2.2.2.1 c i hi ⟨hc, h⟩).1
def ownB (ms : MS) (b : Int32) (n i : Nat) : Bool := (decide (pL ms i ≤ n) && ag (pL ms i) b (pB ms i)) && (ff (fun c => decide (ms.2.1 6 c = nI i) && mtB (pB ms c) (pL ms c) b n) 0 8).isNone
theorem ownB_iff (T : Tr ms) {b : Int32} {n i : Nat} (hi : i < 8) (hp : pr ms i) : ownB ms b n i = true ↔ owns ms b n i := by
  unfold ownB owns
  rw [Bool.and_eq_true, Bool.and_eq_true, Option.isNone_iff_eq_none, ff_none, decide_eq_true_eq]
  constructor
  · intro h
    refine ⟨hi, hp, ⟨h.1.1, h.1.2⟩, fun c hc => ?_⟩
    have := h.2 c (by omega) (by have := hc.1; omega)
    rw [decide_eq_true hc.2, Bool.true_and] at this
    exact this
  · intro h
    refine ⟨⟨h.2.2.1.1, h.2.2.1.2⟩, fun c _ hc => ?_⟩
    by_cases e : ms.2.1 6 c = nI i
    · rw [decide_eq_true e, Bool.true_and]
      exact h.2.2.2 c ⟨by omega, e⟩
    · rw [decide_eq_false e]; rfl
theorem c_owns (F : Fx σ x) (S : Sx σ x G ms) (T : Tr ms) {i p n : Nat} {b : Int32} (hi : i < 8) (hpr : pr ms i) (hp : hP σ p b n) : f_X8_owns σ (some (x + 1)) (some (G 0 i)) (some p) = some (b2i (ownB ms b n i), σ) := by
  obtain ⟨-, p0, e1, hp0⟩ := c_sv S F hi hpr
  unfold f_X8_owns ownB
  rw [e1, h_b1_s, rcv_s hp.1, h_b1_s, liesIn_eq hp hp0, h_bd_s]
  cases h1 : (decide (pL ms i ≤ n) && ag (pL ms i) b (pB ms i))
  · rw [if_pos (show b2i false = 0 from rfl)]; rfl
  · rw [if_neg (by decide)]
    have key := lp_find (fun m k => g_X8_owns_15 m σ (some (x + 1)) (some (G 0 i)) (some p) k) 8 (fun c => decide (ms.2.1 6 c = nI i) && mtB (pB ms c) (pL ms c) b n) (fun _ => some (0, σ)) (some (1, σ))
      (fun m => by show g_X8_owns_15 (m + 1) σ (some (x + 1)) (some (G 0 i)) (some p) (nI 8) = _; rw [g_X8_owns_15, if_pos (by decide)])
      (fun m c hc => by
        show g_X8_owns_15 (m + 1) σ (some (x + 1)) (some (G 0 i)) (some p) (nI c) = _
        rw [g_X8_owns_15, if_neg (show ¬ (8 : Int32) ≤ nI c from nI_ge (b := 8) hc (by omega)), rcv_s F.2.2.1.1, h_b1_s, c_isChild F S T hc hi hpr, h_bd_s, nI_1]
        by_cases h2 : ms.2.1 6 c = nI i
        · obtain ⟨f1, q, f2, hq⟩ := c_sv S F hc (ch_pr T hc hi h2)
          rw [decide_eq_true h2, if_neg (by decide), gR_s F.2.2.1.1, F.2.2.1.2, h_b1_s, f1, h_b1_s, f2, h_b1_s, rcv_s hq.1, h_b1_s, meets_eq hq hp, h_bd_s, Bool.true_and]
          cases mtB (pB ms c) (pL ms c) b n <;> rfl
        · rw [decide_eq_false h2]; rfl)
      8 h_hN 0 rfl (h_hN_lt (by omega))
    refine Eq.trans key ?_
    cases ff (fun c => decide (ms.2.1 6 c = nI i) && mtB (pB ms c) (pL ms c) b n) 0 8 <;> rfl
theorem c_ownerOf (F : Fx σ x) (S : Sx σ x G ms) (T : Tr ms) {p n : Nat} {b : Int32} (hp : hP σ p b n) : f_X8_ownerOf σ (some (x + 1)) (some p) = some ((ownE ms b n).map (G 0), σ) := by
  unfold f_X8_ownerOf
  have key := lp_find (fun m k => g_X8_ownerOf_2 m σ (some (x + 1)) (some p) k) 8 (fun i => decide (¬ ms.2.1 3 i = 0) && ownB ms b n i) (fun i => some (some (G 0 i), σ)) (some (none, σ))
    (fun m => by show g_X8_ownerOf_2 (m + 1) σ (some (x + 1)) (some p) (nI 8) = _; rw [g_X8_ownerOf_2, if_pos (by decide)])
    (fun m i hi => by
      show g_X8_ownerOf_2 (m + 1) σ (some (x + 1)) (some p) (nI i) = _
      rw [g_X8_ownerOf_2, if_neg (show ¬ (8 : Int32) ≤ nI i from nI_ge (b := 8) hi (by omega)), gR_s F.2.2.1.1, F.2.2.1.2]
      simp only [h_b1_s]
      rw [nI_1]
      by_cases h3 : ms.2.1 3 i = 0
      · rw [aR_s F.2.2.2.1.1 F.2.2.2.1.2 hi (by omega), (S.2.2 i hi).1 h3, decide_eq_false (show ¬ ¬ ms.2.1 3 i = 0 from fun z => z h3)]; rfl
      · obtain ⟨f1, -⟩ := c_sv S F hi h3
        rw [f1]
        simp only [h_b1_s]
        rw [if_neg (by simp), rcv_s F.2.2.1.1, h_b1_s, c_owns F S T hi h3 hp, h_bd_s, decide_eq_true (show ¬ ms.2.1 3 i = 0 from h3), Bool.true_and]
        cases ownB ms b n i
        · rfl
        · rw [if_neg (by decide), gR_s F.2.2.1.1, F.2.2.1.2, h_b1_s, f1, h_b1_s]; rfl)
    8 h_hN 0 rfl (h_hN_lt (by omega))
  refine Eq.trans key ?_
  have hn := hp.2.2.2.1
  cases hf : ff (fun i => decide (¬ ms.2.1 3 i = 0) && ownB ms b n i) 0 8 with
  | none =>
    cases ho : ownE ms b n with
    | none => rfl
    | some j =>
      exfalso
      have hj := (ownE_iff T hn).mp ho
      have := (ff_none.mp hf) j (by omega) (by have := hj.1; omega)
      rw [decide_eq_true (show ¬ ms.2.1 3 j = 0 from hj.2.1), Bool.true_and, (ownB_iff T hj.1 hj.2.1).mpr hj] at this
      cases this
  | some j =>
    obtain ⟨-, j1, j2, -⟩ := ff_some.mp hf
    rw [Bool.and_eq_true, decide_eq_true_eq] at j2
    rw [(ownE_iff T hn).mpr ((ownB_iff T (by omega) j2.1).mp j2.2)]
    rfl
theorem c_childWith (F : Fx σ x) (S : Sx σ x G ms) (T : Tr ms) {i : Nat} (hi : i < 8) (hpr : pr ms i) (ep : Int32) : f_X8_childWith σ (some (x + 1)) (some (G 0 i)) ep = some ((chiF ms i ep).map (G 0), σ) := by
  unfold f_X8_childWith
  have key := lp_find (fun m k => g_X8_childWith_2 m σ (some (x + 1)) (some (G 0 i)) ep k) 8 (fun c => decide (ms.2.1 6 c = nI i) && ag (ln (ms.2.1 5 c)) (ms.2.1 4 c) ep) (fun c => some (some (G 0 c), σ)) (some (none, σ))
    (fun m => by show g_X8_childWith_2 (m + 1) σ (some (x + 1)) (some (G 0 i)) ep (nI 8) = _; rw [g_X8_childWith_2, if_pos (by decide)])
    (fun m c hc => by
      show g_X8_childWith_2 (m + 1) σ (some (x + 1)) (some (G 0 i)) ep (nI c) = _
      rw [g_X8_childWith_2, if_neg (show ¬ (8 : Int32) ≤ nI c from nI_ge (b := 8) hc (by omega)), rcv_s F.2.2.1.1, h_b1_s, c_isChild F S T hc hi hpr, h_bd_s, nI_1]
      by_cases h2 : ms.2.1 6 c = nI i
      · obtain ⟨f1, q, f2, hq⟩ := c_sv S F hc (ch_pr T hc hi h2)
        rw [decide_eq_true h2, if_neg (by decide), gR_s F.2.2.1.1, F.2.2.1.2]
        simp only [h_b1_s]
        rw [f1]
        simp only [h_b1_s]
        rw [f2, h_b1_s, rcv_s hq.1, h_b1_s, has_eq hq ep, h_bd_s, ag_comm (pL_le T hc), Bool.true_and]
        show _ = if ag (pL ms c) (pB ms c) ep = true then _ else _
        cases ag (pL ms c) (pB ms c) ep
        · rfl
        · rw [if_neg (by decide), gR_s F.2.2.1.1, F.2.2.1.2, h_b1_s, f1, h_b1_s]; rfl
      · rw [decide_eq_false h2]; rfl)
    8 h_hN 0 rfl (h_hN_lt (by omega))
  refine Eq.trans key ?_
  unfold chiF
  cases ff (fun c => decide (ms.2.1 6 c = nI i) && ag (ln (ms.2.1 5 c)) (ms.2.1 4 c) ep) 0 8 <;> rfl
theorem c_childRound (F : Fx σ x) (S : Sx σ x G ms) (T : Tr ms) {i n : Nat} (hi : i < 8) (hpr : pr ms i) (hn : n ≤ 32) (ep : Int32) : f_X8_hasChildRound σ (some (x + 1)) (some (G 0 i)) ep (nI n) = some (b2i (ff (inC ms i ep n) 0 8).isSome, σ) := by
  unfold f_X8_hasChildRound
  have key := lp_find (fun m k => g_X8_hasChildRound_3 m σ (some (x + 1)) (some (G 0 i)) ep (nI n) k) 8 (inC ms i ep n) (fun _ => some (1, σ)) (some (0, σ))
    (fun m => by show g_X8_hasChildRound_3 (m + 1) σ (some (x + 1)) (some (G 0 i)) ep (nI n) (nI 8) = _; rw [g_X8_hasChildRound_3, if_pos (by decide)])
    (fun m c hc => by
      show g_X8_hasChildRound_3 (m + 1) σ (some (x + 1)) (some (G 0 i)) ep (nI n) (nI c) = _
      rw [g_X8_hasChildRound_3, if_neg (show ¬ (8 : Int32) ≤ nI c from nI_ge (b := 8) hc (by omega)), rcv_s F.2.2.1.1, h_b1_s, c_isChild F S T hc hi hpr, h_bd_s, nI_1]
      unfold inC
      by_cases h2 : ms.2.1 6 c = nI i
      · obtain ⟨f1, q, f2, hq⟩ := c_sv S F hc (ch_pr T hc hi h2)
        rw [decide_eq_true h2, if_neg (by decide), gR_s F.2.2.1.1, F.2.2.1.2, h_b1_s, f1, h_b1_s, f2, h_b1_s, rcv_s hq.1, h_b1_s, liesRound_eq hq ep hn, h_bd_s, ag_comm hn, Bool.true_and]
        show _ = if (decide (n ≤ pL ms c) && ag n ep (pB ms c)) = true then _ else _
        cases (decide (n ≤ pL ms c) && ag n ep (pB ms c)) <;> rfl
      · rw [decide_eq_false h2]; rfl)
    8 h_hN 0 rfl (h_hN_lt (by omega))
  refine Eq.trans key ?_
  cases ff (inC ms i ep n) 0 8 <;> rfl
end RDS
