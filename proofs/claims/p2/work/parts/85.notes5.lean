/-! NOTES: a SOLICIT comes, a note is made -/
theorem NtR_flt {fx : Bool} {cl : List N5} {rl : List (N5 × Int32)} (N : NtR fx cl rl) (Q : N5 → Bool) (hQ : ∀ q r, nR fx q r → Q q = Q r) : NtR fx (cl.filter Q) (rl.filter (fun r => Q r.1)) := by
  obtain ⟨L, h1, h2, h3⟩ := N
  exact ⟨L.filter (fun q => Q q.1), h1.filter _, h2.filter _, fa2_filter (fun a b hab => hQ a b.1 hab) cl L h3⟩
theorem map_filt {P : N5 → Bool} {V : Nat → N5} (C : List Nat) : (C.filter (fun a => P (V a))).map V = (C.map V).filter P := by
  rw [List.filter_map]
  rfl
theorem beN_iff {ms : MS} {i t : Nat} : beN ms i t = true ↔ (efN ms i).toInt < (efN ms t).toInt ∨ ((efN ms i).toInt = (efN ms t).toInt ∧ 0 < (efN ms i).toInt ∧ (ms.2.1 24 i).toInt < (ms.2.1 24 t).toInt) := by
  unfold beN
  rw [Bool.or_eq_true, Bool.and_eq_true, Bool.and_eq_true, decide_eq_true_iff, decide_eq_true_iff, decide_eq_true_iff, decide_eq_true_iff, Int32.lt_iff_toInt_lt, Int32.lt_iff_toInt_lt, Int32.lt_iff_toInt_lt, Int32.toInt_zero, ← Int32.toInt_inj]
theorem bool_f {b : Bool} (h : ¬ b = true) : b = false := by cases b with
  | false => rfl
  | true => exact absurd rfl h
/-- the place that the new note takes -/
theorem pk_ok (ms : MS) {i0 : Nat} : ∀ (c i t : Nat), (i0 ≤ t ∧ t < i) → (∀ k, i0 ≤ k → k < i → beN ms k t = false) → ∃ t', fo (pkN ms) i c (some t) = some t' ∧ (i0 ≤ t' ∧ t' < i + c) ∧ ∀ k, i0 ≤ k → k < i + c → beN ms k t' = false
  | 0, i, t, h1, h2 => ⟨t, rfl, h1, h2⟩
  | c + 1, i, t, h1, h2 => by
    show ∃ t', fo (pkN ms) (i + 1) c (if beN ms i t = true then some i else some t) = some t' ∧ _
    by_cases hb : beN ms i t = true
    · rw [if_pos hb]
      obtain ⟨t', r1, r2, r3⟩ := pk_ok ms (i0 := i0) c (i + 1) i ⟨by omega, by omega⟩ (fun k hk1 hk2 => bool_f (fun z => by
        rw [beN_iff] at z hb
        by_cases e : k = i
        · rw [e] at z; omega
        · have h3 := h2 k hk1 (by omega)
          have : beN ms k t = true := beN_iff.mpr (by omega)
          rw [h3] at this
          cases this))
      exact ⟨t', r1, ⟨r2.1, by omega⟩, fun k h3 h4 => r3 k h3 (by omega)⟩
    · rw [if_neg hb]
      obtain ⟨t', r1, r2, r3⟩ := pk_ok ms (i0 := i0) c (i + 1) t ⟨h1.1, by omega⟩ (fun k hk1 hk2 => by
        by_cases e : k = i
        · rw [e]; exact bool_f hb
        · exact h2 k hk1 (by omega))
      exact ⟨t', r1, ⟨r2.1, by omega⟩, fun k h3 h4 => r3 k h3 (by omega)⟩
theorem pk_all (ms : MS) (s : Nat) : ∃ t, fo (pkN ms) (6 * s) 6 none = some t ∧ (6 * s ≤ t ∧ t < 6 * s + 6) ∧ ∀ k, 6 * s ≤ k → k < 6 * s + 6 → beN ms k t = false := by
  obtain ⟨t, r1, r2, r3⟩ := pk_ok ms (i0 := 6 * s) 5 (6 * s + 1) (6 * s) ⟨by omega, by omega⟩ (fun k h1 h2 => bool_f (fun z => by
    rw [show k = 6 * s by omega, beN_iff] at z
    omega))
  exact ⟨t, r1, ⟨r2.1, by omega⟩, fun k h1 h2 => r3 k h1 (by omega)⟩
section NT5
variable {fx : Bool} {σ σ' : HS} {x : Nat} {G : Nat → Nat → Nat} {ms ms' : MS}
theorem Zx_NW {n e : Nat} (W : NW n e σ σ') (Z : Zx σ x) : Zx σ' x := by
  obtain ⟨-, h1, -, h2, -⟩ := W
  unfold Zx
  rw [h1, h2]
  exact Z
theorem NW.z4 {n e : Nat} (W : NW n e σ σ') : h_sz σ' = h_sz σ ∧ h_sl σ' = h_sl σ ∧ h_cz σ' = h_cz σ ∧ h_ck σ' = h_ck σ := W.2.2.2
theorem mtN_nMt {b : Int32} {n k : Nat} (hn : n ≤ 32) (hL : Ln (ms.2.1 20 k)) : mtN ms b n k = nMt b n (nMv ms k).1 := by
  unfold mtN nMt mtB
  show _ = ((decide (n ≤ ln (ms.2.1 20 k)) && ag n (ms.2.1 19 k) b) || (decide (ln (ms.2.1 20 k) ≤ n) && ag (ln (ms.2.1 20 k)) b (ms.2.1 19 k)))
  rw [ag_comm (a := b) hn, ag_comm (a := b) (Ln_nI hL).2]
/-- the notes that a SOLICIT takes away -/
theorem a_forget (P : Rep fx σ x G ms) {s t : Nat} (hs : s < 8) (hp : ¬ ms.2.1 14 s = -1) (D : DN ms s) (hL : ∀ k, k < 48 → Ln (ms.2.1 20 k)) (ht : ms.1 1 = nI t) (ht2 : t ≤ 1000000) (ep pl : Int32) : ∃ σ', f_X2_lose σ (some (G 5 s)) ep pl (ms.1 1) = some ((), σ') ∧ Rep fx σ' x G (fgtM ms s ep pl) ∧ Kq x 0 0 σ σ' := by
  have I := P.si hs hp
  obtain ⟨C, K, hN⟩ := I.ct
  obtain ⟨σ', r1, W, K'⟩ := c_lose K I.n56 ep pl (ms.1 1)
  have ek : ∀ k j, k ≠ 23 → (fgtM ms s ep pl).2.1 k j = ms.2.1 k j := fun k j h => fgtM_k h
  have hsm : ∀ b, b ≠ G 5 s → b ≠ G 6 s → Sm σ σ' b := W.1
  have e1 : (fgtM ms s ep pl).1 = ms.1 := fgtM_1
  have hit : ∀ k, 6 * s ≤ k → k < 6 * s + 6 → nHas ep (nMv ms k).1 = ag (ln (ms.2.1 20 k)) (ms.2.1 19 k) ep := fun k _ hk => ag_comm (Ln_nI (hL k (by omega))).2
  have uniq : ∀ k0 k, ntF ms s ep = some k0 → 6 * s ≤ k → k < 6 * s + 6 → liveN ms k = true → nHas ep (nMv ms k).1 = true → k = k0 := by
    intro k0 k hf h1 h2 h3 h4
    obtain ⟨g1, g2, g3, -⟩ := ff_some.mp hf
    obtain ⟨g4, g5⟩ := (Bool.and_eq_true _ _).mp g3
    by_cases e : k = k0
    · exact e
    · have h32 : ∀ j, j < 48 → ln (ms.2.1 20 j) ≤ 32 := fun j hj => (Ln_nI (hL j hj)).2
      have hd := D k k0 h1 h2 g1 g2 h3 g4 e
      have htt := mtB_of (b := ep) (n := 32) (h32 k (by omega)) (h32 k0 (by omega)) ⟨h32 k (by omega), h4⟩ ⟨h32 k0 (by omega), ag_symm (h32 k0 (by omega)) g5⟩
      exact absurd (hd.symm.trans htt) (by decide)
  have hlive : ∀ k, 6 * s ≤ k → k < 6 * s + 6 → liveN (fgtM ms s ep pl) k = (!(nHas ep (nMv ms k).1 && decide ((nMv ms k).1.2.2.1 = pl)) && liveN ms k) := by
    intro k h1 h2
    have dead : ∀ k, liveN (aS ms 23 k 0) k = false := fun k => by
      unfold liveN
      rw [aS_s]
      exact decide_eq_false (by show ¬ ms.1 1 < 0; rw [ht]; exact nI_pos (by omega))
    unfold fgtM
    cases hf : ntF ms s ep with
    | none =>
      show liveN ms k = _
      cases hl : liveN ms k with
      | false => rw [Bool.and_false]
      | true =>
        have := ff_none.mp hf k h1 h2
        rw [hl, Bool.true_and] at this
        rw [hit k h1 h2, this]
        rfl
    | some k0 =>
      show liveN (if ms.2.1 21 k0 = pl then aS ms 23 k0 0 else ms) k = _
      by_cases hpl : ms.2.1 21 k0 = pl
      · rw [if_pos hpl]
        by_cases e : k = k0
        · rw [e, dead]
          obtain ⟨g1, g2, g3, -⟩ := ff_some.mp hf
          obtain ⟨g4, g5⟩ := (Bool.and_eq_true _ _).mp g3
          have : nHas ep (nMv ms k0).1 = true := by rw [hit k0 g1 g2]; exact g5
          rw [this, decide_eq_true (show (nMv ms k0).1.2.2.1 = pl from hpl)]
          rfl
        · have : liveN (aS ms 23 k0 0) k = liveN ms k := by unfold liveN; rw [aS_j e]; rfl
          rw [this]
          cases hl : liveN ms k with
          | false => rw [Bool.and_false]
          | true =>
            cases hh : nHas ep (nMv ms k).1 with
            | false => rfl
            | true => exact absurd (uniq k0 k hf h1 h2 hl hh) e
      · rw [if_neg hpl]
        cases hl : liveN ms k with
        | false => rw [Bool.and_false]
        | true =>
          cases hh : nHas ep (nMv ms k).1 with
          | false => rfl
          | true =>
            have e := uniq k0 k hf h1 h2 hl hh
            rw [e, decide_eq_false (show ¬ (nMv ms k0).1.2.2.1 = pl from hpl)]
            rfl
  have hix : lvI (fgtM ms s ep pl) s = (lvI ms s).filter (fun k => !(nHas ep (nMv ms k).1 && decide ((nMv ms k).1.2.2.1 = pl))) := by
    unfold lvI
    rw [List.filter_filter]
    exact List.filter_congr (fun k hk => by rw [List.mem_range'_1] at hk; exact hlive k hk.1 hk.2)
  have hmap : (lvI (fgtM ms s ep pl) s).map (nMv (fgtM ms s ep pl)) = ((lvI ms s).map (nMv ms)).filter (fun r => !(nHas ep r.1 && decide (r.1.2.2.1 = pl))) := by
    rw [List.filter_map, show (fun r : N5 × Int32 => !(nHas ep r.1 && decide (r.1.2.2.1 = pl))) ∘ nMv ms = fun k => !(nHas ep (nMv ms k).1 && decide ((nMv ms k).1.2.2.1 = pl)) from rfl, ← hix]
    refine List.map_congr_left (fun k hk => ?_)
    obtain ⟨k1, k2⟩ := lvI_mem.mp hk
    have e23 : (fgtM ms s ep pl).2.1 23 k = ms.2.1 23 k := by
      unfold fgtM at k2 ⊢
      cases hf : ntF ms s ep with
      | none => rfl
      | some k0 =>
        rw [hf] at k2
        have k2' : liveN (if ms.2.1 21 k0 = pl then aS ms 23 k0 0 else ms) k = true := k2
        show (if ms.2.1 21 k0 = pl then aS ms 23 k0 0 else ms).2.1 23 k = _
        by_cases hpl : ms.2.1 21 k0 = pl
        · rw [if_pos hpl] at k2' ⊢
          by_cases e : k = k0
          · rw [e] at k2'
            unfold liveN at k2'
            rw [aS_s] at k2'
            have := of_decide_eq_true k2'
            have h0 : ¬ ms.1 1 < 0 := by rw [ht]; exact nI_pos (by omega)
            exact absurd this h0
          · exact aS_j e
        · rw [if_neg hpl]
    unfold nMv
    rw [ek 19 k (by decide), ek 20 k (by decide), ek 21 k (by decide), ek 22 k (by decide), ek 24 k (by decide), e23]
  have hcl : ((C.filter (fun a => keepL ep pl (ms.1 1) (nV σ a))).map (nV σ')).filter (nP (ms.1 1)) = ((C.map (nV σ)).filter (nP (ms.1 1))).filter (fun q => !(nHas ep q && decide (q.2.2.1 = pl))) := by
    have : (C.filter (fun a => keepL ep pl (ms.1 1) (nV σ a))).map (nV σ') = (C.filter (fun a => keepL ep pl (ms.1 1) (nV σ a))).map (nV σ) := List.map_congr_left (fun a ha => (W.ok K.1 K.2.2.1 (K.2.2.2.2.2.2.2 a (List.mem_filter.mp ha).1)).2)
    rw [this, map_filt, List.filter_filter, List.filter_filter]
    refine List.filter_congr (fun q _ => ?_)
    unfold keepL
    cases nP (ms.1 1) q <;> cases nHas ep q <;> cases decide (q.2.2.1 = pl) <;> rfl
  have I' : SiR fx σ' G (fgtM ms s ep pl) s := by
    refine I.of_ct W K' ?_ (ek _ _ (by decide)) (ek _ _ (by decide)) (ek _ _ (by decide)) (fun _ _ => ek _ _ (by decide)) (fun _ _ => ek _ _ (by decide))
    rw [e1, hcl, hmap]
    refine NtR_flt hN _ (fun q r h => ?_)
    rw [nR_has h, h.2.2.1]
  refine ⟨σ', r1, Rep_one P hs hp (Zx_NW W P.1) (fun b _ _ g5 g6 _ => hsm b g5 g6) I' (by rw [ek _ _ (by decide)]; exact hp) (fun k _ _ => by rw [e1]) (fun k j h => ek k j (by omega)) ?_ (fun t ht e => ⟨ek _ _ (by decide), ek _ _ (by decide), ek _ _ (by decide)⟩) (fun t k ht e hk => ⟨ek _ _ (by decide), ek _ _ (by decide)⟩) (fun t k j ht e h1 h2 h3 h4 => ?_), Kq_si P hs hp W.z4 (fun b _ _ g5 g6 _ => hsm b g5 g6)⟩
  · unfold fgtM
    cases ntF ms s ep with
    | none => rfl
    | some k0 =>
      show (if ms.2.1 21 k0 = pl then aS ms 23 k0 0 else ms).2.2 = _
      split <;> rfl
  · by_cases e23 : k = 23
    · rw [e23]
      unfold fgtM
      cases hf : ntF ms s ep with
      | none => rfl
      | some k0 =>
        obtain ⟨g1, g2, -, -⟩ := ff_some.mp hf
        show (if ms.2.1 21 k0 = pl then aS ms 23 k0 0 else ms).2.1 23 j = _
        by_cases hpl : ms.2.1 21 k0 = pl
        · rw [if_pos hpl]
          exact aS_j (by omega)
        · rw [if_neg hpl]
    · exact ek k j e23
end NT5
