/-! NOTES: the two sides -/
def nMv (ms : MS) (k : Nat) : N5 × Int32 := ((ms.2.1 19 k, ms.2.1 20 k, ms.2.1 21 k, ms.2.1 22 k, ms.2.1 23 k), ms.2.1 24 k)
/-- the places of a site's notes that are there -/
def lvI (ms : MS) (s : Nat) : List Nat := (List.range' (6 * s) 6).filter (liveN ms)
theorem lL_ix {α : Type} {P : α → Bool} {g : Nat → α} : ∀ (c i : Nat), lL P (fun k => some (g k)) i c = ((List.range' i c).filter (fun k => P (g k))).map g
  | 0, i => rfl
  | c + 1, i => by
    have ih := lL_ix (P := P) (g := g) c (i + 1)
    rw [List.range'_succ]
    unfold lL
    show (if P (g i) = true then g i :: lL P (fun k => some (g k)) (i + 1) c else lL P (fun k => some (g k)) (i + 1) c) = _
    by_cases h : P (g i) = true
    · rw [if_pos h, List.filter_cons_of_pos (by exact h), List.map_cons, ih]
    · rw [if_neg h, List.filter_cons_of_neg (by exact h), ih]
theorem rl_ix (ms : MS) (s : Nat) : lL (fun q : N5 × Int32 => nP (ms.1 1) q.1) (nM ms) (6 * s) 6 = (lvI ms s).map (nMv ms) := lL_ix (P := fun q : N5 × Int32 => nP (ms.1 1) q.1) (g := nMv ms) 6 (6 * s)
theorem lvI_mem {ms : MS} {s k : Nat} : k ∈ lvI ms s ↔ (6 * s ≤ k ∧ k < 6 * s + 6) ∧ liveN ms k = true := by
  unfold lvI
  rw [List.mem_filter, List.mem_range'_1]
theorem lvI_nd {ms : MS} {s : Nat} : (lvI ms s).Nodup := List.Pairwise.filter _ List.nodup_range'
theorem fa2_len {α β : Type} {R : α → β → Prop} : ∀ (l : List α) (r : List β), fa2 R l r → l.length = r.length
  | [], [], _ => rfl
  | _ :: l, _ :: r, h => by rw [List.length_cons, List.length_cons, fa2_len l r h.2]
  | [], _ :: _, h => absurd h (fun z => z)
  | _ :: _, [], h => absurd h (fun z => z)
theorem fa2_l {α β : Type} {R : α → β → Prop} : ∀ (l : List α) (r : List β), fa2 R l r → ∀ a, a ∈ l → ∃ b, b ∈ r ∧ R a b
  | [], [], _, a, h => absurd h (List.not_mem_nil)
  | x :: l, y :: r, h, a, ha => by
    rcases List.mem_cons.mp ha with rfl | h1
    · exact ⟨y, List.mem_cons_self, h.1⟩
    · obtain ⟨b, b1, b2⟩ := fa2_l l r h.2 a h1
      exact ⟨b, List.mem_cons_of_mem _ b1, b2⟩
  | [], _ :: _, h, _, _ => absurd h (fun z => z)
  | _ :: _, [], h, _, _ => absurd h (fun z => z)
theorem fa2_r {α β : Type} {R : α → β → Prop} : ∀ (l : List α) (r : List β), fa2 R l r → ∀ b, b ∈ r → ∃ a, a ∈ l ∧ R a b
  | [], [], _, a, h => absurd h (List.not_mem_nil)
  | x :: l, y :: r, h, b, hb => by
    rcases List.mem_cons.mp hb with rfl | h1
    · exact ⟨x, List.mem_cons_self, h.1⟩
    · obtain ⟨a, b1, b2⟩ := fa2_r l r h.2 b h1
      exact ⟨a, List.mem_cons_of_mem _ b1, b2⟩
  | [], _ :: _, h, _, _ => absurd h (fun z => z)
  | _ :: _, [], h, _, _ => absurd h (fun z => z)
theorem fa2_app {α β : Type} {R : α → β → Prop} {a : α} {b : β} (hab : R a b) : ∀ (l : List α) (r : List β), fa2 R l r → fa2 R (l ++ [a]) (r ++ [b])
  | [], [], _ => ⟨hab, trivial⟩
  | _ :: l, _ :: r, h => ⟨h.1, fa2_app hab l r h.2⟩
  | [], _ :: _, h => absurd h (fun z => z)
  | _ :: _, [], h => absurd h (fun z => z)
theorem fa2_tail {α β : Type} {R : α → β → Prop} : ∀ (l : List α) (r : List β), fa2 R l r → fa2 R l.tail r.tail
  | [], [], _ => trivial
  | _ :: l, _ :: r, h => h.2
  | [], _ :: _, h => absurd h (fun z => z)
  | _ :: _, [], h => absurd h (fun z => z)
/-- what is known of the notes of the reference -/
def DN (ms : MS) (s : Nat) : Prop := ∀ k k', 6 * s ≤ k → k < 6 * s + 6 → 6 * s ≤ k' → k' < 6 * s + 6 → liveN ms k = true → liveN ms k' = true → k ≠ k' → mtB (ms.2.1 19 k) (ln (ms.2.1 20 k)) (ms.2.1 19 k') (ln (ms.2.1 20 k')) = false
section NT3
variable {fx : Bool} {σ σ' : HS} {x : Nat} {G : Nat → Nat → Nat} {ms ms' : MS}
theorem SiR.ct {s : Nat} (I : SiR fx σ G ms s) : ∃ C, Ct σ (G 5 s) (G 6 s) C ∧ NtR fx ((C.map (nV σ)).filter (nP (ms.1 1))) ((lvI ms s).map (nMv ms)) := by
  obtain ⟨a1, a2, a3, a4, a5, a6, ⟨a8, a9⟩, ⟨b1, b2, b3⟩, z, z1, z2, z3, z4⟩ := I
  have hl : ((List.range z).map (fun j => (h_rv σ (G 6 s) j).getD 0)).length = z := by rw [List.length_map, List.length_range]
  have hg : ∀ j, j < z → ((List.range z).map (fun j => (h_rv σ (G 6 s) j).getD 0))[j]? = h_rv σ (G 6 s) j := by
    intro j hj
    obtain ⟨a, d1, -⟩ := z3 j hj
    rw [List.getElem?_map, List.getElem?_range hj]
    show some ((h_rv σ (G 6 s) j).getD 0) = _
    rw [d1]
    rfl
  refine ⟨(List.range z).map (fun j => (h_rv σ (G 6 s) j).getD 0), ⟨a9, b1, b2, b3, by omega, by rw [hl]; exact z2, fun j hj => (hg j (by omega)).symm, fun a ha => ?_⟩, ?_⟩
  · obtain ⟨j, hj, rfl⟩ := List.mem_map.mp ha
    obtain ⟨a, d1, d2⟩ := z3 j (List.mem_range.mp hj)
    rw [d1]
    exact d2
  · have := lL_list (P := nP (ms.1 1)) (g := nV σ) (f := nC σ (G 6 s)) ((List.range z).map (fun j => (h_rv σ (G 6 s) j).getD 0)) 0 (fun j hj => by rw [hg j (by omega), Nat.zero_add]; rfl)
    rw [hl] at this
    rw [← this, ← rl_ix]
    exact z4
theorem SiR.n56 {s : Nat} (I : SiR fx σ G ms s) : G 5 s ≠ G 6 s := by
  obtain ⟨a1, a2, a3, a4, a5, a6, ⟨a8, a9⟩, ⟨b1, b2, b3⟩, -⟩ := I
  intro z
  rw [z, b2] at a9
  omega
/-- the notes have changed -/
theorem SiR.of_ct {s : Nat} (I : SiR fx σ G ms s) {C : List Nat} (W : NW (G 5 s) (G 6 s) σ σ') (K : Ct σ' (G 5 s) (G 6 s) C) (hN : NtR fx ((C.map (nV σ')).filter (nP (ms'.1 1))) ((lvI ms' s).map (nMv ms'))) (e14 : ms'.2.1 14 s = ms.2.1 14 s) (e15 : ms'.2.1 15 s = ms.2.1 15 s) (e18 : ms'.2.1 18 s = ms.2.1 18 s) (e16 : ∀ k, k < 4 → ms'.2.1 16 (4 * s + k) = ms.2.1 16 (4 * s + k)) (e17 : ∀ k, k < 4 → ms'.2.1 17 (4 * s + k) = ms.2.1 17 (4 * s + k)) : SiR fx σ' G ms' s := by
  obtain ⟨a1, a2, a3, a4, ⟨a5, a6, a7⟩, ⟨c, c1, c2, c3⟩, ⟨a8, a9⟩, ⟨b1, b2, b3⟩, -⟩ := I
  obtain ⟨k1, k2, k3, k4, k5, k6, k7, k8⟩ := id K
  have ne : ∀ {b c : Nat}, h_tg σ b ≠ h_tg σ c → b ≠ c := fun h z => h (by rw [z])
  have s3 := W.1 (G 3 s) (ne (by rw [a1, a9]; decide)) (ne (by rw [a1, b2]; decide))
  have s4 := W.1 (G 4 s) (ne (by rw [a6, a9]; decide)) (ne (by rw [a6, b2]; decide))
  refine ⟨by rw [s3.1]; exact a1, by rw [s3.2.2.1, e14]; exact a2, by rw [s3.2.2.1, e18]; exact a3, by rw [s3.2.2.1, e15]; exact a4, ⟨by rw [s3.2.2.2.1]; exact a5, by rw [s4.1]; exact a6, by rw [s4.2.1]; exact a7⟩, ⟨c, c1, by rw [e15]; exact c2, fun k hk => ?_⟩, ⟨by rw [s3.2.2.2.1]; exact a8, k1⟩, ⟨k2, k3, k4⟩, C.length, k5, k6, fun j hj => ?_, ?_⟩
  · obtain ⟨p, n, d1, d2, d3⟩ := c3 k hk
    exact ⟨p, n, by rw [s4.2.2.2.1]; exact d1, by rw [e17 k (by omega)]; exact d2, by rw [e16 k (by omega)]; exact d3.to (W.1 p (ne (by rw [d3.1, a9]; decide)) (ne (by rw [d3.1, b2]; decide)))⟩
  · have hg := List.getElem?_eq_getElem hj
    exact ⟨C[j], by rw [k7 j hj, hg], k8 _ (List.getElem_mem hj)⟩
  · have := lL_list (P := nP (ms'.1 1)) (g := nV σ') (f := nC σ' (G 6 s)) C 0 (fun j hj => by rw [Nat.zero_add]; unfold nC; rw [k7 j hj])
    rw [this, rl_ix]
    exact hN
theorem nR_has {q r : N5} (h : nR fx q r) (ep : Int32) : nHas ep q = nHas ep r := by
  unfold nHas
  rw [h.1, h.2.1]
theorem live_nP {k : Nat} : liveN ms k = nP (ms.1 1) (nMv ms k).1 := rfl
/-- the note with an endpoint -/
theorem c_noteF {s : Nat} (I : SiR fx σ G ms s) (D : DN ms s) (hL : ∀ k, k < 48 → Ln (ms.2.1 20 k)) (hs : s < 8) (ep : Int32) : ∃ r, f_X2_find σ (some (G 5 s)) ep (ms.1 1) = some (r, σ) ∧ (match ntF ms s ep with | none => r = none | some k => ∃ a, r = some a ∧ nOk σ a ∧ nR fx (nV σ a) (nMv ms k).1) := by
  obtain ⟨C, K, L, h1, h2, h3⟩ := I.ct
  have hit : ∀ k, 6 * s ≤ k → k < 6 * s + 6 → nHas ep (nMv ms k).1 = ag (ln (ms.2.1 20 k)) (ms.2.1 19 k) ep := fun k _ hk => ag_comm (Ln_nI (hL k (by omega))).2
  have toR : ∀ a, a ∈ C → (nP (ms.1 1) (nV σ a) && nHas ep (nV σ a)) = true → ∃ k, (6 * s ≤ k ∧ k < 6 * s + 6) ∧ liveN ms k = true ∧ ag (ln (ms.2.1 20 k)) (ms.2.1 19 k) ep = true ∧ nR fx (nV σ a) (nMv ms k).1 := by
    intro a ha hq
    obtain ⟨q1, q2⟩ := (Bool.and_eq_true _ _).mp hq
    have hm : nV σ a ∈ (C.map (nV σ)).filter (nP (ms.1 1)) := List.mem_filter.mpr ⟨List.mem_map.mpr ⟨a, ha, rfl⟩, q1⟩
    obtain ⟨r, r1, r2⟩ := fa2_l _ _ h3 _ hm
    obtain ⟨k, k1, rfl⟩ := List.mem_map.mp (h1.mem_iff.mp r1)
    obtain ⟨k2, k3⟩ := lvI_mem.mp k1
    exact ⟨k, k2, k3, by rw [← hit k k2.1 k2.2, ← nR_has r2]; exact q2, r2⟩
  refine ⟨_, c_find K ep (ms.1 1), ?_⟩
  cases hf : ntF ms s ep with
  | none =>
    show C.find? _ = none
    refine List.find?_eq_none.mpr (fun a ha hq => ?_)
    obtain ⟨k, k2, k3, k4, -⟩ := toR a ha hq
    have := ff_none.mp hf k k2.1 k2.2
    rw [k3, k4] at this
    cases this
  | some k =>
    obtain ⟨g1, g2, g3, -⟩ := ff_some.mp hf
    obtain ⟨g4, g5⟩ := (Bool.and_eq_true _ _).mp g3
    have hm : nMv ms k ∈ L := h1.mem_iff.mpr (List.mem_map.mpr ⟨k, lvI_mem.mpr ⟨⟨g1, g2⟩, g4⟩, rfl⟩)
    obtain ⟨q, q1, q2⟩ := fa2_r _ _ h3 _ hm
    obtain ⟨q3, q4⟩ := List.mem_filter.mp q1
    obtain ⟨a', ha', rfl⟩ := List.mem_map.mp q3
    have hq' : (nP (ms.1 1) (nV σ a') && nHas ep (nV σ a')) = true := by rw [q4, nR_has q2, hit k g1 g2, g5]; rfl
    cases hc : C.find? (fun a => nP (ms.1 1) (nV σ a) && nHas ep (nV σ a)) with
    | none => exact absurd hq' (List.find?_eq_none.mp hc a' ha')
    | some a =>
      have ha := List.mem_of_find?_eq_some hc
      have hq := List.find?_some hc
      obtain ⟨k', k2, k3, k4, k5⟩ := toR a ha hq
      have ek : k' = k := by
        by_cases e : k' = k
        · exact e
        · have h32 : ∀ j, j < 48 → ln (ms.2.1 20 j) ≤ 32 := fun j hj => (Ln_nI (hL j hj)).2
          have hd := D k' k k2.1 k2.2 g1 g2 k3 g4 e
          have ht := mtB_of (b := ep) (n := 32) (h32 k' (by omega)) (h32 k (by omega)) ⟨h32 k' (by omega), ag_symm (h32 k' (by omega)) k4⟩ ⟨h32 k (by omega), ag_symm (h32 k (by omega)) g5⟩
          rw [hd] at ht
          cases ht
      subst ek
      exact ⟨a, rfl, K.2.2.2.2.2.2.2 a ha, k5⟩
end NT3
