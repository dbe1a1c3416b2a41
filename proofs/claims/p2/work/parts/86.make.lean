/-! NOTES: one is made -/
theorem bool_ex {a b : Bool} (h : a = b) (h' : a = !b) : False := by subst h; cases a <;> cases h'
/-- what is known of the order of a site's notes: those made later go later; how many were made -/
def ON (ms : MS) (s : Nat) : Prop := (∀ k k', 6 * s ≤ k → k < 6 * s + 6 → 6 * s ≤ k' → k' < 6 * s + 6 → liveN ms k = true → liveN ms k' = true → ms.2.1 24 k < ms.2.1 24 k' → ms.2.1 23 k ≤ ms.2.1 23 k') ∧ ∃ M, M ≤ 200 ∧ ms.1 25 = nI M ∧ ∀ k, 6 * s ≤ k → k < 6 * s + 6 → liveN ms k = true → ∃ m, m ≤ M ∧ ms.2.1 24 k = nI m
section NT6
variable {fx : Bool} {σ σ' : HS} {x : Nat} {G : Nat → Nat → Nat} {ms ms' : MS}
theorem clrM_1 {s : Nat} {b : Int32} {n : Nat} : (clrM ms s b n).1 = ms.1 := rfl
theorem clrM_k {s : Nat} {b : Int32} {n k j : Nat} (h : k ≠ 23) : (clrM ms s b n).2.1 k j = ms.2.1 k j := by unfold clrM; rw [rW_i, if_neg h]
theorem clrM_23 {s : Nat} {b : Int32} {n j : Nat} : (clrM ms s b n).2.1 23 j = if (6 * s ≤ j ∧ j < 6 * s + 6) ∧ mtN ms b n j = true then 0 else ms.2.1 23 j := by unfold clrM; rw [rW_i, if_pos rfl]
theorem notM_k {t : Nat} {b l pl v : Int32} {k j : Nat} (h : j ≠ t ∨ k < 19 ∨ 24 < k) : (notM ms t b l pl v).2.1 k j = ms.2.1 k j := by
  unfold notM
  rcases h with h | h
  · rw [aS_j h, aS_j h, aS_j h, aS_j h, aS_j h, aS_j h]; rfl
  · rw [aS_k (by omega), aS_k (by omega), aS_k (by omega), aS_k (by omega), aS_k (by omega), aS_k (by omega)]; rfl
theorem notM_t {t : Nat} {b l pl v : Int32} : nMv (notM ms t b l pl v) t = ((b, l, pl, v, ms.1 1 + 60), ms.1 25 + 1) := by
  unfold nMv notM
  rw [aS_s, aS_k (by decide), aS_k (by decide), aS_k (by decide), aS_k (by decide), aS_k (by decide), aS_s, aS_k (by decide), aS_k (by decide), aS_k (by decide), aS_k (by decide), aS_s, aS_k (by decide), aS_k (by decide), aS_k (by decide), aS_s, aS_k (by decide), aS_k (by decide), aS_s, aS_k (by decide), aS_s]
theorem a_make (P : Rep fx σ x G ms) {s t : Nat} (hs : s < 8) (hp : ¬ ms.2.1 14 s = -1) (O : ON ms s) (hL : ∀ k, k < 48 → Ln (ms.2.1 20 k)) (ht : ms.1 1 = nI t) (ht2 : t ≤ 1000000) {a1 p1 mm : Nat} {b pl v v' : Int32} (ha : nOk σ a1) (hp1 : h_rv σ a1 0 = some p1) (hP1 : hP σ p1 b mm) (hv1 : h_iv σ a1 1 = pl) (hv2 : h_iv σ a1 2 = v) (hv3 : h_iv σ a1 3 = ms.1 1 + 60) (hvv : v = v' ∨ (fx = false ∧ pl = -1)) :
    ∃ σ', f_X2_make σ (some (G 5 s)) (some a1) (ms.1 1) = some ((), σ') ∧ Rep fx σ' x G (mnM ms s b (nI mm) pl v') ∧ Kq x 0 0 σ σ' ∧ Sm σ σ' a1 := by
  have I := P.si hs hp
  obtain ⟨C, K, L, h1, h2, h3⟩ := I.ct
  obtain ⟨σ', r1, W, K'⟩ := c_make K I.n56 (ms.1 1) ha hp1 hP1
  obtain ⟨O1, M, M1, M2, M3⟩ := O
  have hmm : mm ≤ 32 := hP1.2.2.2.1
  have hq1 : nV σ a1 = (b, nI mm, pl, v, ms.1 1 + 60) := by
    unfold nV
    rw [hp1, hv1, hv2, hv3]
    show (h_iv σ p1 0, h_iv σ p1 1, _) = _
    rw [hP1.2.1, hP1.2.2.1]
  have h60 : ms.1 1 < ms.1 1 + 60 := by
    rw [ht, show nI t + 60 = nI (t + 60) from nI_add t 60]
    exact nI_lt (by omega) (by omega)
  have h0 : ¬ ms.1 1 < 0 := by rw [ht]; exact nI_pos (by omega)
  -- the reference: those that meet it go
  have hmt : ∀ k, 6 * s ≤ k → k < 6 * s + 6 → mtN ms b mm k = nMt b mm (nMv ms k).1 := fun k _ hk => mtN_nMt hmm (hL k (by omega))
  have l1 : ∀ k, 6 * s ≤ k → k < 6 * s + 6 → liveN (clrM ms s b mm) k = (!nMt b mm (nMv ms k).1 && liveN ms k) := by
    intro k g1 g2
    unfold liveN
    rw [clrM_23, clrM_1, hmt k g1 g2]
    cases nMt b mm (nMv ms k).1 with
    | false => rw [if_neg (fun z => by cases z.2)]; rfl
    | true => rw [if_pos ⟨⟨g1, g2⟩, rfl⟩, decide_eq_false h0]; rfl
  have v1 : ∀ k, 6 * s ≤ k → k < 6 * s + 6 → liveN (clrM ms s b mm) k = true → nMv (clrM ms s b mm) k = nMv ms k := by
    intro k g1 g2 g3
    rw [l1 k g1 g2] at g3
    obtain ⟨g4, g5⟩ := (Bool.and_eq_true _ _).mp g3
    have e23 : (clrM ms s b mm).2.1 23 k = ms.2.1 23 k := by
      rw [clrM_23, hmt k g1 g2, if_neg (fun z => by rw [z.2] at g4; cases g4)]
    unfold nMv
    rw [clrM_k (k := 19) (by decide), clrM_k (k := 20) (by decide), clrM_k (k := 21) (by decide), clrM_k (k := 22) (by decide), e23, clrM_k (k := 24) (by decide)]
  have hR1 : (lvI (clrM ms s b mm) s).map (nMv (clrM ms s b mm)) = ((lvI ms s).map (nMv ms)).filter (fun r => !nMt b mm r.1) := by
    rw [List.filter_map, show (fun r : N5 × Int32 => !nMt b mm r.1) ∘ nMv ms = fun k => !nMt b mm (nMv ms k).1 from rfl]
    have hix : lvI (clrM ms s b mm) s = (lvI ms s).filter (fun k => !nMt b mm (nMv ms k).1) := by
      unfold lvI
      rw [List.filter_filter]
      exact List.filter_congr (fun k hk => by rw [List.mem_range'_1] at hk; exact l1 k hk.1 hk.2)
    rw [← hix]
    exact List.map_congr_left (fun k hk => by
      obtain ⟨g1, g2⟩ := lvI_mem.mp hk
      exact v1 k g1.1 g1.2 g2)
  have nRm : ∀ q r, nR fx q r → (!nMt b mm q) = (!nMt b mm r) := fun q r h => by unfold nMt; rw [h.1, h.2.1]
  have L1p : (L.filter (fun r => !nMt b mm r.1)).Perm ((lvI (clrM ms s b mm) s).map (nMv (clrM ms s b mm))) := by rw [hR1]; exact h1.filter _
  have L1w : (L.filter (fun r => !nMt b mm r.1)).Pairwise (fun a b => a.2 < b.2) := h2.filter _
  have L1f : fa2 (fun q r => nR fx q r.1) (((C.map (nV σ)).filter (nP (ms.1 1))).filter (fun q => !nMt b mm q)) (L.filter (fun r => !nMt b mm r.1)) := fa2_filter (P := fun q => !nMt b mm q) (P' := fun r : N5 × Int32 => !nMt b mm r.1) (fun a b hab => nRm a b.1 hab) _ _ h3
  generalize hL1 : L.filter (fun r => !nMt b mm r.1) = L1 at L1p L1w L1f
  -- the object: those that meet it go
  have hcl : (C.filter (fun a => keepM b mm (ms.1 1) (nV σ a))).map (nV σ) = ((C.map (nV σ)).filter (nP (ms.1 1))).filter (fun q => !nMt b mm q) := by
    rw [map_filt, List.filter_filter]
    refine List.filter_congr (fun q _ => ?_)
    unfold keepM
    cases nP (ms.1 1) q <;> cases nMt b mm q <;> rfl
  rw [← hcl] at L1f
  have hlv1 : ∀ q, q ∈ (C.filter (fun a => keepM b mm (ms.1 1) (nV σ a))).map (nV σ) → nP (ms.1 1) q = true := by
    intro q hq
    obtain ⟨a, g1, rfl⟩ := List.mem_map.mp hq
    exact ((Bool.and_eq_true _ _).mp (List.mem_filter.mp g1).2).1
  have hokC : ∀ a, a ∈ C → nV σ' a = nV σ a := fun a g => (W.ok K.1 K.2.2.1 (K.2.2.2.2.2.2.2 a g)).2
  have hsub : ∀ a, a ∈ C.filter (fun a => keepM b mm (ms.1 1) (nV σ a)) → a ∈ C := fun a g => (List.mem_filter.mp g).1
  have hlen : (C.filter (fun a => keepM b mm (ms.1 1) (nV σ a))).length = (lvI (clrM ms s b mm) s).length := by
    have e1 := fa2_len _ _ L1f
    have e2 := L1p.length_eq
    rw [List.length_map] at e1 e2
    omega
  generalize hC1 : C.filter (fun a => keepM b mm (ms.1 1) (nV σ a)) = C1 at L1f hlv1 hsub hlen K' hcl
  -- the place that it takes
  obtain ⟨t', p1', p2, p3⟩ := pk_all (clrM ms s b mm) s
  have hms : mnM ms s b (nI mm) pl v' = notM (clrM ms s b mm) t' b (nI mm) pl v' := by
    unfold mnM
    rw [ln_nI hmm, p1']
  have lv' : ∀ k, liveN (notM (clrM ms s b mm) t' b (nI mm) pl v') k = (if k = t' then true else liveN (clrM ms s b mm) k) := by
    intro k
    by_cases e : k = t'
    · rw [if_pos e, e]
      rw [live_nP, notM_t]
      exact decide_eq_true h60
    · rw [if_neg e]
      unfold liveN
      rw [notM_k (Or.inl e)]
      rfl
  have nd : (t' :: (lvI (clrM ms s b mm) s).erase t').Nodup := List.nodup_cons.mpr ⟨fun z => (List.Nodup.mem_erase_iff lvI_nd).mp z |>.1 rfl, List.Nodup.erase _ lvI_nd⟩
  have hperm : (lvI (notM (clrM ms s b mm) t' b (nI mm) pl v') s).Perm (t' :: (lvI (clrM ms s b mm) s).erase t') := by
    refine (List.perm_ext_iff_of_nodup lvI_nd nd).mpr (fun k => ?_)
    rw [lvI_mem, lv', List.mem_cons, List.Nodup.mem_erase_iff lvI_nd, lvI_mem]
    by_cases e : k = t'
    · rw [if_pos e]; exact ⟨fun _ => Or.inl e, fun _ => ⟨by rw [e]; exact p2, rfl⟩⟩
    · rw [if_neg e]; exact ⟨fun z => Or.inr ⟨e, z⟩, fun z => (z.resolve_left e).2⟩
  have hmap : ((lvI (notM (clrM ms s b mm) t' b (nI mm) pl v') s).map (nMv (notM (clrM ms s b mm) t' b (nI mm) pl v'))).Perm (((b, nI mm, pl, v', ms.1 1 + 60), ms.1 25 + 1) :: ((lvI (clrM ms s b mm) s).erase t').map (nMv (clrM ms s b mm))) := by
    refine (hperm.map _).trans ?_
    rw [List.map_cons, notM_t]
    refine List.Perm.cons _ ?_
    have : ((lvI (clrM ms s b mm) s).erase t').map (nMv (notM (clrM ms s b mm) t' b (nI mm) pl v')) = ((lvI (clrM ms s b mm) s).erase t').map (nMv (clrM ms s b mm)) := List.map_congr_left (fun k hk => by
      have e : k ≠ t' := ((List.Nodup.mem_erase_iff lvI_nd).mp hk).1
      unfold nMv
      rw [notM_k (Or.inl e), notM_k (Or.inl e), notM_k (Or.inl e), notM_k (Or.inl e), notM_k (Or.inl e), notM_k (Or.inl e)])
    rw [this]
  have hlast : ∀ r, r ∈ L1 → r.2 < ms.1 25 + 1 := by
    intro r hr
    obtain ⟨k, k1, rfl⟩ := List.mem_map.mp (L1p.mem_iff.mp hr)
    obtain ⟨k2, k3⟩ := lvI_mem.mp k1
    have k4 := k3
    rw [l1 k k2.1 k2.2] at k4
    obtain ⟨m, m1, m2⟩ := M3 k k2.1 k2.2 ((Bool.and_eq_true _ _).mp k4).2
    rw [v1 k k2.1 k2.2 k3, M2]
    show ms.2.1 24 k < nI M + 1
    rw [m2, nI_c1]
    exact nI_lt (by omega) (by omega)
  -- what stays behind, when there are six
  have key : ∃ X Y, X.Perm (((lvI (clrM ms s b mm) s).erase t').map (nMv (clrM ms s b mm))) ∧ X.Pairwise (fun a b => a.2 < b.2) ∧ (∀ r, r ∈ X → r ∈ L1) ∧ fa2 (fun q r => nR fx q r.1) (Y.map (nV σ)) X ∧ (∀ a, a ∈ Y → a ∈ C1) ∧ app C1 a1 = Y ++ [a1] := by
    by_cases hin : t' ∈ lvI (clrM ms s b mm) s
    · -- all six are there
      have hall : ∀ k, 6 * s ≤ k → k < 6 * s + 6 → liveN (clrM ms s b mm) k = true := by
        intro k g1 g2
        cases hl : liveN (clrM ms s b mm) k with
        | true => rfl
        | false =>
          have e1 : efN (clrM ms s b mm) k = 0 := if_pos (Int32.not_lt.mp (of_decide_eq_false hl))
          have e2 : liveN (clrM ms s b mm) t' = true := (lvI_mem.mp hin).2
          have e3 : efN (clrM ms s b mm) t' = (clrM ms s b mm).2.1 23 t' := if_neg (Int32.not_le.mpr (of_decide_eq_true e2))
          have e4 : ms.1 1 < (clrM ms s b mm).2.1 23 t' := of_decide_eq_true e2
          have hb := p3 k g1 g2
          have : beN (clrM ms s b mm) k t' = true := beN_iff.mpr (Or.inl (by
            rw [e1, e3, Int32.toInt_zero]
            rw [Int32.lt_iff_toInt_lt] at e4 h0
            rw [Int32.toInt_zero] at h0
            omega))
          rw [hb] at this
          cases this
      have hl6 : (lvI (clrM ms s b mm) s).length = 6 := by
        have : lvI (clrM ms s b mm) s = List.range' (6 * s) 6 := List.filter_eq_self.mpr (fun k hk => by rw [List.mem_range'_1] at hk; exact hall k hk.1 hk.2)
        rw [this, List.length_range']
      cases hX : L1 with
      | nil =>
        have := L1p.length_eq
        rw [hX, List.length_map, hl6] at this
        cases this
      | cons h Lt =>
        rw [hX] at L1p L1w L1f
        have hh : h = nMv (clrM ms s b mm) t' := by
          obtain ⟨kh, q1, q2⟩ := List.mem_map.mp (L1p.mem_iff.mp List.mem_cons_self)
          obtain ⟨q3, q4⟩ := lvI_mem.mp q1
          have ht' : nMv (clrM ms s b mm) t' ∈ h :: Lt := L1p.mem_iff.mpr (List.mem_map.mpr ⟨t', hin, rfl⟩)
          rcases List.mem_cons.mp ht' with e | e
          · exact e.symm
          · exfalso
            have hlt := (List.pairwise_cons.mp L1w).1 _ e
            rw [← q2] at hlt
            have l4 : (clrM ms s b mm).2.1 24 kh < (clrM ms s b mm).2.1 24 t' := hlt
            have lt' := (lvI_mem.mp hin).2
            have o1 : (clrM ms s b mm).2.1 23 kh ≤ (clrM ms s b mm).2.1 23 t' := by
              have a1' := v1 kh q3.1 q3.2 q4
              have a2' := v1 t' p2.1 p2.2 lt'
              have b1 : (clrM ms s b mm).2.1 23 kh = ms.2.1 23 kh := congrArg (fun r => r.1.2.2.2.2) a1'
              have b2 : (clrM ms s b mm).2.1 23 t' = ms.2.1 23 t' := congrArg (fun r => r.1.2.2.2.2) a2'
              have c1 := q4
              have c2 := lt'
              rw [l1 kh q3.1 q3.2] at c1
              rw [l1 t' p2.1 p2.2] at c2
              rw [b1, b2]
              rw [clrM_k (by decide), clrM_k (by decide)] at l4
              exact O1 kh t' q3.1 q3.2 p2.1 p2.2 ((Bool.and_eq_true _ _).mp c1).2 ((Bool.and_eq_true _ _).mp c2).2 l4
            have hb := p3 kh q3.1 q3.2
            have d1 : ms.1 1 < (clrM ms s b mm).2.1 23 kh := of_decide_eq_true q4
            have d2 : ms.1 1 < (clrM ms s b mm).2.1 23 t' := of_decide_eq_true lt'
            have f1 : efN (clrM ms s b mm) kh = (clrM ms s b mm).2.1 23 kh := if_neg (Int32.not_le.mpr d1)
            have f2 : efN (clrM ms s b mm) t' = (clrM ms s b mm).2.1 23 t' := if_neg (Int32.not_le.mpr d2)
            have : beN (clrM ms s b mm) kh t' = true := beN_iff.mpr (by
              rw [f1, f2]
              rw [Int32.lt_iff_toInt_lt] at d1 d2 l4 h0
              rw [Int32.le_iff_toInt_le] at o1
              rw [Int32.toInt_zero] at h0
              omega)
            rw [hb] at this
            cases this
        have hc6 : 6 ≤ C1.length := by omega
        refine ⟨Lt, C1.tail, ?_, (List.pairwise_cons.mp L1w).2, fun r hr => List.mem_cons_of_mem _ hr, ?_, fun a ha => List.mem_of_mem_tail ha, ?_⟩
        · have e1 := L1p.trans ((List.perm_cons_erase hin).map (nMv (clrM ms s b mm)))
          rw [List.map_cons, hh] at e1
          exact e1.cons_inv
        · have := fa2_tail _ _ L1f
          rw [List.map_tail]
          exact this
        · unfold app
          rw [if_pos hc6, List.eraseIdx_zero]
    · have hl5 : (lvI (clrM ms s b mm) s).length ≤ 5 := by
        have hlt : (lvI (clrM ms s b mm) s).length < (List.range' (6 * s) 6).length := List.length_filter_lt_length_iff_exists.mpr ⟨t', by rw [List.mem_range'_1]; exact p2, fun z => hin (lvI_mem.mpr ⟨p2, z⟩)⟩
        rw [List.length_range'] at hlt
        omega
      refine ⟨L1, C1, ?_, L1w, fun _ h => h, L1f, fun _ h => h, ?_⟩
      · rw [List.erase_of_not_mem hin]
        exact L1p
      · unfold app
        rw [if_neg (by omega)]
  obtain ⟨X, Y, x1, x2, x3, x4, x5, x6⟩ := key
  have hq1' : nV σ' a1 = (b, nI mm, pl, v, ms.1 1 + 60) := by rw [(W.ok K.1 K.2.2.1 ha).2, hq1]
  have hclY : ((app C1 a1).map (nV σ')).filter (nP (ms.1 1)) = Y.map (nV σ) ++ [(b, nI mm, pl, v, ms.1 1 + 60)] := by
    rw [x6, List.map_append, List.map_cons, List.map_nil, hq1']
    have e1 : Y.map (nV σ') = Y.map (nV σ) := List.map_congr_left (fun a ha => hokC a (hsub a (x5 a ha)))
    rw [e1, List.filter_append]
    have e2 : (Y.map (nV σ)).filter (nP (ms.1 1)) = Y.map (nV σ) := List.filter_eq_self.mpr (fun q hq => by
      obtain ⟨a, g1, rfl⟩ := List.mem_map.mp hq
      exact hlv1 _ (List.mem_map.mpr ⟨a, x5 a g1, rfl⟩))
    rw [e2, List.filter_cons_of_pos (show nP (ms.1 1) (b, nI mm, pl, v, ms.1 1 + 60) = true from decide_eq_true h60), List.filter_nil]
  have hNt : NtR fx (((app C1 a1).map (nV σ')).filter (nP (ms.1 1))) ((lvI (notM (clrM ms s b mm) t' b (nI mm) pl v') s).map (nMv (notM (clrM ms s b mm) t' b (nI mm) pl v'))) := by
    rw [hclY]
    refine ⟨X ++ [((b, nI mm, pl, v', ms.1 1 + 60), ms.1 25 + 1)], ?_, ?_, fa2_app ?_ _ _ x4⟩
    · exact (List.perm_append_singleton _ _).trans ((List.Perm.cons _ x1).trans hmap.symm)
    · refine List.pairwise_append.mpr ⟨x2, List.pairwise_singleton _ _, fun r hr q hq => ?_⟩
      rw [List.mem_singleton.mp hq]
      exact hlast r (x3 r hr)
    · exact ⟨rfl, rfl, rfl, rfl, hvv⟩
  have ek : ∀ k j, k < 19 ∨ 24 < k → (notM (clrM ms s b mm) t' b (nI mm) pl v').2.1 k j = ms.2.1 k j := fun k j h => by rw [notM_k (Or.inr h), clrM_k (by omega)]
  have I' : SiR fx σ' G (notM (clrM ms s b mm) t' b (nI mm) pl v') s := I.of_ct W K' hNt (ek _ _ (by omega)) (ek _ _ (by omega)) (ek _ _ (by omega)) (fun _ _ => ek _ _ (by omega)) (fun _ _ => ek _ _ (by omega))
  have hsm : ∀ b, b ≠ G 5 s → b ≠ G 6 s → Sm σ σ' b := W.1
  have e1' : ∀ k, k ≠ 25 → (notM (clrM ms s b mm) t' b (nI mm) pl v').1 k = ms.1 k := fun k h => by
    show (k_pI (clrM ms s b mm) 25 _).1 k = _
    rw [pI_n1 h]
    rfl
  refine ⟨σ', r1, ?_, Kq_si P hs hp W.z4 (fun b _ _ g5 g6 _ => hsm b g5 g6), hsm a1 (fun z => ?_) (fun z => ?_)⟩
  · rw [hms]
    exact Rep_one P hs hp (Zx_NW W P.1) (fun b _ _ g5 g6 _ => hsm b g5 g6) I' (by rw [ek _ _ (by omega)]; exact hp) (fun k _ h => e1' k h) (fun k j h => ek k j (by omega)) rfl (fun t ht e => ⟨ek _ _ (by omega), ek _ _ (by omega), ek _ _ (by omega)⟩) (fun t k ht e hk => ⟨ek _ _ (by omega), ek _ _ (by omega)⟩) (fun u k j hu e g1 g2 g3 g4 => by
      rw [notM_k (Or.inl (by omega))]
      by_cases e23 : k = 23
      · rw [e23, clrM_23, if_neg (fun z => by omega)]
      · exact clrM_k e23)
  · have := ha.1
    rw [z, K.1] at this
    omega
  · have := ha.1
    rw [z, K.2.2.1] at this
    omega
end NT6
