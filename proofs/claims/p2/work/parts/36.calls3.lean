/-! THE REFERENCE'S CALLS, over numbers: prefix, register, truth, count -/
theorem d4 {i : Nat} (h : i < 32) : nI i / 4 = nI (i / 4) := (show ∀ i, i < 32 → nI i / 4 = nI (i / 4) by decide +kernel) i h
theorem r4 {i : Nat} (h : i < 32) : nI i - nI i / 4 * 4 = nI (i % 4) := (show ∀ i, i < 32 → nI i - nI i / 4 * 4 = nI (i % 4) by decide +kernel) i h
/-- some site has the very same prefix -/
def dupP (ms : MS) (b l : Int32) (k : Nat) : Bool := decide (nI (k % 4) < ms.2.1 15 (k / 4)) && (decide (ms.2.1 16 k = b) && decide (ms.2.1 17 k = l))
theorem pg_prefix (ms : MS) (s b l : Int32) (h0 : ms.1 0 = 0) : ∀ (c n i : Nat), i + c = 32 → c + 1 < n → pg_X10_prefix_48 n ms s b l (nI i) = (match ff (dupP ms b l) i c with
    | none => pj_X10_prefix_111 ms s b l
    | some _ => some (0, noM ms)) := by
  intro c
  induction c with
  | zero =>
    intro n i h1 h2
    obtain ⟨m, rfl⟩ : ∃ m, n = m + 1 := ⟨n - 1, by omega⟩
    rw [pg_X10_prefix_48, show i = 32 by omega, show (32 : Int32) = nI 32 from rfl, if_pos (Int32.le_refl _)]
    rfl
  | succ c ih =>
    intro n i h1 h2
    obtain ⟨m, rfl⟩ : ∃ m, n = m + 1 := ⟨n - 1, by omega⟩
    rw [pg_X10_prefix_48, if_neg (show ¬ (32 : Int32) ≤ nI i from nI_ge (b := 32) (by omega) (by omega)), if_pos h0, d4 (by omega), k_aI_nI (show i / 4 < k_len 15 by show _ < 8; omega), h_b1_s, ← d4 (show i < 32 by omega), r4 (by omega), nI_1]
    have hi := ih m (i + 1) (by omega) (by omega)
    unfold ff dupP
    by_cases h3 : ms.2.1 15 (i / 4) ≤ nI (i % 4)
    · rw [if_pos h3, decide_eq_false (Int32.not_lt.mpr h3), hi]; rfl
    · rw [if_neg h3, decide_eq_true (Int32.not_le.mp h3), k_aI_nI (show i < k_len 16 by show _ < 32; omega), h_b1_s]
      by_cases h4 : ms.2.1 16 i = b
      · rw [if_pos h4, k_aI_nI (show i < k_len 17 by show _ < 32; omega), h_b1_s, decide_eq_true h4]
        by_cases h5 : ms.2.1 17 i = l
        · rw [if_pos h5, decide_eq_true h5]
          simp only [k_lt, Bool.and_self, if_true]
          obtain ⟨m', rfl⟩ : ∃ m', m = m' + 1 := ⟨m - 1, by omega⟩
          rw [pg_X10_prefix_48]
          have hj : pj_X10_prefix_111 (k_pI ms 0 1) s b l = some (0, noM ms) := by
            unfold pj_X10_prefix_111
            rw [pI_s1, if_neg (by decide)]; rfl
          by_cases h6 : 32 ≤ nI (i + 1)
          · rw [if_pos h6, hj]
          · rw [if_neg h6, pI_s1, if_neg (by decide), hj]
        · rw [if_neg h5, decide_eq_false h5, hi]; rfl
      · rw [if_neg h4, decide_eq_false h4, hi]; rfl
theorem pg_prefix1 (ms : MS) (s b l : Int32) (h0 : ms.1 0 = 1) : pg_X10_prefix_48 h_hN ms s b l 0 = some (0, ms) := by
  show pg_X10_prefix_48 (1999 + 1) ms s b l 0 = _
  rw [pg_X10_prefix_48, if_neg (by decide), h0, if_neg (by decide)]
  unfold pj_X10_prefix_111
  rw [h0, if_neg (by decide)]
def prfB (ms : MS) (s b l : Int32) : Bool := siteB ms s && (decide (ms.2.1 15 s.toNatClampNeg < 4) && (vpB b l && ((ownE ms b (ln l)).isSome && (ff (dupP ms b l) 0 32).isNone)))
def prfM (ms : MS) (s c : Nat) (b l : Int32) : MS := aS (aS (aS (okM ms) 16 (4 * s + c) b) 17 (4 * s + c) l) 15 s (nI (c + 1))
set_option maxHeartbeats 2000000 in
theorem p_prefix_eq (ms : MS) (s b l : Int32) (hP : ∀ k, k < 8 → Ln (ms.2.1 5 k)) (hC : ∀ s, s < 8 → ∃ c : Nat, ms.2.1 15 s = nI c ∧ c ≤ 4) : p_X10_prefix ms s b l = some (if prfB ms s b l = true then (ms.2.1 15 s.toNatClampNeg, prfM ms s.toNatClampNeg (ms.2.1 15 s.toNatClampNeg).toNatClampNeg b l) else (0, noM ms)) := by
  unfold p_X10_prefix prfB
  rw [p_isSite_eq]
  simp only [k_bd_s]
  have hno : pg_X10_prefix_48 h_hN (k_pI ms 0 1) s b l 0 = some (0, noM ms) := pg_prefix1 _ _ _ _ pI_s1
  cases hs : siteB ms s
  · rw [if_pos (show b2i false = 0 from rfl)]
    simp only [k_lt]
    rw [hno]; rfl
  · obtain ⟨i, hi, rfl, -⟩ := siteB_nI hs
    obtain ⟨c, hc, hc4⟩ := hC i hi
    rw [if_neg (by decide), k_aI_nI (show i < k_len 15 from hi), h_b1_s, nI_clamp (by omega), hc]
    simp only [Bool.true_and]
    by_cases h4 : (4 : Int32) ≤ nI c
    · rw [if_pos h4, decide_eq_false (Int32.not_lt.mpr h4)]
      simp only [k_lt]
      rw [hno]; rfl
    · have hc3 : c < 4 := by
        by_cases h9 : c < 4
        · exact h9
        · exact absurd (nI_le (a := 4) (b := c) (by omega) (by omega)) h4
      rw [if_neg h4, decide_eq_true (Int32.not_le.mp h4), p_isPrefix_eq]
      simp only [k_bd_s, Bool.true_and]
      cases hv : vpB b l
      · rw [if_pos (show b2i false = 0 from rfl)]
        simp only [k_lt]
        rw [hno]; rfl
      · obtain ⟨n, hn, rfl, -⟩ := vpB_nI hv
        rw [if_neg (by decide), p_owner_eq ms b hn hP]
        simp only [k_bd_s, Bool.true_and]
        rw [ln_nI hn]
        cases ho : ownE ms b n with
        | none =>
          rw [if_pos o2i_n]
          simp only [k_lt]
          rw [hno]; rfl
        | some w =>
          have hw := ownE_lt ho
          rw [o2i_s, if_neg (nI_ne_m1 (by omega))]
          simp only [k_lt, Option.isSome_some, Bool.true_and]
          have := pg_prefix (k_pI ms 0 0) (nI i) b (nI n) pI_s1 32 h_hN 0 (by omega) (h_hN_lt (by omega))
          have e0 : pg_X10_prefix_48 h_hN (k_pI ms 0 0) (nI i) b (nI n) 0 = _ := this
          rw [e0]
          show (match ff (dupP ms b (nI n)) 0 32 with
            | none => _
            | some _ => _) = _
          cases hf : ff (dupP ms b (nI n)) 0 32 with
          | some k =>
            dsimp only
            simp only [Option.isNone_some, Bool.false_eq_true, if_false]
            congr 2
            unfold noM
            rw [pI_pI]
          | none =>
            dsimp only
            simp only [Option.isNone_none, if_true]
            unfold pj_X10_prefix_111
            rw [pI_s1, if_pos (by decide), k_aI_nI (show i < k_len 15 from hi), h_b1_s, show (k_pI ms 0 0).2.1 15 i = nI c from hc, nI_m4, nI_add, k_sI_n (show 4 * i + c < k_len 16 by show _ < 32; omega), h_b1_s, k_aI_nI (show i < k_len 15 from hi), h_b1_s, aS_k (by decide), show (k_pI ms 0 0).2.1 15 i = nI c from hc, nI_add, k_sI_n (show 4 * i + c < k_len 17 by show _ < 32; omega), h_b1_s, k_aI_nI (show i < k_len 15 from hi), h_b1_s, aS_k (by decide), aS_k (by decide), show (k_pI ms 0 0).2.1 15 i = nI c from hc, nI_c1, k_sI_n (show i < k_len 15 from hi), h_b1_s, k_aI_nI (show i < k_len 15 from hi), h_b1_s, aS_s]
            unfold prfM
            rw [nI_clamp (by omega), show (1 : Int32) = nI 1 from rfl, pk_sub (by omega), show c + 1 - 1 = c by omega]
            rfl
-- register
def stR (s : Nat) (i : Nat) (q : MS × Nat) : MS × Nat := match ownE q.1 (q.1.2.1 16 i) (ln (q.1.2.1 17 i)) with
  | none => q
  | some w => (postM (aS q.1 18 s (q.1.2.1 18 s + 1)) (q.1.1 36).toNatClampNeg (mG (nI s) (q.1.2.1 16 i) (q.1.2.1 17 i) (q.1.2.1 14 s) (q.1.2.1 18 s + 1) (tagF (nI s) (q.1.2.1 16 i) (q.1.2.1 17 i) (q.1.2.1 14 s) (q.1.2.1 18 s + 1)) 0 (nI w)), q.2 + 1)
def rgsM (ms : MS) (s : Nat) : MS × Nat := fo (stR s) (4 * s) (ms.2.1 15 s).toNatClampNeg (okM ms, 0)
theorem ownE_eq {ms ms' : MS} (h : ∀ k j, k < 7 → ms'.2.1 k j = ms.2.1 k j) (b : Int32) (n : Nat) : ownE ms' b n = ownE ms b n := by
  have e1 : ownS ms' b n = ownS ms b n := by
    funext i w
    unfold ownS
    rw [h 3 i (by omega), h 4 i (by omega), h 5 i (by omega), h 5 w (by omega)]
  have e2 : ownW ms' b n = ownW ms b n := by unfold ownW; rw [e1]
  have e3 : ∀ w, ownX ms' b n w = ownX ms b n w := by
    intro w
    funext i
    unfold ownX
    rw [h 3 i (by omega), h 4 i (by omega), h 5 i (by omega)]
  unfold ownE
  rw [e2, e3]
set_option maxHeartbeats 4000000 in
theorem p_register_eq (ms : MS) (s : Int32) {n : Nat} (hn : ms.1 36 = nI n) (h : n ≤ 200) (I : MI ms) : p_X10_register ms s = some (if siteB ms s = true then (nI (rgsM ms s.toNatClampNeg).2, (rgsM ms s.toNatClampNeg).1) else (0, noM ms)) := by
  obtain ⟨-, -, i1, i2, i3, i4, i5, i6, i7⟩ := I
  unfold p_X10_register
  rw [p_isSite_eq]
  simp only [k_bd_s]
  cases hs : siteB ms s
  · rw [if_pos (show b2i false = 0 from rfl)]
    unfold pj_X10_register_14
    simp only [k_lt, pI_s1]
    rw [if_neg (by decide)]; rfl
  · obtain ⟨i, hi, rfl, -⟩ := siteB_nI hs
    obtain ⟨c, hc, hc4⟩ := i5 i hi
    rw [if_neg (by decide), nI_clamp (by omega)]
    unfold pj_X10_register_14
    simp only [k_lt, pI_s1, if_true]
    rw [if_pos (by decide)]
    unfold rgsM
    rw [hc, nI_clamp (by omega), nI_m4]
    have key := lp_fold (S := MS × Nat) (fun m q k => pg_X10_register_32 m q.1 (nI i) (nI q.2) k) (4 * i + c) (stR i) (fun q => some (nI q.2, q.1)) (fun j q => q.2 ≤ j ∧ (∃ n, n ≤ 200 ∧ q.1.1 36 = nI n) ∧ ∀ k j, k ≠ 18 → k ≠ 37 → q.1.2.1 k j = ms.2.1 k j)
      (fun j q hj hq => by
        obtain ⟨q1, ⟨m, m1, m2⟩, q3⟩ := hq
        unfold stR
        split
        · exact ⟨by omega, ⟨m, m1, m2⟩, q3⟩
        · refine ⟨by show q.2 + 1 ≤ j + 1; omega, ⟨postN m, postN_le m1, ?_⟩, fun k j' h1 h2 => ?_⟩
          · rw [m2, nI_clamp (by omega)]
            exact postM_36 (by rw [aS_1]; exact m2)
          · show (postM _ _ _).2.1 k j' = _
            rw [postM_k h2, aS_k h1]; exact q3 k j' h1 h2)
      (fun m q hq => by
        show pg_X10_register_32 (m + 1) q.1 (nI i) (nI q.2) (nI (4 * i + c)) = _
        rw [pg_X10_register_32, k_aI_nI (show i < k_len 15 from hi), h_b1_s, hq.2.2 15 i (by decide) (by decide), hc, nI_m4, nI_add, if_pos (Int32.le_refl _)])
      (fun m j q hj hq => by
        obtain ⟨q1, ⟨n', m1, m2⟩, q3⟩ := hq
        show pg_X10_register_32 (m + 1) q.1 (nI i) (nI q.2) (nI j) = pg_X10_register_32 m (stR i j q).1 (nI i) (nI (stR i j q).2) (nI (j + 1))
        have hj32 : j < 32 := by omega
        have hlj : Ln (q.1.2.1 17 j) := by rw [q3 17 j (by decide) (by decide)]; exact i3 j hj32
        obtain ⟨el, hl32⟩ := Ln_nI hlj
        rw [pg_X10_register_32, k_aI_nI (show i < k_len 15 from hi), h_b1_s, q3 15 i (by decide) (by decide), hc, nI_m4, nI_add, if_neg (nI_ge hj (by omega)), k_aI_nI (show j < k_len 16 from hj32), h_b1_s, k_aI_nI (show j < k_len 17 from hj32), h_b1_s, nI_1, nI_1]
        have ho : p_X10_owner q.1 (q.1.2.1 16 j) (q.1.2.1 17 j) = some (o2i (ownE q.1 (q.1.2.1 16 j) (ln (q.1.2.1 17 j))), q.1) := by
          have := p_owner_eq q.1 (q.1.2.1 16 j) hl32 (fun k hk => by rw [q3 5 k (by decide) (by decide)]; exact i1 k hk)
          rw [← el] at this
          exact this
        rw [ho]
        simp only [k_bd_s]
        unfold stR
        cases hw : ownE q.1 (q.1.2.1 16 j) (ln (q.1.2.1 17 j)) with
        | none => rw [if_pos o2i_n]
        | some w =>
          have hw8 := ownE_lt hw
          rw [o2i_s, if_neg (nI_ne_m1 (by omega)), k_aI_nI (show i < k_len 18 from hi), h_b1_s, k_sI_n (show i < k_len 18 from hi), h_b1_s, k_aI_nI (show j < k_len 16 from hj32), h_b1_s, k_aI_nI (show j < k_len 17 from hj32), h_b1_s, k_aI_nI (show i < k_len 14 from hi), h_b1_s, k_aI_nI (show i < k_len 18 from hi), h_b1_s]
          have hn2 : (aS q.1 18 i (q.1.2.1 18 i + 1)).1 36 = nI n' := by rw [aS_1]; exact m2
          rw [p_post_eq _ _ _ _ _ _ _ _ hn2 m1]
          simp only [k_bd_s]
          rw [k_aI_nI (show j < k_len 16 from hj32), h_b1_s, k_aI_nI (show j < k_len 17 from hj32), h_b1_s, k_aI_nI (show i < k_len 14 from hi), h_b1_s, k_aI_nI (show i < k_len 18 from hi), h_b1_s, postM_k (by decide), postM_k (by decide), postM_k (by decide), postM_k (by decide), aS_s, aS_k (by decide), aS_k (by decide), aS_k (by decide)]
          rw [m2, nI_clamp (by omega)]
          generalize htg : tagF (nI i) (q.1.2.1 16 j) (q.1.2.1 17 j) (q.1.2.1 14 i) (q.1.2.1 18 i + 1) = tg
          have ht : ∀ r : MS, p_X10_tag r (nI i) (q.1.2.1 16 j) (q.1.2.1 17 j) (q.1.2.1 14 i) (q.1.2.1 18 i + 1) = some (tg, r) := by
            intro r
            rw [← htg]
            exact p_tag_eq _ _ _ _ _ _
          rw [ht, k_bd_s, hn2, p_last_eq _ m1 hn2, k_bd_s])
      c h_hN (4 * i) (okM ms, 0) ⟨Nat.zero_le _, ⟨n, h, hn⟩, fun _ _ _ _ => rfl⟩ rfl (h_hN_lt (by omega))
    exact key
-- truth
def trS (ms : MS) (ep : Int32) (i : Nat) (q : Int32 × Int32) : Int32 × Int32 := match bestE ms ep i with
  | none => q
  | some k => if q.2 < ms.2.1 8 k then (ms.2.1 9 k, ms.2.1 8 k) else q
theorem p_truth_eq (ms : MS) (ep : Int32) (hL : ∀ k, k < 128 → Ln (ms.2.1 8 k)) : p_X10_truth ms ep = some ((fo (trS ms ep) 0 8 (-1, -1)).1, okM ms) := by
  unfold p_X10_truth
  simp only [k_lt]
  have key := lp_fold (S := Int32 × Int32) (fun m q k => pg_X10_truth_12 m (okM ms) ep q.1 q.2 k) 8 (trS ms ep) (fun q => some (q.1, okM ms)) (fun _ _ => True) (fun _ _ _ _ => trivial)
    (fun m q _ => by
      show pg_X10_truth_12 (m + 1) (okM ms) ep q.1 q.2 (nI 8) = _
      rw [pg_X10_truth_12, show (8 : Int32) = nI 8 from rfl, if_pos (Int32.le_refl _)])
    (fun m i q hi _ => by
      show pg_X10_truth_12 (m + 1) (okM ms) ep q.1 q.2 (nI i) = pg_X10_truth_12 m (okM ms) ep (trS ms ep i q).1 (trS ms ep i q).2 (nI (i + 1))
      rw [pg_X10_truth_12, if_neg (show ¬ (8 : Int32) ≤ nI i from nI_ge (b := 8) hi (by omega)), p_best_eq (okM ms) ep hi hL, nI_1]
      simp only [k_bd_s]
      have e : bestE (okM ms) ep i = bestE ms ep i := rfl
      rw [e]
      unfold trS
      cases hb : bestE ms ep i with
      | none => rw [if_pos o2i_n]
      | some k =>
        have hk := bestE_lt hi hL hb
        rw [o2i_s, if_neg (nI_ne_m1 (by omega)), k_aI_nI (show k < k_len 8 from hk), k_aI_nI (show k < k_len 9 from hk)]
        simp only [h_b1_s]
        by_cases h : q.2 < ms.2.1 8 k
        · rw [if_pos (show q.2 < (okM ms).2.1 8 k from h), if_pos h]; rfl
        · rw [if_neg (show ¬ q.2 < (okM ms).2.1 8 k from h), if_neg h])
    8 h_hN 0 (-1, -1) trivial rfl (h_hN_lt (by omega))
  have key2 : pg_X10_truth_12 h_hN (okM ms) ep (-1) (-1) (nI 0) = some ((fo (trS ms ep) 0 8 (-1, -1)).1, okM ms) := key
  have key3 : pg_X10_truth_12 h_hN (okM ms) ep (-1) (-1) 0 = some ((fo (trS ms ep) 0 8 (-1, -1)).1, okM ms) := key2
  rw [show k_pI ms 0 0 = okM ms from rfl]
  exact key3
-- count
def cnt (P : Nat → Bool) : Nat → Nat → Nat
  | _, 0 => 0
  | i, c + 1 => (if P i = true then 1 else 0) + cnt P (i + 1) c
theorem fo_cnt (P : Nat → Bool) : ∀ (c i a : Nat), fo (fun i a => if P i = true then a + 1 else a) i c a = a + cnt P i c
  | 0, i, a => rfl
  | c + 1, i, a => by
    show fo _ (i + 1) c (if P i = true then a + 1 else a) = _
    rw [fo_cnt P c (i + 1)]
    show _ = a + ((if P i = true then 1 else 0) + cnt P (i + 1) c)
    split <;> omega
def cntV (ms : MS) (w : Int32) : Int32 := if w = 0 then ms.1 36 else if w = 1 then ms.1 39 else if w = 2 then ms.1 40 else if w = 3 then ms.1 41 else if w = 4 then ms.1 42 else if w = 5 then ms.1 28 else if w = 6 then ms.1 1 else if w = 7 then nI (cnt (liveE ms) 0 128) else if w = 8 then nI (cnt (liveN ms) 0 48) else -1
theorem p_count_eq (ms : MS) (w : Int32) : p_X10_count ms w = some (cntV ms w, okM ms) := by
  have k7 : pg_X10_count_97 h_hN (okM ms) 0 0 = some (nI (cnt (liveE ms) 0 128), okM ms) := by
    have key := lp_fold (S := Nat) (fun m a k => pg_X10_count_97 m (okM ms) (nI a) k) 128 (fun i a => if liveE ms i = true then a + 1 else a) (fun a => some (nI a, okM ms)) (fun _ _ => True) (fun _ _ _ _ => trivial)
      (fun m a _ => by
        show pg_X10_count_97 (m + 1) (okM ms) (nI a) (nI 128) = _
        rw [pg_X10_count_97, show (128 : Int32) = nI 128 from rfl, if_pos (Int32.le_refl _)])
      (fun m i a hi _ => by
        show pg_X10_count_97 (m + 1) (okM ms) (nI a) (nI i) = pg_X10_count_97 m (okM ms) (nI (if liveE ms i = true then a + 1 else a)) (nI (i + 1))
        rw [pg_X10_count_97, if_neg (show ¬ (128 : Int32) ≤ nI i from nI_ge (b := 128) hi (by omega)), k_aI_nI (show i < k_len 12 from hi), h_b1_s, nI_1, nI_1]
        unfold liveE
        by_cases h : ms.2.1 12 i ≤ ms.1 1
        · rw [if_pos (show (okM ms).2.1 12 i ≤ (okM ms).1 1 from h), decide_eq_false (Int32.not_lt.mpr h), show nI a + 0 = nI a from nI_add a 0]; rfl
        · rw [if_neg (show ¬ (okM ms).2.1 12 i ≤ (okM ms).1 1 from h), decide_eq_true (Int32.not_le.mp h)]; rfl)
      128 h_hN 0 0 trivial rfl (h_hN_lt (by omega))
    have key' : pg_X10_count_97 h_hN (okM ms) 0 0 = _ := key
    rw [key', fo_cnt, Nat.zero_add]
  have k8 : pg_X10_count_135 h_hN (okM ms) 0 0 = some (nI (cnt (liveN ms) 0 48), okM ms) := by
    have key := lp_fold (S := Nat) (fun m a k => pg_X10_count_135 m (okM ms) (nI a) k) 48 (fun i a => if liveN ms i = true then a + 1 else a) (fun a => some (nI a, okM ms)) (fun _ _ => True) (fun _ _ _ _ => trivial)
      (fun m a _ => by
        show pg_X10_count_135 (m + 1) (okM ms) (nI a) (nI 48) = _
        rw [pg_X10_count_135, show (48 : Int32) = nI 48 from rfl, if_pos (Int32.le_refl _)])
      (fun m i a hi _ => by
        show pg_X10_count_135 (m + 1) (okM ms) (nI a) (nI i) = pg_X10_count_135 m (okM ms) (nI (if liveN ms i = true then a + 1 else a)) (nI (i + 1))
        rw [pg_X10_count_135, if_neg (show ¬ (48 : Int32) ≤ nI i from nI_ge (b := 48) hi (by omega)), k_aI_nI (show i < k_len 23 from hi), h_b1_s, nI_1, nI_1]
        unfold liveN
        by_cases h : ms.2.1 23 i ≤ ms.1 1
        · rw [if_pos (show (okM ms).2.1 23 i ≤ (okM ms).1 1 from h), decide_eq_false (Int32.not_lt.mpr h), show nI a + 0 = nI a from nI_add a 0]; rfl
        · rw [if_neg (show ¬ (okM ms).2.1 23 i ≤ (okM ms).1 1 from h), decide_eq_true (Int32.not_le.mp h)]; rfl)
      48 h_hN 0 0 trivial rfl (h_hN_lt (by omega))
    have key' : pg_X10_count_135 h_hN (okM ms) 0 0 = _ := key
    rw [key', fo_cnt, Nat.zero_add]
  unfold p_X10_count cntV
  simp only [k_lt]
  by_cases w0 : w = 0
  · rw [if_pos w0, if_pos w0]; rfl
  rw [if_neg w0, if_neg w0]
  by_cases w1 : w = 1
  · rw [if_pos w1, if_pos w1]; rfl
  rw [if_neg w1, if_neg w1]
  by_cases w2 : w = 2
  · rw [if_pos w2, if_pos w2]; rfl
  rw [if_neg w2, if_neg w2]
  by_cases w3 : w = 3
  · rw [if_pos w3, if_pos w3]; rfl
  rw [if_neg w3, if_neg w3]
  by_cases w4 : w = 4
  · rw [if_pos w4, if_pos w4]; rfl
  rw [if_neg w4, if_neg w4]
  by_cases w5 : w = 5
  · rw [if_pos w5, if_pos w5]; rfl
  rw [if_neg w5, if_neg w5]
  by_cases w6 : w = 6
  · rw [if_pos w6, if_pos w6]; rfl
  rw [if_neg w6, if_neg w6]
  by_cases w7 : w = 7
  · rw [if_pos w7, if_pos w7]; exact k7
  rw [if_neg w7, if_neg w7]
  by_cases w8 : w = 8
  · rw [if_pos w8, if_pos w8]; exact k8
  rw [if_neg w8, if_neg w8]; rfl
