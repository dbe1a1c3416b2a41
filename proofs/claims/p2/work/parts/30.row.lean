/-! THE REFERENCE'S ROW OF MESSAGES: post, last, take, over numbers -/
def aS (ms : MS) (k j : Nat) (v : Int32) : MS := (ms.1, h_up2 ms.2.1 k j v, ms.2.2)
def rW (ms : MS) (k : Nat) (r : Nat → Int32) : MS := (ms.1, h_upA ms.2.1 k r, ms.2.2)
theorem k_sI_n {ms : MS} {k i : Nat} {v : Int32} (h : i < k_len k) : k_sI ms k (nI i) v = some (aS ms k i v) := k_sI_nI h
theorem aS_1 {ms : MS} {k j : Nat} {v : Int32} : (aS ms k j v).1 = ms.1 := rfl
theorem aS_2 {ms : MS} {k j : Nat} {v : Int32} : (aS ms k j v).2.2 = ms.2.2 := rfl
theorem aS_s {ms : MS} {k j : Nat} {v : Int32} : (aS ms k j v).2.1 k j = v := by show h_up2 _ _ _ _ _ _ = _; unfold h_up2; rw [if_pos ⟨rfl, rfl⟩]
theorem aS_k {ms : MS} {k j k' j' : Nat} {v : Int32} (h : k' ≠ k) : (aS ms k j v).2.1 k' j' = ms.2.1 k' j' := by show h_up2 _ _ _ _ _ _ = _; unfold h_up2; rw [if_neg (fun z => h z.1)]
theorem aS_j {ms : MS} {k j k' j' : Nat} {v : Int32} (h : j' ≠ j) : (aS ms k j v).2.1 k' j' = ms.2.1 k' j' := by show h_up2 _ _ _ _ _ _ = _; unfold h_up2; rw [if_neg (fun z => h z.2)]
theorem aS_i {ms : MS} {k j k' j' : Nat} {v : Int32} : (aS ms k j v).2.1 k' j' = if k' = k ∧ j' = j then v else ms.2.1 k' j' := rfl
theorem rW_i {ms : MS} {k : Nat} {r : Nat → Int32} {k' j' : Nat} : (rW ms k r).2.1 k' j' = if k' = k then r j' else ms.2.1 k' j' := rfl
theorem pI_i {ms : MS} {k k' : Nat} {v : Int32} : (k_pI ms k v).1 k' = if k' = k then v else ms.1 k' := rfl
theorem pI_s1 {ms : MS} {k : Nat} {v : Int32} : (k_pI ms k v).1 k = v := by rw [pI_i, if_pos rfl]
theorem pI_n1 {ms : MS} {k k' : Nat} {v : Int32} (h : k' ≠ k) : (k_pI ms k v).1 k' = ms.1 k' := by rw [pI_i, if_neg h]
theorem pI_2 {ms : MS} {k : Nat} {v : Int32} : (k_pI ms k v).2 = ms.2 := rfl
theorem nI_c1 (i : Nat) : nI i + 1 = nI (i + 1) := nI_add i 1
theorem nI_c2 (i : Nat) : nI i + 2 = nI (i + 2) := nI_add i 2
theorem nI_c3 (i : Nat) : nI i + 3 = nI (i + 3) := nI_add i 3
theorem nI_c4 (i : Nat) : nI i + 4 = nI (i + 4) := nI_add i 4
theorem nI_c5 (i : Nat) : nI i + 5 = nI (i + 5) := nI_add i 5
theorem nI_c6 (i : Nat) : nI i + 6 = nI (i + 6) := nI_add i 6
theorem nI_c7 (i : Nat) : nI i + 7 = nI (i + 7) := nI_add i 7
theorem nI_c8 (i : Nat) : nI i + 8 = nI (i + 8) := nI_add i 8
/-- the eight numbers of a message -/
def mG (a b c d e f kd to : Int32) (j : Nat) : Int32 := match j with
  | 0 => a
  | 1 => b
  | 2 => c
  | 3 => d
  | 4 => e
  | 5 => f
  | 6 => kd
  | _ => to
def postM (ms : MS) (n : Nat) (f : Nat → Int32) : MS := if n = 200 then k_pI ms 42 (ms.1 42 + 1) else k_pI (rW ms 37 (fun j => if j / 8 = n then f (j % 8) else ms.2.1 37 j)) 36 (nI (n + 1))
theorem up8 (F : Nat → Nat → Int32) (n : Nat) (f : Nat → Int32) : h_up2 (h_up2 (h_up2 (h_up2 (h_up2 (h_up2 (h_up2 (h_up2 F 37 (8 * n) (f 0)) 37 (8 * n + 1) (f 1)) 37 (8 * n + 2) (f 2)) 37 (8 * n + 3) (f 3)) 37 (8 * n + 4) (f 4)) 37 (8 * n + 5) (f 5)) 37 (8 * n + 6) (f 6)) 37 (8 * n + 7) (f 7) = h_upA F 37 (fun j => if j / 8 = n then f (j % 8) else F 37 j) := by
  funext k j
  unfold h_up2 h_upA
  by_cases hk : k = 37
  · subst hk
    rw [if_pos rfl]
    dsimp only
    by_cases h7 : j = 8 * n + 7
    · subst h7; rw [if_pos ⟨rfl, rfl⟩, if_pos (by omega), show (8 * n + 7) % 8 = 7 by omega]
    rw [if_neg (fun z => h7 z.2)]
    by_cases h6 : j = 8 * n + 6
    · subst h6; rw [if_pos ⟨rfl, rfl⟩, if_pos (by omega), show (8 * n + 6) % 8 = 6 by omega]
    rw [if_neg (fun z => h6 z.2)]
    by_cases h5 : j = 8 * n + 5
    · subst h5; rw [if_pos ⟨rfl, rfl⟩, if_pos (by omega), show (8 * n + 5) % 8 = 5 by omega]
    rw [if_neg (fun z => h5 z.2)]
    by_cases h4 : j = 8 * n + 4
    · subst h4; rw [if_pos ⟨rfl, rfl⟩, if_pos (by omega), show (8 * n + 4) % 8 = 4 by omega]
    rw [if_neg (fun z => h4 z.2)]
    by_cases h3 : j = 8 * n + 3
    · subst h3; rw [if_pos ⟨rfl, rfl⟩, if_pos (by omega), show (8 * n + 3) % 8 = 3 by omega]
    rw [if_neg (fun z => h3 z.2)]
    by_cases h2 : j = 8 * n + 2
    · subst h2; rw [if_pos ⟨rfl, rfl⟩, if_pos (by omega), show (8 * n + 2) % 8 = 2 by omega]
    rw [if_neg (fun z => h2 z.2)]
    by_cases h1 : j = 8 * n + 1
    · subst h1; rw [if_pos ⟨rfl, rfl⟩, if_pos (by omega), show (8 * n + 1) % 8 = 1 by omega]
    rw [if_neg (fun z => h1 z.2)]
    by_cases h0 : j = 8 * n
    · subst h0; rw [if_pos ⟨rfl, rfl⟩, if_pos (by omega), show (8 * n) % 8 = 0 by omega]
    rw [if_neg (fun z => h0 z.2), if_neg (by omega)]
  · rw [if_neg hk]
    simp only [hk, false_and, if_false]
theorem p_post_eq (ms : MS) (kd to a b c d e : Int32) {n : Nat} (hn : ms.1 36 = nI n) (h : n ≤ 200) : p_X10_post ms kd to a b c d e = some ((), postM ms n (mG a b c d e 0 kd to)) := by
  unfold p_X10_post postM
  by_cases h2 : n = 200
  · subst h2
    rw [if_pos (show ms.1 36 = 200 from hn), if_pos rfl]; rfl
  · rw [if_neg (show ¬ ms.1 36 = 200 from fun z => h2 ((nI_eq (a := n) (b := 200) (by omega) (by omega)).mp (hn.symm.trans z))), if_neg h2, hn, nI_m8]
    rw [k_sI_n (show 8 * n < k_len 37 by show _ < 1608; omega)]
    simp only [h_b1_s]
    rw [nI_c1, k_sI_n (show 8 * n + 1 < k_len 37 by show _ < 1608; omega)]
    simp only [h_b1_s]
    rw [nI_c2, k_sI_n (show 8 * n + 2 < k_len 37 by show _ < 1608; omega)]
    simp only [h_b1_s]
    rw [nI_c3, k_sI_n (show 8 * n + 3 < k_len 37 by show _ < 1608; omega)]
    simp only [h_b1_s]
    rw [nI_c4, k_sI_n (show 8 * n + 4 < k_len 37 by show _ < 1608; omega)]
    simp only [h_b1_s]
    rw [nI_c5, k_sI_n (show 8 * n + 5 < k_len 37 by show _ < 1608; omega)]
    simp only [h_b1_s]
    rw [nI_c6, k_sI_n (show 8 * n + 6 < k_len 37 by show _ < 1608; omega)]
    simp only [h_b1_s]
    rw [nI_c7, k_sI_n (show 8 * n + 7 < k_len 37 by show _ < 1608; omega)]
    simp only [h_b1_s, k_lt]
    have e8 := up8 ms.2.1 n (mG a b c d e 0 kd to)
    show some ((), k_pI (ms.1, h_up2 (h_up2 (h_up2 (h_up2 (h_up2 (h_up2 (h_up2 (h_up2 ms.2.1 37 (8 * n) a) 37 (8 * n + 1) b) 37 (8 * n + 2) c) 37 (8 * n + 3) d) 37 (8 * n + 4) e) 37 (8 * n + 5) 0) 37 (8 * n + 6) kd) 37 (8 * n + 7) to, ms.2.2) 36 (ms.1 36 + 1)) = _
    rw [hn, nI_c1]
    unfold rW
    rw [← e8]; rfl
theorem p_last_eq (ms : MS) {n : Nat} {a b c d e kd to v : Int32} (h : n ≤ 200) (hn : ms.1 36 = nI n) : p_X10_last (postM ms n (mG a b c d e 0 kd to)) v (nI n) = some ((), postM ms n (mG a b c d e v kd to)) := by
  unfold p_X10_last postM
  by_cases h2 : n = 200
  · rw [if_pos h2, if_pos h2, pI_n1 (by decide), hn, if_pos (Int32.le_refl _)]
  · rw [if_neg h2, if_neg h2, pI_s1, if_neg (nI_ge (by omega) (by omega)), nI_m8, show (3 : Int32) = nI 3 from rfl, pk_sub (by omega), k_sI_n (show 8 * (n + 1) - 3 < k_len 37 by show _ < 1608; omega)]
    simp only [h_b1_s]
    congr 2
    unfold aS k_pI rW
    congr 2
    funext k j
    unfold h_up2 h_upA
    by_cases hk : k = 37
    · subst hk
      simp only [true_and, if_true]
      by_cases hj : j = 8 * (n + 1) - 3
      · rw [if_pos hj, if_pos (by omega), show j % 8 = 5 by omega]; rfl
      · rw [if_neg hj]
        by_cases hd : j / 8 = n
        · rw [if_pos hd, if_pos hd]
          rcases (show j % 8 = 0 ∨ j % 8 = 1 ∨ j % 8 = 2 ∨ j % 8 = 3 ∨ j % 8 = 4 ∨ j % 8 = 6 ∨ j % 8 = 7 by omega) with e | e | e | e | e | e | e <;> rw [e] <;> rfl
        · rw [if_neg hd, if_neg hd]
    · simp only [hk, false_and, if_false]
/-- the row with the k-th message of n taken out -/
def shf (i : Nat) (s : MS) : MS := aS s 37 i (s.2.1 37 (i + 8))
theorem shf_fo : ∀ (c i : Nat) (s : MS), fo shf i c s = rW s 37 (fun j => if i ≤ j ∧ j < i + c then s.2.1 37 (j + 8) else s.2.1 37 j)
  | 0, i, s => by
    show s = _
    unfold rW h_upA
    refine Prod.ext rfl (Prod.ext ?_ rfl)
    funext k j
    dsimp only
    by_cases hk : k = 37
    · subst hk; rw [if_pos rfl, if_neg (by omega)]
    · rw [if_neg hk]
  | c + 1, i, s => by
    show fo shf (i + 1) c (shf i s) = _
    rw [shf_fo c (i + 1) (shf i s)]
    unfold rW h_upA
    refine Prod.ext rfl (Prod.ext ?_ rfl)
    funext k j
    dsimp only
    by_cases hk : k = 37
    · subst hk
      rw [if_pos rfl, if_pos rfl]
      unfold shf
      by_cases h1 : i + 1 ≤ j ∧ j < i + 1 + c
      · rw [if_pos h1, if_pos (by omega), aS_j (by omega)]
      · rw [if_neg h1]
        by_cases h2 : j = i
        · subst h2; rw [aS_s, if_pos (by omega)]
        · rw [aS_j h2, if_neg (by omega)]
    · rw [if_neg hk, if_neg hk]
      unfold shf
      rw [aS_k hk]
def tk8 (k : Nat) (i : Nat) (s : MS) : MS := aS s 38 i (s.2.1 37 (8 * k + i))
theorem tk8_fo (k : Nat) : ∀ (c i : Nat) (s : MS), fo (tk8 k) i c s = rW s 38 (fun j => if i ≤ j ∧ j < i + c then s.2.1 37 (8 * k + j) else s.2.1 38 j)
  | 0, i, s => by
    show s = _
    unfold rW h_upA
    refine Prod.ext rfl (Prod.ext ?_ rfl)
    funext k j
    dsimp only
    by_cases hk : k = 38
    · subst hk; rw [if_pos rfl, if_neg (by omega)]
    · rw [if_neg hk]
  | c + 1, i, s => by
    show fo (tk8 k) (i + 1) c (tk8 k i s) = _
    rw [tk8_fo k c (i + 1) (tk8 k i s)]
    unfold rW h_upA
    refine Prod.ext rfl (Prod.ext ?_ rfl)
    funext k' j
    dsimp only
    by_cases hk : k' = 38
    · subst hk
      rw [if_pos rfl, if_pos rfl]
      unfold tk8
      by_cases h1 : i + 1 ≤ j ∧ j < i + 1 + c
      · rw [if_pos h1, if_pos (by omega), aS_k (by decide)]
      · rw [if_neg h1]
        by_cases h2 : j = i
        · subst h2; rw [aS_s, if_pos (by omega)]
        · rw [aS_j h2, if_neg (by omega)]
    · rw [if_neg hk, if_neg hk]
      unfold tk8
      rw [aS_k hk]
def takeM (ms : MS) (n k : Nat) : MS := k_pI (rW (rW ms 38 (fun j => if 0 ≤ j ∧ j < 0 + 8 then ms.2.1 37 (8 * k + j) else ms.2.1 38 j)) 37 (fun j => if 8 * k ≤ j ∧ j < 8 * k + (8 * n - 8 - 8 * k) then ms.2.1 37 (j + 8) else ms.2.1 37 j)) 36 (nI (n - 1))
theorem p_take_eq (ms : MS) {n k : Nat} (hn : ms.1 36 = nI n) (hk : k < n) (h : n ≤ 200) : p_X10_take ms (nI k) = some ((), takeM ms n k) := by
  unfold p_X10_take
  have k2 : ∀ s : MS, s.1 36 = nI n → pg_X10_take_36 h_hN s (8 * nI k) = some ((), k_pI (fo shf (8 * k) (8 * n - 8 - 8 * k) s) 36 (nI (n - 1))) := by
    intro s hs
    have key := lp_fold (S := MS) (fun n s i => pg_X10_take_36 n s i) (8 * n - 8) shf (fun s => some ((), k_pI s 36 (nI (n - 1)))) (fun _ s => s.1 36 = nI n)
      (fun i s _ hI => hI)
      (fun m s hI => by
        show pg_X10_take_36 (m + 1) s (nI (8 * n - 8)) = _
        rw [pg_X10_take_36, hI, nI_m8, show (8 : Int32) = nI 8 from rfl, pk_sub (by omega), if_pos (Int32.le_refl _), show (1 : Int32) = nI 1 from rfl, pk_sub (by omega)]; rfl)
      (fun m i s hi hI => by
        show pg_X10_take_36 (m + 1) s (nI i) = pg_X10_take_36 m (shf i s) (nI (i + 1))
        rw [pg_X10_take_36, hI, nI_m8, show (8 : Int32) = nI 8 from rfl, pk_sub (by omega), if_neg (nI_ge hi (by omega)), nI_add, k_aI_nI (show i + 8 < k_len 37 by show _ < 1608; omega), h_b1_s, k_sI_n (show i < k_len 37 by show _ < 1608; omega), h_b1_s, nI_1]
        rfl)
      (8 * n - 8 - 8 * k) h_hN (8 * k) s hs (by omega) (h_hN_lt (by omega))
    rw [nI_m8]
    exact key
  have key := lp_fold (S := MS) (fun m s i => pg_X10_take_2 m s (nI k) i) 8 (tk8 k) (fun s => some ((), k_pI (fo shf (8 * k) (8 * n - 8 - 8 * k) s) 36 (nI (n - 1)))) (fun _ s => s.1 36 = nI n)
    (fun i s _ hI => hI)
    (fun m s hI => by
      show pg_X10_take_2 (m + 1) s (nI k) (nI 8) = _
      rw [pg_X10_take_2, show (8 : Int32) = nI 8 from rfl, if_pos (Int32.le_refl _)]
      exact k2 s hI)
    (fun m i s hi hI => by
      show pg_X10_take_2 (m + 1) s (nI k) (nI i) = pg_X10_take_2 m (tk8 k i s) (nI k) (nI (i + 1))
      rw [pg_X10_take_2, if_neg (show ¬ (8 : Int32) ≤ nI i from nI_ge (b := 8) hi (by omega)), nI_m8, nI_add, k_aI_nI (show 8 * k + i < k_len 37 by show _ < 1608; omega), h_b1_s, k_sI_n (show i < k_len 38 by show _ < 8; omega), h_b1_s, nI_1]
      rfl)
    8 h_hN 0 ms hn (by omega) (h_hN_lt (by omega))
  have key' : pg_X10_take_2 h_hN ms (nI k) 0 = _ := key
  rw [key', tk8_fo, shf_fo]
  rfl
/-- which message k is, of n -/
def msgB (n : Nat) (k : Int32) : Bool := decide (0 ≤ k ∧ k < nI n)
theorem msgB_some {n : Nat} {k : Int32} (hn : n ≤ 200) (h : msgB n k = true) : ∃ i, i < n ∧ k = nI i := by
  have h1 := of_decide_eq_true h
  obtain ⟨j, hj, rfl⟩ := nI_of (Int32.not_lt.mpr h1.1)
  exact ⟨j, (nI_ltI hj (by omega)).mp h1.2, rfl⟩
theorem msgB_nI {n i : Nat} (hi : i < n) (hn : n ≤ 200) : msgB n (nI i) = true := decide_eq_true ⟨nI_pos' (by omega), nI_lt hi (by omega)⟩
theorem p_isMessage_eq (ms : MS) (k : Int32) {n : Nat} (hn : ms.1 36 = nI n) (h : n ≤ 200) : p_X10_isMessage ms k = some (b2i (msgB n k), k_pI ms 0 (b2i (!msgB n k))) := by
  unfold p_X10_isMessage
  rw [p_in_eq]
  simp only [k_bd_s]
  have e : decide ((0 : Int32) ≤ k ∧ k ≤ ms.1 36 - 1) = msgB n k := by
    unfold msgB
    rw [hn]
    refine decide_eq_decide.mpr (and_congr_right (fun _ => ?_))
    rw [Int32.le_iff_toInt_le, Int32.lt_iff_toInt_lt, show (1 : Int32) = nI 1 from rfl, pk_sub_toInt (by omega) (by omega), nI_toInt (by omega)]
    omega
  rw [e]
  cases hb : msgB n k
  · rw [if_pos (show b2i false = 0 from rfl)]
    unfold pj_X10_isMessage_20
    simp only [k_lt, pI_s1]
    rw [if_neg (by decide)]; rfl
  · rw [if_neg (by decide)]
    unfold pj_X10_isMessage_20
    simp only [k_lt, pI_s1, if_true]
    rfl
