/-! from 30.row -/
section
/-! THE REFERENCE'S ROW OF MESSAGES: post, last, take, over numbers -/
def aS (ms : MS) (k j : Nat) (v : Int32) : MS := (ms.1, h_up2 ms.2.1 k j v, ms.2.2)
def rW (ms : MS) (k : Nat) (r : Nat → Int32) : MS := (ms.1, h_upA ms.2.1 k r, ms.2.2)
theorem k_sI_n {ms : MS} {k i : Nat} {v : Int32} (h : i < k_len k) : k_sI ms k (nI i) v = some (aS ms k i v) := k_sI_nI h
theorem aS_1 {ms : MS} {k j : Nat} {v : Int32} : (aS ms k j v).1 = ms.1 := rfl
theorem aS_2 {ms : MS} {k j : Nat} {v : Int32} : (aS ms k j v).2.2 = ms.2.2 := rfl
theorem aS_s {ms : MS} {k j : Nat} {v : Int32} : (aS ms k j v).2.1 k j = v := by show h_up2 _ _ _ _ _ _ = _; unfold h_up2; rw [if_pos ⟨rfl, rfl⟩]
theorem aS_k {ms : MS} {k j k' j' : Nat} {v : Int32} (h : k' ≠ k) : (aS ms k j v).2.1 k' j' = ms.2.1 k' j' := by show h_up2 _ _ _ _ _ _ = _; unfold h_up2; rw [if_neg (fun z => h z.1)]
theorem aS_j {ms : MS} {k j k' j' : Nat} {v : Int32} (h : j' ≠ j) : (aS ms k j v).2.1 k' j' = ms.2.1 k' j' := by show h_up2 _ _ _ _ _ _ = _; unfold h_up2; rw [if_neg (fun z => h z.2)]
theorem aS_i {ms : MS} {k j k' j' : Nat} {v : Int32} : (aS ms k j v).2.1 k' j' = if k' = k ∧ j' = j then v else ms.2.1 k' j' := rfl
theorem rW_i {ms : MS} {k : Nat} {r : Nat → Int32} {k' j' : Nat} : (rW ms k r).2.1 k' j' = if k' = k then r j' else ms.2.1 k' j' := rfl
theorem pI_i {ms : MS} {k k' : Nat} {v : Int32} : (k_pI ms k v).1 k' = if k' = k then v else ms.1 k' := rfl
theorem pI_s1 {ms : MS} {k : Nat} {v : Int32} : (k_pI ms k v).1 k = v := by rw [pI_i, if_pos rfl]
theorem pI_n1 {ms : MS} {k k' : Nat} {v : Int32} (h : k' ≠ k) : (k_pI ms k v).1 k' = ms.1 k' := by rw [pI_i, if_neg h]
theorem pI_2 {ms : MS} {k : Nat} {v : Int32} : (k_pI ms k v).2 = ms.2 := rfl
theorem nI_c1 (i : Nat) : nI i + 1 = nI (i + 1) := nI_add i 1
theorem nI_c2 (i : Nat) : nI i + 2 = nI (i + 2) := nI_add i 2
theorem nI_c3 (i : Nat) : nI i + 3 = nI (i + 3) := nI_add i 3
theorem nI_c4 (i : Nat) : nI i + 4 = nI (i + 4) := nI_add i 4
theorem nI_c5 (i : Nat) : nI i + 5 = nI (i + 5) := nI_add i 5
theorem nI_c6 (i : Nat) : nI i + 6 = nI (i + 6) := nI_add i 6
theorem nI_c7 (i : Nat) : nI i + 7 = nI (i + 7) := nI_add i 7
theorem nI_c8 (i : Nat) : nI i + 8 = nI (i + 8) := nI_add i 8
/-- the eight numbers of a message -/
def mG (a b c d e f kd to : Int32) (j : Nat) : Int32 := match j with
  | 0 => a
  | 1 => b
  | 2 => c
  | 3 => d
  | 4 => e
  | 5 => f
  | 6 => kd
  | _ => to
def postM (ms : MS) (n : Nat) (f : Nat → Int32) : MS := if n = 200 then k_pI ms 42 (ms.1 42 + 1) else k_pI (rW ms 37 (fun j => if j / 8 = n then f (j % 8) else ms.2.1 37 j)) 36 (nI (n + 1))
theorem up8 (F : Nat → Nat → Int32) (n : Nat) (f : Nat → Int32) : h_up2 (h_up2 (h_up2 (h_up2 (h_up2 (h_up2 (h_up2 (h_up2 F 37 (8 * n) (f 0)) 37 (8 * n + 1) (f 1)) 37 (8 * n + 2) (f 2)) 37 (8 * n + 3) (f 3)) 37 (8 * n + 4) (f 4)) 37 (8 * n + 5) (f 5)) 37 (8 * n + 6) (f 6)) 37 (8 * n + 7) (f 7) = h_upA F 37 (fun j => if j / 8 = n then f (j % 8) else F 37 j) := by
  funext k j
  unfold h_up2 h_upA
  by_cases hk : k = 37
  · subst hk
    rw [if_pos rfl]
    dsimp only
    by_cases h7 : j = 8 * n + 7
    · subst h7; rw [if_pos ⟨rfl, rfl⟩, if_pos (by omega), show (8 * n + 7) % 8 = 7 by omega]
    rw [if_neg (fun z => h7 z.2)]
    by_cases h6 : j = 8 * n + 6
    · subst h6; rw [if_pos ⟨rfl, rfl⟩, if_pos (by omega), show (8 * n + 6) % 8 = 6 by omega]
    rw [if_neg (fun z => h6 z.2)]
    by_cases h5 : j = 8 * n + 5
    · subst h5; rw [if_pos ⟨rfl, rfl⟩, if_pos (by omega), show (8 * n + 5) % 8 = 5 by omega]
    rw [if_neg (fun z => h5 z.2)]
    by_cases h4 : j = 8 * n + 4
    · subst h4; rw [if_pos ⟨rfl, rfl⟩, if_pos (by omega), show (8 * n + 4) % 8 = 4 by omega]
    rw [if_neg (fun z => h4 z.2)]
    by_cases h3 : j = 8 * n + 3
    · subst h3; rw [if_pos ⟨rfl, rfl⟩, if_pos (by omega), show (8 * n + 3) % 8 = 3 by omega]
    rw [if_neg (fun z => h3 z.2)]
    by_cases h2 : j = 8 * n + 2
    · subst h2; rw [if_pos ⟨rfl, rfl⟩, if_pos (by omega), show (8 * n + 2) % 8 = 2 by omega]
    rw [if_neg (fun z => h2 z.2)]
    by_cases h1 : j = 8 * n + 1
    · subst h1; rw [if_pos ⟨rfl, rfl⟩, if_pos (by omega), show (8 * n + 1) % 8 = 1 by omega]
    rw [if_neg (fun z => h1 z.2)]
    by_cases h0 : j = 8 * n
    · subst h0; rw [if_pos ⟨rfl, rfl⟩, if_pos (by omega), show (8 * n) % 8 = 0 by omega]
    rw [if_neg (fun z => h0 z.2), if_neg (by omega)]
  · rw [if_neg hk]
    simp only [hk, false_and, if_false]
theorem p_post_eq (ms : MS) (kd to a b c d e : Int32) {n : Nat} (hn : ms.1 36 = nI n) (h : n ≤ 200) : p_X10_post ms kd to a b c d e = some ((), postM ms n (mG a b c d e 0 kd to)) := by
  unfold p_X10_post postM
  by_cases h2 : n = 200
  · subst h2
    rw [if_pos (show ms.1 36 = 200 from hn), if_pos rfl]; rfl
  · rw [if_neg (show ¬ ms.1 36 = 200 from fun z => h2 ((nI_eq (a := n) (b := 200) (by omega) (by omega)).mp (hn.symm.trans z))), if_neg h2, hn, nI_m8]
    rw [k_sI_n (show 8 * n < k_len 37 by show _ < 1608; omega)]
    simp only [h_b1_s]
    rw [nI_c1, k_sI_n (show 8 * n + 1 < k_len 37 by show _ < 1608; omega)]
    simp only [h_b1_s]
    rw [nI_c2, k_sI_n (show 8 * n + 2 < k_len 37 by show _ < 1608; omega)]
    simp only [h_b1_s]
    rw [nI_c3, k_sI_n (show 8 * n + 3 < k_len 37 by show _ < 1608; omega)]
    simp only [h_b1_s]
    rw [nI_c4, k_sI_n (show 8 * n + 4 < k_len 37 by show _ < 1608; omega)]
    simp only [h_b1_s]
    rw [nI_c5, k_sI_n (show 8 * n + 5 < k_len 37 by show _ < 1608; omega)]
    simp only [h_b1_s]
    rw [nI_c6, k_sI_n (show 8 * n + 6 < k_len 37 by show _ < 1608; omega)]
    simp only [h_b1_s]
    rw [nI_c7, k_sI_n (show 8 * n + 7 < k_len 37 by show _ < 1608; omega)]
    simp only [h_b1_s, k_lt]
    have e8 := up8 ms.2.1 n (mG a b c d e 0 kd to)
    show some ((), k_pI (ms.1, h_up2 (h_up2 (h_up2 (h_up2 (h_up2 (h_up2 (h_up2 (h_up2 ms.2.1 37 (8 * n) a) 37 (8 * n + 1) b) 37 (8 * n + 2) c) 37 (8 * n + 3) d) 37 (8 * n + 4) e) 37 (8 * n + 5) 0) 37 (8 * n + 6) kd) 37 (8 * n + 7) to, ms.2.2) 36 (ms.1 36 + 1)) = _
    rw [hn, nI_c1]
    unfold rW
    rw [← e8]; rfl
theorem p_last_eq (ms : MS) {n : Nat} {a b c d e kd to v : Int32} (h : n ≤ 200) (hn : ms.1 36 = nI n) : p_X10_last (postM ms n (mG a b c d e 0 kd to)) v (nI n) = some ((), postM ms n (mG a b c d e v kd to)) := by
  unfold p_X10_last postM
  by_cases h2 : n = 200
  · rw [if_pos h2, if_pos h2, pI_n1 (by decide), hn, if_pos (Int32.le_refl _)]
  · rw [if_neg h2, if_neg h2, pI_s1, if_neg (nI_ge (by omega) (by omega)), nI_m8, show (3 : Int32) = nI 3 from rfl, pk_sub (by omega), k_sI_n (show 8 * (n + 1) - 3 < k_len 37 by show _ < 1608; omega)]
    simp only [h_b1_s]
    congr 2
    unfold aS k_pI rW
    congr 2
    funext k j
    unfold h_up2 h_upA
    by_cases hk : k = 37
    · subst hk
      simp only [true_and, if_true]
      by_cases hj : j = 8 * (n + 1) - 3
      · rw [if_pos hj, if_pos (by omega), show j % 8 = 5 by omega]; rfl
      · rw [if_neg hj]
        by_cases hd : j / 8 = n
        · rw [if_pos hd, if_pos hd]
          rcases (show j % 8 = 0 ∨ j % 8 = 1 ∨ j % 8 = 2 ∨ j % 8 = 3 ∨ j % 8 = 4 ∨ j % 8 = 6 ∨ j % 8 = 7 by omega) with e | e | e | e | e | e | e <;> rw [e] <;> rfl
        · rw [if_neg hd, if_neg hd]
    · simp only [hk, false_and, if_false]
/-- the row with the k-th message of n taken out -/
def shf (i : Nat) (s : MS) : MS := aS s 37 i (s.2.1 37 (i + 8))
theorem shf_fo : ∀ (c i : Nat) (s : MS), fo shf i c s = rW s 37 (fun j => if i ≤ j ∧ j < i + c then s.2.1 37 (j + 8) else s.2.1 37 j)
  | 0, i, s => by
    show s = _
    unfold rW h_upA
    refine Prod.ext rfl (Prod.ext ?_ rfl)
    funext k j
    dsimp only
    by_cases hk : k = 37
    · subst hk; rw [if_pos rfl, if_neg (by omega)]
    · rw [if_neg hk]
  | c + 1, i, s => by
    show fo shf (i + 1) c (shf i s) = _
    rw [shf_fo c (i + 1) (shf i s)]
    unfold rW h_upA
    refine Prod.ext rfl (Prod.ext ?_ rfl)
    funext k j
    dsimp only
    by_cases hk : k = 37
    · subst hk
      rw [if_pos rfl, if_pos rfl]
      unfold shf
      by_cases h1 : i + 1 ≤ j ∧ j < i + 1 + c
      · rw [if_pos h1, if_pos (by omega), aS_j (by omega)]
      · rw [if_neg h1]
        by_cases h2 : j = i
        · subst h2; rw [aS_s, if_pos (by omega)]
        · rw [aS_j h2, if_neg (by omega)]
    · rw [if_neg hk, if_neg hk]
      unfold shf
      rw [aS_k hk]
def tk8 (k : Nat) (i : Nat) (s : MS) : MS := aS s 38 i (s.2.1 37 (8 * k + i))
theorem tk8_fo (k : Nat) : ∀ (c i : Nat) (s : MS), fo (tk8 k) i c s = rW s 38 (fun j => if i ≤ j ∧ j < i + c then s.2.1 37 (8 * k + j) else s.2.1 38 j)
  | 0, i, s => by
    show s = _
    unfold rW h_upA
    refine Prod.ext rfl (Prod.ext ?_ rfl)
    funext k j
    dsimp only
    by_cases hk : k = 38
    · subst hk; rw [if_pos rfl, if_neg (by omega)]
    · rw [if_neg hk]
  | c + 1, i, s => by
    show fo (tk8 k) (i + 1) c (tk8 k i s) = _
    rw [tk8_fo k c (i + 1) (tk8 k i s)]
    unfold rW h_upA
    refine Prod.ext rfl (Prod.ext ?_ rfl)
    funext k' j
    dsimp only
    by_cases hk : k' = 38
    · subst hk
      rw [if_pos rfl, if_pos rfl]
      unfold tk8
      by_cases h1 : i + 1 ≤ j ∧ j < i + 1 + c
      · rw [if_pos h1, if_pos (by omega), aS_k (by decide)]
      · rw [if_neg h1]
        by_cases h2 : j = i
        · subst h2; rw [aS_s, if_pos (by omega)]
        · rw [aS_j h2, if_neg (by omega)]
    · rw [if_neg hk, if_neg hk]
      unfold tk8
      rw [aS_k hk]
def takeM (ms : MS) (n k : Nat) : MS := k_pI (rW (rW ms 38 (fun j => if 0 ≤ j ∧ j < 0 + 8 then ms.2.1 37 (8 * k + j) else ms.2.1 38 j)) 37 (fun j => if 8 * k ≤ j ∧ j < 8 * k + (8 * n - 8 - 8 * k) then ms.2.1 37 (j + 8) else ms.2.1 37 j)) 36 (nI (n - 1))
theorem p_take_eq (ms : MS) {n k : Nat} (hn : ms.1 36 = nI n) (hk : k < n) (h : n ≤ 200) : p_X10_take ms (nI k) = some ((), takeM ms n k) := by
  unfold p_X10_take
  have k2 : ∀ s : MS, s.1 36 = nI n → pg_X10_take_36 h_hN s (8 * nI k) = some ((), k_pI (fo shf (8 * k) (8 * n - 8 - 8 * k) s) 36 (nI (n - 1))) := by
    intro s hs
    have key := lp_fold (S := MS) (fun n s i => pg_X10_take_36 n s i) (8 * n - 8) shf (fun s => some ((), k_pI s 36 (nI (n - 1)))) (fun _ s => s.1 36 = nI n)
      (fun i s _ hI => hI)
      (fun m s hI => by
        show pg_X10_take_36 (m + 1) s (nI (8 * n - 8)) = _
        rw [pg_X10_take_36, hI, nI_m8, show (8 : Int32) = nI 8 from rfl, pk_sub (by omega), if_pos (Int32.le_refl _), show (1 : Int32) = nI 1 from rfl, pk_sub (by omega)]; rfl)
      (fun m i s hi hI => by
        show pg_X10_take_36 (m + 1) s (nI i) = pg_X10_take_36 m (shf i s) (nI (i + 1))
        rw [pg_X10_take_36, hI, nI_m8, show (8 : Int32) = nI 8 from rfl, pk_sub (by omega), if_neg (nI_ge hi (by omega)), nI_add, k_aI_nI (show i + 8 < k_len 37 by show _ < 1608; omega), h_b1_s, k_sI_n (show i < k_len 37 by show _ < 1608; omega), h_b1_s, nI_1]
        rfl)
      (8 * n - 8 - 8 * k) h_hN (8 * k) s hs (by omega) (h_hN_lt (by omega))
    rw [nI_m8]
    exact key
  have key := lp_fold (S := MS) (fun m s i => pg_X10_take_2 m s (nI k) i) 8 (tk8 k) (fun s => some ((), k_pI (fo shf (8 * k) (8 * n - 8 - 8 * k) s) 36 (nI (n - 1)))) (fun _ s => s.1 36 = nI n)
    (fun i s _ hI => hI)
    (fun m s hI => by
      show pg_X10_take_2 (m + 1) s (nI k) (nI 8) = _
      rw [pg_X10_take_2, show (8 : Int32) = nI 8 from rfl, if_pos (Int32.le_refl _)]
      exact k2 s hI)
    (fun m i s hi hI => by
      show pg_X10_take_2 (m + 1) s (nI k) (nI i) = pg_X10_take_2 m (tk8 k i s) (nI k) (nI (i + 1))
      rw [pg_X10_take_2, if_neg (show ¬ (8 : Int32) ≤ nI i from nI_ge (b := 8) hi (by omega)), nI_m8, nI_add, k_aI_nI (show 8 * k + i < k_len 37 by show _ < 1608; omega), h_b1_s, k_sI_n (show i < k_len 38 by show _ < 8; omega), h_b1_s, nI_1]
      rfl)
    8 h_hN 0 ms hn (by omega) (h_hN_lt (by omega))
  have key' : pg_X10_take_2 h_hN ms (nI k) 0 = _ := key
  rw [key', tk8_fo, shf_fo]
  rfl
/-- which message k is, of n -/
def msgB (n : Nat) (k : Int32) : Bool := decide (0 ≤ k ∧ k < nI n)
theorem msgB_some {n : Nat} {k : Int32} (hn : n ≤ 200) (h : msgB n k = true) : ∃ i, i < n ∧ k = nI i := by
  have h1 := of_decide_eq_true h
  obtain ⟨j, hj, rfl⟩ := nI_of (Int32.not_lt.mpr h1.1)
  exact ⟨j, (nI_ltI hj (by omega)).mp h1.2, rfl⟩
theorem msgB_nI {n i : Nat} (hi : i < n) (hn : n ≤ 200) : msgB n (nI i) = true := decide_eq_true ⟨nI_pos' (by omega), nI_lt hi (by omega)⟩
theorem p_isMessage_eq (ms : MS) (k : Int32) {n : Nat} (hn : ms.1 36 = nI n) (h : n ≤ 200) : p_X10_isMessage ms k = some (b2i (msgB n k), k_pI ms 0 (b2i (!msgB n k))) := by
  unfold p_X10_isMessage
  rw [p_in_eq]
  simp only [k_bd_s]
  have e : decide ((0 : Int32) ≤ k ∧ k ≤ ms.1 36 - 1) = msgB n k := by
    unfold msgB
    rw [hn]
    refine decide_eq_decide.mpr (and_congr_right (fun _ => ?_))
    rw [Int32.le_iff_toInt_le, Int32.lt_iff_toInt_lt, show (1 : Int32) = nI 1 from rfl, pk_sub_toInt (by omega) (by omega), nI_toInt (by omega)]
    omega
  rw [e]
  cases hb : msgB n k
  · rw [if_pos (show b2i false = 0 from rfl)]
    unfold pj_X10_isMessage_20
    simp only [k_lt, pI_s1]
    rw [if_neg (by decide)]; rfl
  · rw [if_neg (by decide)]
    unfold pj_X10_isMessage_20
    simp only [k_lt, pI_s1, if_true]
    rfl
end
/-! from 31.calls -/
section
/-! THE REFERENCE'S CALLS, over numbers: the plain ones -/
theorem pI_pI {ms : MS} {k : Nat} {a b : Int32} : k_pI (k_pI ms k a) k b = k_pI ms k b := by
  show (va_up (va_up ms.1 k a) k b, ms.2) = (va_up ms.1 k b, ms.2)
  congr 1
  funext z
  unfold va_up
  by_cases h : z = k
  · simp [h]
  · simp [h]
theorem b2i_not_t : b2i (!true) = 0 := rfl
theorem b2i_not_f : b2i (!false) = 1 := rfl
def okM (ms : MS) : MS := k_pI ms 0 0
def noM (ms : MS) : MS := k_pI ms 0 1
theorem okM_1 {ms : MS} {k : Nat} (h : k ≠ 0) : (okM ms).1 k = ms.1 k := pI_n1 h
theorem okM_0 {ms : MS} : (okM ms).1 0 = 0 := pI_s1
theorem noM_0 {ms : MS} : (noM ms).1 0 = 1 := pI_s1
theorem okM_2 {ms : MS} : (okM ms).2 = ms.2 := rfl
theorem noM_2 {ms : MS} : (noM ms).2 = ms.2 := rfl
theorem noM_1 {ms : MS} {k : Nat} (h : k ≠ 0) : (noM ms).1 k = ms.1 k := pI_n1 h
theorem noM_ok {ms : MS} {a : Int32} : noM (k_pI ms 0 a) = noM ms := pI_pI
theorem okM_ok {ms : MS} {a : Int32} : okM (k_pI ms 0 a) = okM ms := pI_pI
-- pass
def passB (ms : MS) (t : Int32) : Bool := decide (1 ≤ t ∧ t ≤ 1000) && decide (ms.1 1 + t ≤ 1000000)
theorem p_pass_eq (ms : MS) (t : Int32) : p_X10_pass ms t = some ((), if passB ms t = true then k_pI (okM ms) 1 (ms.1 1 + t) else noM ms) := by
  unfold p_X10_pass passB
  rw [p_in_eq]
  simp only [k_bd_s]
  cases h1 : decide (1 ≤ t ∧ t ≤ 1000)
  · rw [if_pos (show b2i false = 0 from rfl)]
    unfold pj_X10_pass_27 pj_X10_pass_28
    simp only [k_lt, pI_s1, Bool.false_and]
    rw [if_neg (by decide), if_neg (by decide)]; rfl
  · rw [if_neg (by decide)]
    by_cases h2 : 1000000 < ms.1 1 + t
    · rw [if_pos h2, decide_eq_false (Int32.not_le.mpr h2)]
      unfold pj_X10_pass_27 pj_X10_pass_28
      simp only [k_lt, pI_s1, Bool.and_false]
      rw [if_neg (by decide), if_neg (by decide)]; rfl
    · rw [if_neg h2, decide_eq_true (Int32.not_lt.mp h2)]
      unfold pj_X10_pass_28
      simp only [k_lt, pI_s1, Bool.and_self, if_true]
      rfl
-- site
def freeB (ms : MS) (pl : Int32) : Bool := (ff (fun s => decide (ms.2.1 14 s = pl)) 0 8).isNone
def siteMB (ms : MS) (s pl : Int32) : Bool := decide (0 ≤ s ∧ s ≤ 7) && (decide (ms.2.1 14 s.toNatClampNeg = -1) && (decide (0 ≤ pl ∧ pl ≤ 15) && freeB ms pl))
theorem ff_lt {P : Nat → Bool} {i c j : Nat} (h : ff P i c = some j) : j < i + c := (ff_some.mp h).2.1
theorem o2i_free (ms : MS) (pl : Int32) : (o2i (ff (fun s => decide (ms.2.1 14 s = pl)) 0 8) = -1) ↔ freeB ms pl = true := by
  unfold freeB
  rw [o2i_none (fun j h => by have := ff_lt h; omega), Option.isNone_iff_eq_none]
theorem p_site_eq (ms : MS) (s pl : Int32) : p_X10_site ms s pl = some ((), if siteMB ms s pl = true then aS (okM ms) 14 s.toNatClampNeg pl else noM ms) := by
  have hno : ∀ q : MS, pj_X10_site_44 q s pl = some ((), noM q) := by
    intro q
    unfold pj_X10_site_44 pj_X10_site_45
    simp only [k_lt, pI_s1]
    rw [if_neg (by decide)]; rfl
  unfold p_X10_site siteMB
  rw [p_in_eq]
  simp only [k_bd_s]
  cases h1 : decide ((0 : Int32) ≤ s ∧ s ≤ 7)
  · rw [if_pos (show b2i false = 0 from rfl), hno]; rfl
  · rw [if_neg (by decide)]
    obtain ⟨i, hi, rfl⟩ := i8 (of_decide_eq_true h1)
    rw [k_aI_nI (show i < k_len 14 from hi), h_b1_s, nI_clamp (by omega)]
    by_cases h2 : ms.2.1 14 i = -1
    · rw [if_pos h2, decide_eq_true h2, p_in_eq]
      simp only [k_bd_s]
      cases h3 : decide ((0 : Int32) ≤ pl ∧ pl ≤ 15)
      · rw [if_pos (show b2i false = 0 from rfl), hno]; rfl
      · rw [if_neg (by decide), p_siteAt_eq]
        simp only [k_bd_s]
        by_cases h4 : freeB ms pl = true
        · rw [if_pos ((o2i_free ms pl).mpr h4), h4]
          unfold pj_X10_site_45
          simp only [k_lt, pI_s1, Bool.and_self, if_true]
          rw [k_sI_n (show i < k_len 14 from hi)]; rfl
        · rw [if_neg (fun z => h4 ((o2i_free ms pl).mp z)), hno, show freeB ms pl = false from Bool.eq_false_iff.mpr h4]
          rfl
    · rw [if_neg h2, hno, decide_eq_false h2]; rfl
-- move
def moveB (ms : MS) (s pl : Int32) : Bool := siteB ms s && (decide (0 ≤ pl ∧ pl ≤ 15) && freeB ms pl)
theorem p_move_eq (ms : MS) (s pl : Int32) {i p0 : Nat} (hp : siteB ms s = true → s = nI i ∧ i < 8 ∧ ms.2.1 14 i = nI p0 ∧ p0 < 16) : p_X10_move ms s pl = some ((), if moveB ms s pl = true then aS (aS (aS (okM ms) 26 p0 s) 27 p0 (ms.1 1 + 30)) 14 i pl else noM ms) := by
  have hno : ∀ q : MS, pj_X10_move_32 q s pl = some ((), noM q) := by
    intro q
    unfold pj_X10_move_32 pj_X10_move_33
    simp only [k_lt, pI_s1]
    rw [if_neg (by decide)]; rfl
  unfold p_X10_move moveB
  rw [p_isSite_eq]
  simp only [k_bd_s]
  cases h1 : siteB ms s
  · rw [if_pos (show b2i false = 0 from rfl), hno]; rfl
  · rw [if_neg (by decide), p_in_eq]
    obtain ⟨rfl, hi, h14, hp0⟩ := hp h1
    simp only [k_bd_s]
    cases h3 : decide ((0 : Int32) ≤ pl ∧ pl ≤ 15)
    · rw [if_pos (show b2i false = 0 from rfl), hno]; rfl
    · rw [if_neg (by decide), p_siteAt_eq]
      simp only [k_bd_s]
      by_cases h4 : freeB ms pl = true
      · rw [if_pos ((o2i_free ms pl).mpr h4), h4]
        unfold pj_X10_move_33
        simp only [k_lt, pI_s1, Bool.and_self, if_true]
        rw [if_pos (by decide), k_aI_nI (show i < k_len 14 from hi), h_b1_s, show (k_pI ms 0 0).2.1 14 i = nI p0 from h14, k_sI_n (show p0 < k_len 26 from hp0), h_b1_s, k_aI_nI (show i < k_len 14 from hi), h_b1_s, aS_k (by decide), show (k_pI ms 0 0).2.1 14 i = nI p0 from h14, k_sI_n (show p0 < k_len 27 from hp0), h_b1_s, k_sI_n (show i < k_len 14 from hi), h_b1_s]
        rfl
      · rw [if_neg (fun z => h4 ((o2i_free ms pl).mp z)), hno, show freeB ms pl = false from Bool.eq_false_iff.mpr h4]
        rfl
-- delegate
def delB (ms : MS) (p c b l : Int32) : Bool := srvB ms p && (decide (0 ≤ c ∧ c ≤ 7) && (decide (ms.2.1 3 c.toNatClampNeg = 0) && (vpB b l && (decide (ownE ms b (ln l) = some p.toNatClampNeg) && decide (¬ ms.2.1 5 p.toNatClampNeg = l)))))
theorem ownE_lt {ms : MS} {b : Int32} {n j : Nat} (h : ownE ms b n = some j) : j < 8 := by
  unfold ownE at h
  split at h
  · cases h
    have := fo_inv (step := ownS ms b n) (c := 8) (i := 0) (s := 0) (fun i w => i ≤ 8 → w < 8) (fun i w h1 h2 ih h3 => by
      unfold ownS
      split
      · split
        · exact ih (by omega)
        · omega
      · exact ih (by omega)) (fun _ => by decide)
    exact this (by omega)
  · cases h
theorem vpB_nI {b l : Int32} (h : vpB b l = true) : ∃ n, n ≤ 32 ∧ l = nI n ∧ vb n b = true := by
  unfold vpB at h
  rw [Bool.and_eq_true] at h
  obtain ⟨i, hi, rfl⟩ := i32 (of_decide_eq_true h.1)
  exact ⟨i, hi, rfl, by have := h.2; rw [nI_clamp (by omega)] at this; exact this⟩
theorem ln_nI {n : Nat} (h : n ≤ 32) : ln (nI n) = n := nI_clamp (by omega)
theorem p_delegate_eq (ms : MS) (p c b l : Int32) (hP : ∀ k, k < 8 → Ln (ms.2.1 5 k)) : p_X10_delegate ms p c b l = some ((), if delB ms p c b l = true then aS (aS (aS (aS (okM ms) 3 c.toNatClampNeg 1) 4 c.toNatClampNeg b) 5 c.toNatClampNeg l) 6 c.toNatClampNeg p else noM ms) := by
  have hno79 : ∀ q : MS, q.1 0 = 1 → pj_X10_delegate_79 q p c b l = some ((), q) := by
    intro q hq
    unfold pj_X10_delegate_79
    rw [hq, if_neg (by decide)]
  have hno74 : ∀ q : MS, pj_X10_delegate_74 q p c b l = some ((), noM q) := by
    intro q
    unfold pj_X10_delegate_74
    simp only [k_lt]
    exact hno79 _ pI_s1
  have hno : ∀ q : MS, pj_X10_delegate_41 q p c b l = some ((), noM q) := by
    intro q
    unfold pj_X10_delegate_41 pj_X10_delegate_42
    simp only [k_lt, pI_s1]
    rw [if_neg (by decide)]
    exact hno79 _ pI_s1
  unfold p_X10_delegate delB
  rw [p_isServerAt_eq]
  simp only [k_bd_s]
  cases h1 : srvB ms p
  · rw [if_pos (show b2i false = 0 from rfl), hno]; rfl
  · rw [if_neg (by decide), p_in_eq]
    simp only [k_bd_s]
    cases h2 : decide ((0 : Int32) ≤ c ∧ c ≤ 7)
    · rw [if_pos (show b2i false = 0 from rfl), hno]; rfl
    · rw [if_neg (by decide)]
      obtain ⟨i, hi, rfl⟩ := i8 (of_decide_eq_true h2)
      rw [k_aI_nI (show i < k_len 3 from hi), h_b1_s, nI_clamp (by omega)]
      by_cases h3 : ms.2.1 3 i = 0
      · rw [if_pos h3, decide_eq_true h3, p_isPrefix_eq]
        simp only [k_bd_s]
        cases h4 : vpB b l
        · rw [if_pos (show b2i false = 0 from rfl), hno]; rfl
        · rw [if_neg (by decide)]
          obtain ⟨n, hn, rfl, hv⟩ := vpB_nI h4
          unfold pj_X10_delegate_42
          simp only [k_lt, pI_s1, if_true]
          rw [p_owner_eq (k_pI ms 0 0) b hn hP]
          simp only [k_bd_s]
          have hp : ∃ j : Nat, j < 8 ∧ p = nI j := by
            unfold srvB at h1
            rw [Bool.and_eq_true] at h1
            obtain ⟨j, hj, e⟩ := i8 (of_decide_eq_true h1.1)
            exact ⟨j, hj, e⟩
          obtain ⟨j, hj, rfl⟩ := hp
          rw [ln_nI hn, nI_clamp (show j < 2 ^ 31 by omega)]
          have eo : ownE (k_pI ms 0 0) b n = ownE ms b n := rfl
          rw [eo]
          by_cases h5 : ownE ms b n = some j
          · rw [if_pos ((o2i_some (by omega) (fun j' h' => by have := ownE_lt h'; omega)).mpr h5).symm, decide_eq_true h5, k_aI_nI (show j < k_len 5 from hj), h_b1_s]
            by_cases h6 : ms.2.1 5 j = nI n
            · rw [if_pos (show (k_pI ms 0 0).2.1 5 j = nI n from h6), hno74, noM_ok, decide_eq_false (fun z => z h6)]
              rfl
            · rw [if_neg (show ¬ (k_pI ms 0 0).2.1 5 j = nI n from h6), decide_eq_true (show ¬ ms.2.1 5 j = nI n from h6)]
              unfold pj_X10_delegate_79
              rw [pI_s1, if_pos (by decide), k_sI_n (show i < k_len 3 from hi), h_b1_s, k_sI_n (show i < k_len 4 from hi), h_b1_s, k_sI_n (show i < k_len 5 from hi), h_b1_s, k_sI_n (show i < k_len 6 from hi), h_b1_s]
              rfl
          · rw [if_neg (fun z => h5 ((o2i_some (by omega) (fun j' h' => by have := ownE_lt h'; omega)).mp z.symm)), hno74, noM_ok, decide_eq_false h5]
            rfl
      · rw [if_neg h3, hno, decide_eq_false h3]; rfl
-- drop, repeat, forge, message
theorem p_drop_eq (ms : MS) (k : Int32) {n : Nat} (hn : ms.1 36 = nI n) (h : n ≤ 200) : p_X10_drop ms k = some ((), if msgB n k = true then takeM (okM ms) n k.toNatClampNeg else noM ms) := by
  unfold p_X10_drop
  rw [p_isMessage_eq ms k hn h]
  simp only [k_bd_s]
  cases hb : msgB n k
  · rw [if_pos (show b2i false = 0 from rfl)]; rfl
  · obtain ⟨i, hi, rfl⟩ := msgB_some h hb
    rw [if_neg (by decide), p_take_eq _ (n := n) (by rw [pI_n1 (by decide)]; exact hn) hi h, nI_clamp (by omega)]
    rfl
def mgF (ms : MS) (k : Nat) (j : Nat) : Int32 := ms.2.1 37 (8 * k + j)
theorem p_repeat_eq (ms : MS) (k : Int32) {n : Nat} (hn : ms.1 36 = nI n) (h : n ≤ 200) : p_X10_repeat ms k = some ((), if msgB n k = true then postM (okM ms) n (fun j => ms.2.1 37 (8 * k.toNatClampNeg + (if j < 8 then j else 7))) else noM ms) := by
  unfold p_X10_repeat
  rw [p_isMessage_eq ms k hn h]
  simp only [k_bd_s]
  cases hb : msgB n k
  · rw [if_pos (show b2i false = 0 from rfl)]; rfl
  · obtain ⟨i, hi, rfl⟩ := msgB_some h hb
    rw [if_neg (by decide), nI_clamp (by omega), b2i_not_t, nI_m8, nI_c1, nI_c2, nI_c3, nI_c4, nI_c5, nI_c6, nI_c7]
    have hl : ∀ j, j < 8 → 8 * i + j < k_len 37 := fun j hj => by show _ < 1608; omega
    rw [k_aI_nI (hl 6 (by omega)), h_b1_s, k_aI_nI (hl 7 (by omega)), h_b1_s, k_aI_nI (show 8 * i < k_len 37 from hl 0 (by omega)), h_b1_s, k_aI_nI (hl 1 (by omega)), h_b1_s, k_aI_nI (hl 2 (by omega)), h_b1_s, k_aI_nI (hl 3 (by omega)), h_b1_s, k_aI_nI (hl 4 (by omega)), h_b1_s]
    have hn' : (k_pI ms 0 0).1 36 = nI n := by rw [pI_n1 (by decide)]; exact hn
    rw [p_post_eq _ _ _ _ _ _ _ _ hn' h]
    simp only [k_bd_s]
    rw [k_aI_nI (hl 5 (by omega)), h_b1_s, hn', p_last_eq _ h hn']
    simp only [k_bd_s, if_true]
    have e5 : (postM (k_pI ms 0 0) n (mG ((k_pI ms 0 0).2.1 37 (8 * i)) ((k_pI ms 0 0).2.1 37 (8 * i + 1)) ((k_pI ms 0 0).2.1 37 (8 * i + 2)) ((k_pI ms 0 0).2.1 37 (8 * i + 3)) ((k_pI ms 0 0).2.1 37 (8 * i + 4)) 0 ((k_pI ms 0 0).2.1 37 (8 * i + 6)) ((k_pI ms 0 0).2.1 37 (8 * i + 7)))).2.1 37 (8 * i + 5) = ms.2.1 37 (8 * i + 5) := by
      unfold postM
      split
      · rfl
      · show (rW _ _ _).2.1 37 (8 * i + 5) = _
        rw [rW_i, if_pos rfl, if_neg (by omega)]; rfl
    rw [e5]
    congr 2
    unfold postM okM
    congr 2
    unfold rW
    congr 2
    unfold h_upA
    funext k' j
    congr 1
    dsimp only
    by_cases hj : j / 8 = n
    · rw [if_pos hj, if_pos hj, if_pos (by omega)]
      rcases (show j % 8 = 0 ∨ j % 8 = 1 ∨ j % 8 = 2 ∨ j % 8 = 3 ∨ j % 8 = 4 ∨ j % 8 = 5 ∨ j % 8 = 6 ∨ j % 8 = 7 by omega) with e | e | e | e | e | e | e | e <;> rw [e] <;> rfl
    · rw [if_neg hj, if_neg hj]
theorem p_forge_eq (ms : MS) (k i v : Int32) {n : Nat} (hn : ms.1 36 = nI n) (h : n ≤ 200) : p_X10_forge ms k i v = some ((), if (msgB n k && decide (0 ≤ i ∧ i ≤ 5)) = true then aS (okM ms) 37 (8 * k.toNatClampNeg + i.toNatClampNeg) v else noM ms) := by
  unfold p_X10_forge
  rw [p_isMessage_eq ms k hn h]
  simp only [k_bd_s]
  cases hb : msgB n k
  · rw [if_pos (show b2i false = 0 from rfl)]; rfl
  · obtain ⟨q, hq, rfl⟩ := msgB_some h hb
    rw [if_neg (by decide), p_in_eq]
    simp only [k_bd_s]
    cases h2 : decide ((0 : Int32) ≤ i ∧ i ≤ 5)
    · rw [if_pos (show b2i false = 0 from rfl)]
      unfold pj_X10_forge_24
      simp only [k_lt, pI_s1]
      rw [if_neg (by decide), if_neg (by decide), pI_pI]
      rfl
    · have h3 := of_decide_eq_true h2
      obtain ⟨j, hj, rfl⟩ := nI_of (Int32.not_lt.mpr h3.1)
      have hj5 : j ≤ 5 := (nI_leI hj (by omega)).mp h3.2
      rw [if_neg (by decide)]
      unfold pj_X10_forge_24
      simp only [k_lt, pI_s1, if_true, Bool.and_self]
      rw [nI_m8, nI_add, k_sI_n (show 8 * q + j < k_len 37 by show _ < 1608; omega), h_b1_s, nI_clamp (by omega), nI_clamp (by omega), pI_pI]
      rfl
theorem p_message_eq (ms : MS) (k i : Int32) {n : Nat} (hn : ms.1 36 = nI n) (h : n ≤ 200) : p_X10_message ms k i = some (if (msgB n k && decide (0 ≤ i ∧ i ≤ 7)) = true then (ms.2.1 37 (8 * k.toNatClampNeg + i.toNatClampNeg), okM ms) else (0, noM ms)) := by
  unfold p_X10_message
  rw [p_isMessage_eq ms k hn h]
  simp only [k_bd_s]
  cases hb : msgB n k
  · rw [if_pos (show b2i false = 0 from rfl)]; rfl
  · obtain ⟨q, hq, rfl⟩ := msgB_some h hb
    rw [if_neg (by decide), p_in_eq]
    simp only [k_bd_s]
    have e0 : k_pI (k_pI ms 0 (b2i (!true))) 0 1 = noM ms := pI_pI
    have e1 : k_pI (k_pI ms 0 (b2i (!true))) 0 0 = okM ms := pI_pI
    cases h2 : decide ((0 : Int32) ≤ i ∧ i ≤ 7)
    · rw [if_pos (show b2i false = 0 from rfl)]
      unfold pj_X10_message_26
      simp only [k_lt, pI_s1]
      rw [if_neg (by decide), if_neg (by decide), e0]
    · have h3 := of_decide_eq_true h2
      obtain ⟨j, hj, rfl⟩ := nI_of (Int32.not_lt.mpr h3.1)
      have hj5 : j ≤ 7 := (nI_leI hj (by omega)).mp h3.2
      rw [if_neg (by decide)]
      unfold pj_X10_message_26
      simp only [k_lt, pI_s1, if_true, Bool.and_self]
      rw [if_pos (by decide), nI_m8, nI_add, k_aI_nI (show 8 * q + j < k_len 37 by show _ < 1608; omega), h_b1_s, nI_clamp (by omega), nI_clamp (by omega), e1]
      rfl
end
/-! from 32.acts -/
section
/-! THE REFERENCE'S ACTS, over numbers: deliver, lose, draw, ask, follow, forget, came -/
theorem k38_0 {ms : MS} : k_aI ms 38 0 = some (ms.2.1 38 0) := k_aI_nI (k := 38) (i := 0) (by decide)
theorem k38_1 {ms : MS} : k_aI ms 38 1 = some (ms.2.1 38 1) := k_aI_nI (k := 38) (i := 1) (by decide)
theorem k38_2 {ms : MS} : k_aI ms 38 2 = some (ms.2.1 38 2) := k_aI_nI (k := 38) (i := 2) (by decide)
theorem k38_3 {ms : MS} : k_aI ms 38 3 = some (ms.2.1 38 3) := k_aI_nI (k := 38) (i := 3) (by decide)
theorem k38_4 {ms : MS} : k_aI ms 38 4 = some (ms.2.1 38 4) := k_aI_nI (k := 38) (i := 4) (by decide)
theorem k38_5 {ms : MS} : k_aI ms 38 5 = some (ms.2.1 38 5) := k_aI_nI (k := 38) (i := 5) (by decide)
theorem k38_6 {ms : MS} : k_aI ms 38 6 = some (ms.2.1 38 6) := k_aI_nI (k := 38) (i := 6) (by decide)
theorem k38_7 {ms : MS} : k_aI ms 38 7 = some (ms.2.1 38 7) := k_aI_nI (k := 38) (i := 7) (by decide)
theorem o2i_n : o2i none = -1 := rfl
theorem o2i_s {k : Nat} : o2i (some k) = nI k := rfl
def dlvM (ms : MS) (i : Nat) (s : Int32) : MS := aS (aS (if ms.2.1 35 i = 0 then aS ms 33 i s else ms) 35 i (ms.2.1 35 i + 1)) 31 i 2
theorem p_deliver_eq (ms : MS) {i : Nat} (s : Int32) (hi : i < 201) : p_X10_deliver ms (nI i) s = some ((), dlvM ms i s) := by
  unfold p_X10_deliver dlvM
  rw [k_aI_nI (show i < k_len 35 from hi), h_b1_s]
  by_cases h : ms.2.1 35 i = 0
  · rw [if_pos h, if_pos h, k_sI_n (show i < k_len 33 from hi), h_b1_s]
    unfold pj_X10_deliver_16
    rw [k_aI_nI (show i < k_len 35 from hi), h_b1_s, k_sI_n (show i < k_len 35 from hi), h_b1_s, k_sI_n (show i < k_len 31 from hi), h_b1_s, aS_k (by decide)]
  · rw [if_neg h, if_neg h]
    unfold pj_X10_deliver_16
    rw [k_aI_nI (show i < k_len 35 from hi), h_b1_s, k_sI_n (show i < k_len 35 from hi), h_b1_s, k_sI_n (show i < k_len 31 from hi), h_b1_s]
def losM (ms : MS) (i : Nat) : MS := if ms.2.1 31 i = 1 then aS ms 31 i 4 else ms
theorem p_lose_eq (ms : MS) {i : Nat} (hi : i < 201) : p_X10_lose ms (nI i) = some ((), losM ms i) := by
  unfold p_X10_lose losM
  rw [k_aI_nI (show i < k_len 31 from hi), h_b1_s]
  by_cases h : ms.2.1 31 i = 1
  · rw [if_pos h, if_pos h, k_sI_n (show i < k_len 31 from hi), h_b1_s]
  · rw [if_neg h, if_neg h]
def drw (g : Int32) : Int32 := ((g ^^^ (g <<< (13 &&& 31))) ^^^ h_ushr (g ^^^ (g <<< (13 &&& 31))) 17) ^^^ (((g ^^^ (g <<< (13 &&& 31))) ^^^ h_ushr (g ^^^ (g <<< (13 &&& 31))) 17) <<< (5 &&& 31))
theorem p_draw_eq (ms : MS) : p_X10_draw ms = some ((), k_pI ms 2 (drw (ms.1 2))) := by
  unfold p_X10_draw drw
  simp only [k_lt, pI_s1, pI_pI]
def postN (n : Nat) : Nat := if n = 200 then 200 else n + 1
theorem postN_le {n : Nat} (h : n ≤ 200) : postN n ≤ 200 := by unfold postN; split <;> omega
theorem postM_36 {ms : MS} {n : Nat} {f : Nat → Int32} (hn : ms.1 36 = nI n) : (postM ms n f).1 36 = nI (postN n) := by
  unfold postM postN
  split
  · rename_i h; subst h; rw [pI_n1 (by decide)]; exact hn
  · rw [pI_s1]
theorem postM_k {ms : MS} {n : Nat} {f : Nat → Int32} {k j : Nat} (h : k ≠ 37) : (postM ms n f).2.1 k j = ms.2.1 k j := by
  unfold postM
  split
  · rfl
  · show (rW _ _ _).2.1 k j = _
    rw [rW_i, if_neg h]
theorem postM_s {ms : MS} {n : Nat} {f : Nat → Int32} {k : Nat} (h : k ≠ 36) (h2 : k ≠ 42) : (postM ms n f).1 k = ms.1 k := by
  unfold postM
  split
  · rw [pI_n1 h2]
  · rw [pI_n1 h]; rfl
theorem postM_L {ms : MS} {n : Nat} {f : Nat → Int32} : (postM ms n f).2.2 = ms.2.2 := by
  unfold postM
  split <;> rfl
def askM (ms : MS) (n i : Nat) (sv : Int32) : MS := postM (aS (aS (k_pI ms 2 (drw (ms.1 2))) 31 i 0) 32 i (drw (ms.1 2))) n (mG (ms.2.1 29 i) (drw (ms.1 2)) (ms.2.1 30 i) 0 0 0 1 sv)
theorem p_ask_eq (ms : MS) {n i : Nat} (sv : Int32) (hi : i < 201) (hn : ms.1 36 = nI n) (h : n ≤ 200) : p_X10_ask ms (nI i) sv = some ((), askM ms n i sv) := by
  unfold p_X10_ask askM
  rw [p_draw_eq]
  simp only [k_bd_s]
  rw [k_sI_n (show i < k_len 31 from hi), h_b1_s, k_sI_n (show i < k_len 32 from hi), h_b1_s, k_aI_nI (show i < k_len 29 from hi), h_b1_s, k_aI_nI (show i < k_len 30 from hi), h_b1_s, p_post_eq (n := n) _ _ _ _ _ _ _ _ (by rw [aS_1, aS_1, pI_n1 (by decide)]; exact hn) h]
  simp only [k_bd_s]
  rfl
def folM (ms : MS) (n i : Nat) (pl : Int32) : MS := if pl = -1 then aS ms 31 i 3 else postM (aS ms 31 i 1) n (mG (ms.2.1 29 i) (nI i) (ms.2.1 30 i) 0 0 0 3 pl)
theorem p_follow_eq (ms : MS) {n i : Nat} (pl : Int32) (hi : i < 201) (hn : ms.1 36 = nI n) (h : n ≤ 200) : p_X10_follow ms (nI i) pl = some ((), folM ms n i pl) := by
  unfold p_X10_follow folM
  by_cases hp : pl = -1
  · rw [if_pos hp, if_pos hp]
    unfold pj_X10_follow_15
    rw [k_sI_n (show i < k_len 31 from hi), h_b1_s, if_pos hp]
  · rw [if_neg hp, if_neg hp]
    unfold pj_X10_follow_15
    rw [k_sI_n (show i < k_len 31 from hi), h_b1_s, if_neg hp, k_aI_nI (show i < k_len 29 from hi), h_b1_s, k_aI_nI (show i < k_len 30 from hi), h_b1_s, p_post_eq (n := n) _ _ _ _ _ _ _ _ (by rw [aS_1]; exact hn) h]
    simp only [k_bd_s]
    rfl
/-- the note of a site with an endpoint -/
def ntF (ms : MS) (s : Nat) (ep : Int32) : Option Nat := ff (fun k => liveN ms k && ag (ln (ms.2.1 20 k)) (ms.2.1 19 k) ep) (6 * s) 6
theorem p_noteF_eq (ms : MS) (ep : Int32) {s : Nat} (hs : s < 8) (hL : ∀ k, k < 48 → Ln (ms.2.1 20 k)) : p_X10_noteFor ms (nI s) ep = some (o2i (ntF ms s ep), ms) := p_noteFor_eq ms ep hs hL
theorem ntF_lt {ms : MS} {s : Nat} {ep : Int32} {k : Nat} (h : ntF ms s ep = some k) : k < 6 * s + 6 := ff_lt h
def fgtM (ms : MS) (s : Nat) (ep pl : Int32) : MS := match ntF ms s ep with
  | none => ms
  | some k => if ms.2.1 21 k = pl then aS ms 23 k 0 else ms
theorem p_forget_eq (ms : MS) {s : Nat} (ep pl : Int32) (hs : s < 8) (hL : ∀ k, k < 48 → Ln (ms.2.1 20 k)) : p_X10_forget ms (nI s) ep pl = some ((), fgtM ms s ep pl) := by
  unfold p_X10_forget fgtM
  rw [p_noteF_eq ms ep hs hL]
  simp only [k_bd_s]
  cases hk : ntF ms s ep with
  | none => rw [if_pos o2i_n]
  | some k =>
    have hk2 := ntF_lt hk
    rw [if_neg (fun z => by have := (o2i_none (o := some k) (fun j h => by cases h; omega)).mp z; cases this), o2i_s, k_aI_nI (show k < k_len 21 by show k < 48; omega), h_b1_s]
    by_cases h : ms.2.1 21 k = pl
    · rw [if_pos h, k_sI_n (show k < k_len 23 by show k < 48; omega), h_b1_s]
      simp only [h, if_true]
    · rw [if_neg h]
      simp only [h, if_false]
/-- whether a site has a prefix with an endpoint -/
def hasB (ms : MS) (s : Nat) (ep : Int32) : Bool := (ff (fun k => ag (ln (ms.2.1 17 k)) (ms.2.1 16 k) ep) (4 * s) (ms.2.1 15 s).toNatClampNeg).isSome
theorem p_has_eq (ms : MS) (ep : Int32) {s : Nat} (hs : s < 8) (hc : ∃ c : Nat, ms.2.1 15 s = nI c ∧ c ≤ 4) (hL : ∀ k, k < 32 → Ln (ms.2.1 17 k)) : p_X10_hasEndpoint ms (nI s) ep = some (b2i (hasB ms s ep), ms) := by
  obtain ⟨c, hc, hc4⟩ := hc
  rw [p_hasEndpoint_eq ms ep hs hc hc4 hL]
  unfold hasB
  rw [hc, nI_clamp (by omega)]
/-- a SOLICIT goes to the sender -/
def solM (ms : MS) (n : Nat) : MS := postM (k_pI ms 41 (ms.1 41 + 1)) n (mG (ms.2.1 38 2) (ms.2.1 38 7) 0 0 0 0 4 (ms.2.1 38 0))
theorem p_sol_eq (ms : MS) {n : Nat} {pl ep : Int32} (h7 : ms.2.1 38 7 = pl) (h2 : ms.2.1 38 2 = ep) (hn : ms.1 36 = nI n) (h : n ≤ 200) : pj_X10_came_196 ms pl ep = some ((), solM ms n) := by
  unfold pj_X10_came_196 solM
  simp only [k_lt]
  rw [k38_0, h_b1_s, p_post_eq (n := n) _ _ _ _ _ _ _ _ (by rw [pI_n1 (by decide)]; exact hn) h]
  simp only [k_bd_s]
  rw [h7, h2]; rfl
/-- DATA that goes on -/
def onM (ms : MS) (n w : Nat) : MS := postM ms n (mG (ms.2.1 38 0) (ms.2.1 38 1) (ms.2.1 38 2) (ms.2.1 38 3) (ms.2.1 38 4) (ms.2.1 38 5) 3 (ms.2.1 14 w))
def onB (ms : MS) (pl : Nat) : Bool := decide (¬ ms.2.1 26 pl = -1) && decide (ms.1 1 < ms.2.1 27 pl)
def cameM (ms : MS) (n pl : Nat) : MS :=
  if (siteB ms (ms.2.1 38 0) && decide (1 ≤ ms.2.1 38 1 ∧ ms.2.1 38 1 ≤ ms.1 28)) = true then
    match ff (fun s => decide (ms.2.1 14 s = nI pl)) 0 8 with
    | some h => if hasB ms h (ms.2.1 38 2) = true then dlvM ms (ms.2.1 38 1).toNatClampNeg (nI h) else solM (losM ms (ms.2.1 38 1).toNatClampNeg) n
    | none => if onB ms pl = true then solM (onM ms n (ms.2.1 26 pl).toNatClampNeg) (postN n) else losM ms (ms.2.1 38 1).toNatClampNeg
  else ms
theorem k_aI_0 {ms : MS} {k : Nat} (h : 0 < k_len k) : k_aI ms k 0 = some (ms.2.1 k 0) := k_aI_nI (i := 0) h
theorem losM_1 {ms : MS} {i : Nat} : (losM ms i).1 = ms.1 := by unfold losM; split <;> rfl
theorem losM_k {ms : MS} {i k j : Nat} (h : k ≠ 31) : (losM ms i).2.1 k j = ms.2.1 k j := by
  unfold losM
  split
  · rw [aS_k h]
  · rfl
set_option maxHeartbeats 2000000 in
theorem p_came_eq (ms : MS) {n pl np : Nat} (h7 : ms.2.1 38 7 = nI pl) (hpl : pl < 16) (hn : ms.1 36 = nI n) (h : n ≤ 200) (hnp : ms.1 28 = nI np) (hnp2 : np ≤ 200)
    (hc : ∀ s, s < 8 → ∃ c : Nat, ms.2.1 15 s = nI c ∧ c ≤ 4) (hL : ∀ k, k < 32 → Ln (ms.2.1 17 k)) (hw : ms.2.1 26 pl = -1 ∨ ∃ w, w < 8 ∧ ms.2.1 26 pl = nI w) : p_X10_came ms = some ((), cameM ms n pl) := by
  unfold p_X10_came cameM
  rw [k38_7, h_b1_s, k38_1, h_b1_s, k38_2, h_b1_s, k38_0, h_b1_s, p_isSite_eq]
  simp only [k_bd_s]
  cases hs : siteB ms (ms.2.1 38 0)
  · rw [if_pos (show b2i false = 0 from rfl)]; rfl
  · rw [if_neg (by decide), p_in_eq]
    simp only [k_bd_s, Bool.true_and]
    cases hp : decide (1 ≤ ms.2.1 38 1 ∧ ms.2.1 38 1 ≤ ms.1 28)
    · rw [if_pos (show b2i false = 0 from rfl)]; rfl
    · rw [if_neg (by decide)]
      simp only [if_true]
      have hp2 := of_decide_eq_true hp
      obtain ⟨i, hi, e1⟩ := nI_of (x := ms.2.1 38 1) (fun z => by
        have h9 : 1 ≤ ms.2.1 38 1 := hp2.1
        have := Int32.lt_of_le_of_lt h9 z
        exact absurd this (by decide))
      have hi2 : 1 ≤ i ∧ i ≤ np := by
        rw [e1, hnp] at hp2
        exact ⟨(nI_leI (a := 1) (by omega) hi).mp hp2.1, (nI_leI hi (by omega)).mp hp2.2⟩
      rw [p_siteAt_eq, h7]
      simp only [k_bd_s]
      rw [e1, nI_clamp hi]
      cases hf : ff (fun s => decide (ms.2.1 14 s = nI pl)) 0 8 with
      | some w =>
        have hw8 := ff_lt hf
        rw [if_neg (fun z => by have := (o2i_none (o := some w) (fun j h => by cases h; omega)).mp z; cases this)]
        unfold pj_X10_came_88 pj_X10_came_89
        rw [if_neg (fun z => by have := (o2i_none (o := some w) (fun j h => by cases h; omega)).mp z; cases this), show o2i (some w) = nI w from rfl, p_has_eq ms _ (by omega) (hc w (by omega)) hL]
        simp only [k_bd_s]
        cases hb : hasB ms w (ms.2.1 38 2)
        · rw [if_pos (show b2i false = 0 from rfl)]
          unfold pj_X10_came_115
          rw [if_pos rfl, p_lose_eq ms (by omega)]
          simp only [k_bd_s]
          unfold pj_X10_came_125
          rw [if_neg (fun z => by have := (o2i_none (o := some w) (fun j h => by cases h; omega)).mp z; cases this)]
          unfold pj_X10_came_137
          rw [if_pos rfl, p_sol_eq (n := n) _ (by rw [losM_k (by decide)]; exact h7) (losM_k (by decide)) (by rw [losM_1]; exact hn) h]
          rfl
        · rw [if_neg (by decide), p_deliver_eq ms _ (by omega)]
          simp only [k_bd_s]
          rfl
      | none =>
        rw [if_pos o2i_n, k_aI_nI (show pl < k_len 26 from hpl), h_b1_s]
        unfold onB
        have hlose : pj_X10_came_88 ms (nI pl) (nI i) (ms.2.1 38 2) (o2i none) = some ((), losM ms i) := by
          unfold pj_X10_came_88 pj_X10_came_89
          rw [if_pos o2i_n]
          unfold pj_X10_came_115
          rw [if_pos rfl, p_lose_eq ms (by omega)]
          simp only [k_bd_s]
          unfold pj_X10_came_125
          rw [if_pos o2i_n, if_pos rfl]
        by_cases h26 : ms.2.1 26 pl = -1
        · rw [if_pos h26, hlose, decide_eq_false (fun z => z h26)]
          rfl
        · rw [if_neg h26, k_aI_nI (show pl < k_len 27 from hpl), h_b1_s, decide_eq_true (show ¬ ms.2.1 26 pl = -1 from h26)]
          by_cases h27 : ms.2.1 27 pl ≤ ms.1 1
          · rw [if_pos h27, hlose, decide_eq_false (Int32.not_lt.mpr h27)]
            rfl
          · rw [if_neg h27, decide_eq_true (Int32.not_le.mp h27)]
            obtain ⟨w, hw8, ew⟩ := hw.resolve_left h26
            unfold pj_X10_came_89
            rw [if_pos o2i_n]
            unfold pj_X10_came_115
            rw [if_neg (by decide)]
            unfold pj_X10_came_125
            rw [if_pos o2i_n, if_neg (by decide)]
            unfold pj_X10_came_137
            rw [if_neg (by decide), k_aI_nI (show pl < k_len 26 from hpl), h_b1_s, ew, k_aI_nI (show w < k_len 14 from hw8), h_b1_s, k38_0, h_b1_s, k38_3, h_b1_s, k38_4, h_b1_s, p_post_eq _ _ _ _ _ _ _ _ hn h]
            simp only [k_bd_s]
            rw [k38_5, h_b1_s, postM_k (by decide), hn, p_last_eq _ h hn]
            simp only [k_bd_s]
            rw [p_sol_eq (n := postN n) _ (by rw [postM_k (by decide)]; exact h7) (postM_k (by decide)) (postM_36 hn) (postN_le h)]
            unfold onM
            rw [nI_clamp (by omega), e1]
            rfl
end
/-! from 33.reg -/
section
/-! THE REFERENCE'S registered and requested, over numbers -/
theorem nI_ne_m1 {t : Nat} (h : t < 2 ^ 31) : ¬ nI t = -1 := fun z => by have := (o2i_none (o := some t) (fun j h' => by cases h'; omega)).mp z; cases this
def mix (h v : Int32) : Int32 := ((h ^^^ v) * 16777619) ^^^ h_ushr ((h ^^^ v) * 16777619) 15
def tagF (s b l p n : Int32) : Int32 := mix (mix (mix (mix (mix ((s + 1) * 40503) s) b) l) p) n
theorem p_tag_eq (ms : MS) (s b l p n : Int32) : p_X10_tag ms s b l p n = some (tagF s b l p n, ms) := rfl
def lS (ms : MS) (j : Nat) (v : Int64) : MS := (ms.1, ms.2.1, va_up ms.2.2 j v)
theorem k_sL_n {ms : MS} {i : Nat} {v : Int64} (h : i < 64) : k_sL ms (nI i) v = some (lS ms i v) := k_sL_nI h
theorem siteB_nI {ms : MS} {a : Int32} (h : siteB ms a = true) : ∃ i : Nat, i < 8 ∧ a = nI i ∧ ¬ ms.2.1 14 i = -1 := by
  unfold siteB at h
  rw [Bool.and_eq_true] at h
  obtain ⟨j, hj, rfl⟩ := i8 (of_decide_eq_true h.1)
  have h2 := of_decide_eq_true h.2
  rw [nI_clamp (by omega)] at h2
  exact ⟨j, hj, rfl, h2⟩
theorem siteB_i {ms : MS} {i : Nat} (hi : i < 8) : siteB ms (nI i) = decide (¬ ms.2.1 14 i = -1) := by
  unfold siteB
  rw [decide_eq_true (i8' hi), nI_clamp (by omega), Bool.true_and]
theorem srvB_nI {ms : MS} {a : Int32} (h : srvB ms a = true) : ∃ i : Nat, i < 8 ∧ a = nI i ∧ ¬ ms.2.1 3 i = 0 := by
  unfold srvB at h
  rw [Bool.and_eq_true] at h
  obtain ⟨j, hj, rfl⟩ := i8 (of_decide_eq_true h.1)
  have h2 := of_decide_eq_true h.2
  rw [nI_clamp (by omega)] at h2
  exact ⟨j, hj, rfl, h2⟩
theorem srvB_i {ms : MS} {i : Nat} (hi : i < 8) : srvB ms (nI i) = decide (¬ ms.2.1 3 i = 0) := by
  unfold srvB
  rw [decide_eq_true (i8' hi), nI_clamp (by omega), Bool.true_and]
/-- the entry for a prefix; a free place -/
def entF (ms : MS) (sv : Nat) (b l : Int32) : Option Nat := ff (fun k => liveE ms k && (decide (ms.2.1 7 k = b) && decide (ms.2.1 8 k = l))) (16 * sv) 16
def freF (ms : MS) (sv : Nat) : Option Nat := ff (fun k => !liveE ms k) (16 * sv) 16
/-- where the entry goes -/
def slotM (ms : MS) (sv : Nat) (s b l : Int32) : Option Nat := match entF ms sv b l with
  | some e => if ms.2.1 9 e = s then some e else none
  | none => freF ms sv
def goodR (ms : MS) (sv : Nat) : Bool := siteB ms (ms.2.1 38 0) && (decide (0 ≤ ms.2.1 38 3 ∧ ms.2.1 38 3 ≤ 15) && (vpB (ms.2.1 38 1) (ms.2.1 38 2) && (decide (tagF (ms.2.1 38 0) (ms.2.1 38 1) (ms.2.1 38 2) (ms.2.1 38 3) (ms.2.1 38 4) = ms.2.1 38 5) && (decide (ownE ms (ms.2.1 38 1) (ln (ms.2.1 38 2)) = some sv) && decide (ms.2.2 (8 * sv + (ms.2.1 38 0).toNatClampNeg) < (ms.2.1 38 4).toInt64)))))
def refM (ms : MS) : MS := k_pI ms 39 (ms.1 39 + 1)
def setE (ms : MS) (sv e : Nat) : MS := aS (aS (aS (aS (aS (aS (lS ms (8 * sv + (ms.2.1 38 0).toNatClampNeg) (ms.2.1 38 4).toInt64) 7 e (ms.2.1 38 1)) 8 e (ms.2.1 38 2)) 9 e (ms.2.1 38 0)) 10 e (ms.2.1 38 3)) 11 e (ms.2.1 38 4)) 12 e (ms.1 1 + 180)
def slotR (ms : MS) (sv : Nat) : MS := match slotM ms sv (ms.2.1 38 0) (ms.2.1 38 1) (ms.2.1 38 2) with
    | some e => setE ms sv e
    | none => refM ms
def regM (ms : MS) (sv : Nat) : MS := if goodR ms sv = true then slotR ms sv else refM ms
theorem p_entryF_eq (ms : MS) (b l : Int32) {s : Nat} (hs : s < 8) : p_X10_entryFor ms (nI s) b l = some (o2i (entF ms s b l), ms) := p_entryFor_eq ms b l hs
theorem p_emptyF_eq (ms : MS) {s : Nat} (hs : s < 8) : p_X10_emptyEntry ms (nI s) = some (o2i (freF ms s), ms) := p_emptyEntry_eq ms hs
theorem reg_no (ms : MS) (l1 s : Int32) : pj_X10_registered_158 ms l1 s = some ((), refM ms) := by
  unfold pj_X10_registered_158 pj_X10_registered_159
  rw [if_pos rfl]
  unfold pj_X10_registered_185
  rw [if_pos rfl]
  unfold pj_X10_registered_212 pj_X10_registered_213
  rw [if_pos rfl]
  unfold pj_X10_registered_243
  rw [if_pos rfl]
  rfl
theorem reg_no1 (ms : MS) (l1 s : Int32) : pj_X10_registered_106 ms l1 s = some ((), refM ms) := by
  unfold pj_X10_registered_106 pj_X10_registered_107
  rw [if_pos rfl]
  exact reg_no ms l1 s
theorem reg_no2 (ms : MS) (l1 s l4 : Int32) : pj_X10_registered_212 ms l1 s l4 = some ((), refM ms) := by
  unfold pj_X10_registered_212 pj_X10_registered_213
  rw [if_pos rfl]
  unfold pj_X10_registered_243
  rw [if_pos rfl]
  rfl
theorem lS_2 {ms : MS} {j : Nat} {v : Int64} {k i : Nat} : (lS ms j v).2.1 k i = ms.2.1 k i := rfl
theorem reg_set (ms : MS) {sv s e : Nat} (hv8 : sv < 8) (hs : s < 8) (he : e < 128) (e0 : ms.2.1 38 0 = nI s) : pj_X10_registered_243 ms (nI sv) (nI s) 1 (nI e) = some ((), setE ms sv e) := by
  unfold pj_X10_registered_243
  rw [if_neg (by decide), k38_4, h_b1_s, nI_m8, nI_add, k_sL_n (show 8 * sv + s < 64 by omega), h_b1_s, k38_1, h_b1_s, k_sI_n (show e < k_len 7 from he), h_b1_s, k38_2, h_b1_s, k_sI_n (show e < k_len 8 from he), h_b1_s, k_sI_n (show e < k_len 9 from he), h_b1_s, k38_3, h_b1_s, k_sI_n (show e < k_len 10 from he), h_b1_s, k38_4, h_b1_s, k_sI_n (show e < k_len 11 from he), h_b1_s, k_sI_n (show e < k_len 12 from he), h_b1_s]
  simp only [aS_k (k := 7) (k' := 38) (by decide), aS_k (k := 8) (k' := 38) (by decide), aS_k (k := 9) (k' := 38) (by decide), aS_k (k := 10) (k' := 38) (by decide), aS_1, lS_2]
  unfold setE
  rw [e0, nI_clamp (by omega)]
  rfl
theorem reg_slot (ms : MS) {sv s : Nat} (hv8 : sv < 8) (hs8 : s < 8) (es : ms.2.1 38 0 = nI s) : pj_X10_registered_159 ms (nI sv) (nI s) 1 = some ((), slotR ms sv) := by
  unfold pj_X10_registered_159
  rw [if_neg (by decide), k38_1, h_b1_s, k38_2, h_b1_s, p_entryF_eq ms _ _ hv8]
  simp only [k_bd_s]
  unfold slotR slotM pj_X10_registered_185
  rw [if_neg (by decide), es]
  cases he : entF ms sv (ms.2.1 38 1) (ms.2.1 38 2) with
  | some e =>
    have he2 := ff_lt he
    rw [o2i_s, if_neg (nI_ne_m1 (by omega)), k_aI_nI (show e < k_len 9 by show e < 128; omega), h_b1_s]
    by_cases h9 : ms.2.1 9 e = nI s
    · rw [if_pos h9]
      simp only [h9, if_true]
      unfold pj_X10_registered_208 pj_X10_registered_213
      rw [if_neg (by decide), if_neg (nI_ne_m1 (by omega))]
      exact reg_set ms hv8 hs8 (by omega) es
    · rw [if_neg h9, reg_no2]
      simp only [h9, if_false]
  | none =>
    rw [if_pos o2i_n]
    unfold pj_X10_registered_208 pj_X10_registered_213
    rw [if_neg (by decide), if_pos o2i_n, p_emptyF_eq ms hv8]
    simp only [k_bd_s]
    cases hf : freF ms sv with
    | none =>
      rw [if_pos o2i_n]
      unfold pj_X10_registered_242 pj_X10_registered_243
      rw [if_pos rfl]
      rfl
    | some e =>
      have he2 := ff_lt hf
      rw [o2i_s, if_neg (nI_ne_m1 (by omega))]
      unfold pj_X10_registered_242
      exact reg_set ms hv8 hs8 (by omega) es
theorem p_registered_eq (ms : MS) {a : Int32} (h7 : ms.2.1 38 7 = a) (hP : ∀ k, k < 8 → Ln (ms.2.1 5 k)) : p_X10_registered ms = some ((), if srvB ms a = true then regM ms a.toNatClampNeg else ms) := by
  unfold p_X10_registered
  rw [k38_7, h_b1_s, h7, p_isServerAt_eq]
  simp only [k_bd_s]
  cases hsv : srvB ms a
  · rw [if_pos (show b2i false = 0 from rfl)]
    simp only [Bool.false_eq_true, if_false]
  · obtain ⟨sv, hv8, rfl, hsv3⟩ := srvB_nI hsv
    rw [if_neg (by decide), nI_clamp (by omega)]
    simp only [if_true]
    rw [k38_0, h_b1_s, p_isSite_eq]
    simp only [k_bd_s]
    unfold regM goodR
    cases hs : siteB ms (ms.2.1 38 0)
    · rw [if_pos (show b2i false = 0 from rfl), reg_no1]
      simp only [Bool.false_and, Bool.false_eq_true, if_false]
    · rw [if_neg (by decide), k38_3, h_b1_s, p_in_eq]
      simp only [k_bd_s, Bool.true_and]
      obtain ⟨s, hs8, es, -⟩ := siteB_nI hs
      cases h3 : decide ((0 : Int32) ≤ ms.2.1 38 3 ∧ ms.2.1 38 3 ≤ 15)
      · rw [if_pos (show b2i false = 0 from rfl), reg_no1]
        simp only [Bool.false_and, Bool.false_eq_true, if_false]
      · rw [if_neg (by decide), k38_1, h_b1_s, k38_2, h_b1_s, p_isPrefix_eq]
        simp only [k_bd_s, Bool.true_and]
        cases h4 : vpB (ms.2.1 38 1) (ms.2.1 38 2)
        · rw [if_pos (show b2i false = 0 from rfl), reg_no1]
          simp only [Bool.false_and, Bool.false_eq_true, if_false]
        · obtain ⟨n, hn, en, -⟩ := vpB_nI h4
          generalize htg : tagF (ms.2.1 38 0) (ms.2.1 38 1) (ms.2.1 38 2) (ms.2.1 38 3) (ms.2.1 38 4) = tg
          have ht : p_X10_tag ms (ms.2.1 38 0) (ms.2.1 38 1) (ms.2.1 38 2) (ms.2.1 38 3) (ms.2.1 38 4) = some (tg, ms) := by
            rw [← htg]
            exact p_tag_eq _ _ _ _ _ _
          rw [if_neg (by decide), k38_1, h_b1_s, k38_2, h_b1_s, k38_3, h_b1_s, k38_4, h_b1_s, ht, k_bd_s, k38_5, h_b1_s]
          simp only [Bool.true_and]
          by_cases h5 : tg = ms.2.1 38 5
          · rw [if_pos h5, decide_eq_true h5]
            unfold pj_X10_registered_107
            rw [if_neg (by decide), k38_1, h_b1_s, k38_2, h_b1_s]
            have ho := p_owner_eq ms (ms.2.1 38 1) hn hP
            rw [← en] at ho
            rw [ho]
            simp only [k_bd_s, Bool.true_and]
            have eln : ln (ms.2.1 38 2) = n := by rw [en]; exact ln_nI hn
            rw [eln]
            by_cases h6 : ownE ms (ms.2.1 38 1) n = some sv
            · rw [if_pos ((o2i_some (by omega) (fun j' h' => by have := ownE_lt h'; omega)).mpr h6).symm, decide_eq_true h6, k38_4, h_b1_s, es, nI_m8, nI_add, k_aL_nI (show 8 * sv + s < 64 by omega), h_b1_s, nI_clamp (by omega)]
              simp only [Bool.true_and]
              by_cases h8 : ms.2.2 (8 * sv + s) < (ms.2.1 38 4).toInt64
              · rw [if_neg (fun z => Int64.not_lt.mpr ((lg_cmp_le _ _).mp z) h8), decide_eq_true h8]
                simp only [if_true]
                rw [reg_slot ms hv8 hs8 es]
              · rw [if_pos ((lg_cmp_le _ _).mpr (Int64.not_lt.mp h8)), reg_no, decide_eq_false h8]
                simp only [Bool.false_eq_true, if_false]
            · rw [if_neg (fun z => h6 ((o2i_some (by omega) (fun j' h' => by have := ownE_lt h'; omega)).mp z.symm)), reg_no, decide_eq_false h6]
              simp only [Bool.false_and, Bool.false_eq_true, if_false]
          · rw [if_neg h5, reg_no1, decide_eq_false h5]
            simp only [Bool.false_and, Bool.false_eq_true, if_false]
-- requested
def chiF (ms : MS) (sv : Nat) (ep : Int32) : Option Nat := ff (fun c => decide (ms.2.1 6 c = nI sv) && ag (ln (ms.2.1 5 c)) (ms.2.1 4 c) ep) 0 8
def pieL (ms : MS) (sv : Nat) (ep : Int32) : Option Nat := ff (fun n => !crowd ms sv ep n (bestE ms ep sv)) (match bestE ms ep sv with
    | none => ln (ms.2.1 5 sv)
    | some k => ln (ms.2.1 8 k)) (33 - (match bestE ms ep sv with
    | none => ln (ms.2.1 5 sv)
    | some k => ln (ms.2.1 8 k)))
def repM (ms : MS) (n sv L : Nat) : MS := match bestE ms (ms.2.1 38 2) sv with
  | none => postM ms n (mG (ms.2.1 38 1) 2 (ms.2.1 38 2 &&& mk L) (nI L) 0 0 2 (ms.2.1 38 0))
  | some k => postM ms n (mG (ms.2.1 38 1) 1 (ms.2.1 38 2 &&& mk L) (nI L) (ms.2.1 10 k) (ms.2.1 11 k) 2 (ms.2.1 38 0))
def reqM (ms : MS) (n sv : Nat) : MS :=
  if (siteB ms (ms.2.1 38 0) && ag (ln (ms.2.1 5 sv)) (ms.2.1 4 sv) (ms.2.1 38 2)) = true then
    match chiF ms sv (ms.2.1 38 2) with
    | some c => postM ms n (mG (ms.2.1 38 1) 0 (ms.2.1 4 c) (ms.2.1 5 c) (nI c) 0 2 (ms.2.1 38 0))
    | none => match pieL ms sv (ms.2.1 38 2) with
      | some L => repM ms n sv L
      | none => ms
  else ms
theorem bestE_lt {ms : MS} {ep : Int32} {sv k : Nat} (hs : sv < 8) (hL : ∀ k, k < 128 → Ln (ms.2.1 8 k)) (h : bestE ms ep sv = some k) : k < 128 := by
  have := ((bestE_spec ms ep sv hs hL).1 k h).1
  omega
set_option maxHeartbeats 2000000 in
theorem p_requested_eq (ms : MS) {a : Int32} {n : Nat} (h7 : ms.2.1 38 7 = a) (hn : ms.1 36 = nI n) (h : n ≤ 200) (hP : ∀ k, k < 8 → Ln (ms.2.1 5 k)) (hL : ∀ k, k < 128 → Ln (ms.2.1 8 k))
    (hcr : ∀ sv, sv < 8 → a = nI sv → chiF ms sv (ms.2.1 38 2) = none → crowd ms sv (ms.2.1 38 2) 32 (bestE ms (ms.2.1 38 2) sv) = false) : p_X10_requested ms = some ((), if srvB ms a = true then reqM ms n a.toNatClampNeg else ms) := by
  unfold p_X10_requested
  rw [k38_7, h_b1_s, h7, k38_0, h_b1_s, k38_2, h_b1_s, p_isServerAt_eq]
  simp only [k_bd_s]
  cases hsv : srvB ms a
  · rw [if_pos (show b2i false = 0 from rfl)]; rfl
  · obtain ⟨sv, hv8, rfl, hsv3⟩ := srvB_nI hsv
    rw [if_neg (by decide), nI_clamp (by omega), p_isSite_eq]
    simp only [k_bd_s, if_true]
    unfold reqM
    cases hs : siteB ms (ms.2.1 38 0)
    · rw [if_pos (show b2i false = 0 from rfl)]; rfl
    · rw [if_neg (by decide), k_aI_nI (show sv < k_len 4 from hv8), h_b1_s, k_aI_nI (show sv < k_len 5 from hv8), h_b1_s, p_begin_L ms _ _ (hP sv hv8)]
      simp only [k_bd_s, Bool.true_and]
      cases hag : ag (ln (ms.2.1 5 sv)) (ms.2.1 4 sv) (ms.2.1 38 2)
      · rw [if_pos (show b2i false = 0 from rfl)]; rfl
      · rw [if_neg (by decide)]
        simp only [if_true]
        rw [hn]
        -- the children
        have key := lp_find (fun m k => pg_X10_requested_67 m ms (nI sv) (ms.2.1 38 0) (ms.2.1 38 2) (nI n) k) 8 (fun c => decide (ms.2.1 6 c = nI sv) && ag (ln (ms.2.1 5 c)) (ms.2.1 4 c) (ms.2.1 38 2)) (fun c => some ((), postM ms n (mG (ms.2.1 38 1) 0 (ms.2.1 4 c) (ms.2.1 5 c) (nI c) 0 2 (ms.2.1 38 0))))
          (pg_X10_requested_67 1 ms (nI sv) (ms.2.1 38 0) (ms.2.1 38 2) (nI n) (nI 8))
          (fun m => by
            show pg_X10_requested_67 (m + 1) ms (nI sv) (ms.2.1 38 0) (ms.2.1 38 2) (nI n) (nI 8) = _
            rw [pg_X10_requested_67, pg_X10_requested_67, show (8 : Int32) = nI 8 from rfl, if_pos (Int32.le_refl _), if_pos (Int32.le_refl _)])
          (fun m i hi => by
            show pg_X10_requested_67 (m + 1) ms (nI sv) (ms.2.1 38 0) (ms.2.1 38 2) (nI n) (nI i) = _
            rw [pg_X10_requested_67, if_neg (show ¬ (8 : Int32) ≤ nI i from nI_ge (b := 8) hi (by omega)), k_aI_nI (show i < k_len 6 from hi), h_b1_s]
            by_cases h6 : ms.2.1 6 i = nI sv
            · rw [if_pos h6, decide_eq_true h6, k_aI_nI (show i < k_len 4 from hi), h_b1_s, k_aI_nI (show i < k_len 5 from hi), h_b1_s, p_begin_L ms _ _ (hP i hi)]
              simp only [k_bd_s, Bool.true_and]
              cases hg : ag (ln (ms.2.1 5 i)) (ms.2.1 4 i) (ms.2.1 38 2)
              · rw [if_pos (show b2i false = 0 from rfl), nI_1]; rfl
              · rw [if_neg (by decide), k38_1, h_b1_s, k_aI_nI (show i < k_len 4 from hi), h_b1_s, k_aI_nI (show i < k_len 5 from hi), h_b1_s, p_post_eq _ _ _ _ _ _ _ _ hn h]
                simp only [k_bd_s, if_true]
            · rw [if_neg h6, decide_eq_false h6, nI_1]; rfl)
          8 h_hN 0 (by omega) (h_hN_lt (by omega))
        have key' : pg_X10_requested_67 h_hN ms (nI sv) (ms.2.1 38 0) (ms.2.1 38 2) (nI n) 0 = _ := key
        rw [key']
        show (match chiF ms sv (ms.2.1 38 2) with
          | none => _
          | some c => _) = _
        cases hch : chiF ms sv (ms.2.1 38 2) with
        | some c => rfl
        | none =>
          dsimp only
          have hcr0 := hcr sv hv8 rfl hch
          -- the end of the widening
          have hfin : ∀ (m L : Nat), L ≤ 32 → crowd ms sv (ms.2.1 38 2) L (bestE ms (ms.2.1 38 2) sv) = false → pg_X10_requested_177 (m + 1) ms (nI sv) (ms.2.1 38 0) (ms.2.1 38 2) (nI n) (o2i (bestE ms (ms.2.1 38 2) sv)) (nI L) = some ((), repM ms n sv L) := by
            intro m L hL32 hc0
            rw [pg_X10_requested_177, p_isCrowded_eq ms _ _ hv8 hL32 (fun j hj => bestE_lt hv8 hL hj) hL hP, hc0]
            simp only [k_bd_s]
            rw [if_pos (show b2i false = 0 from rfl), k38_1, h_b1_s]
            unfold repM
            cases hb : bestE ms (ms.2.1 38 2) sv with
            | none =>
              rw [if_pos (show o2i none = -1 from rfl)]
              unfold pj_X10_requested_216
              rw [p_cutTo_eq ms _ hL32]
              simp only [k_bd_s]
              rw [if_pos (show o2i none = -1 from rfl)]
              unfold pj_X10_requested_241
              rw [p_post_eq _ _ _ _ _ _ _ _ hn h]
              simp only [k_bd_s]
              rw [if_pos (show o2i none = -1 from rfl), p_last_eq _ h hn]
              simp only [k_bd_s]
            | some e =>
              have he := bestE_lt hv8 hL hb
              have hne : ¬ nI e = -1 := nI_ne_m1 (by omega)
              rw [o2i_s, if_neg hne]
              unfold pj_X10_requested_216
              rw [p_cutTo_eq ms _ hL32]
              simp only [k_bd_s]
              rw [if_neg hne, k_aI_nI (show e < k_len 10 from he), h_b1_s]
              unfold pj_X10_requested_241
              rw [p_post_eq _ _ _ _ _ _ _ _ hn h]
              simp only [k_bd_s]
              rw [if_neg hne, k_aI_nI (show e < k_len 11 from he), h_b1_s, postM_k (by decide), p_last_eq _ h hn]
              simp only [k_bd_s]
          -- the widening
          have hgo : ∀ (c m L : Nat), L + c = 32 → c < m → pg_X10_requested_177 m ms (nI sv) (ms.2.1 38 0) (ms.2.1 38 2) (nI n) (o2i (bestE ms (ms.2.1 38 2) sv)) (nI L) = (match ff (fun n => !crowd ms sv (ms.2.1 38 2) n (bestE ms (ms.2.1 38 2) sv)) L (c + 1) with
            | some L => some ((), repM ms n sv L)
            | none => some ((), ms)) := by
            intro c
            induction c with
            | zero =>
              intro m L h1 h2
              obtain ⟨m', rfl⟩ : ∃ m', m = m' + 1 := ⟨m - 1, by omega⟩
              have e32 : L = 32 := by omega
              subst e32
              rw [hfin m' 32 (by omega) hcr0]
              unfold ff
              rw [hcr0]; rfl
            | succ c ih =>
              intro m L h1 h2
              obtain ⟨m', rfl⟩ : ∃ m', m = m' + 1 := ⟨m - 1, by omega⟩
              unfold ff
              cases hc0 : crowd ms sv (ms.2.1 38 2) L (bestE ms (ms.2.1 38 2) sv)
              · rw [hfin m' L (by omega) hc0]; rfl
              · rw [pg_X10_requested_177, p_isCrowded_eq ms _ _ hv8 (by omega) (fun j hj => bestE_lt hv8 hL hj) hL hP, hc0]
                simp only [k_bd_s]
                rw [if_neg (by decide), nI_1, ih m' (L + 1) (by omega) (by omega)]
                rfl
          rw [pg_X10_requested_67, show (8 : Int32) = nI 8 from rfl, if_pos (Int32.le_refl _), p_best_eq ms _ hv8 hL]
          simp only [k_bd_s]
          unfold pieL
          cases hb : bestE ms (ms.2.1 38 2) sv with
          | none =>
            obtain ⟨el, hl⟩ := Ln_nI (hP sv hv8)
            rw [if_pos (show o2i none = -1 from rfl), k_aI_nI (show sv < k_len 5 from hv8), h_b1_s]
            have := hgo (32 - ln (ms.2.1 5 sv)) h_hN (ln (ms.2.1 5 sv)) (by omega) (h_hN_lt (by omega))
            rw [hb, ← el, show 32 - ln (ms.2.1 5 sv) + 1 = 33 - ln (ms.2.1 5 sv) by omega] at this
            rw [this]
            dsimp only
            generalize ff _ (ln (ms.2.1 5 sv)) (33 - ln (ms.2.1 5 sv)) = o
            cases o <;> rfl
          | some e =>
            have he := bestE_lt hv8 hL hb
            obtain ⟨el, hl⟩ := Ln_nI (hL e he)
            rw [if_neg (fun z => by have := (o2i_none (o := some e) (fun j h => by cases h; omega)).mp z; cases this), show o2i (some e) = nI e from rfl, k_aI_nI (show e < k_len 8 from he), h_b1_s]
            have := hgo (32 - ln (ms.2.1 8 e)) h_hN (ln (ms.2.1 8 e)) (by omega) (h_hN_lt (by omega))
            rw [hb, ← el, show 32 - ln (ms.2.1 8 e) + 1 = 33 - ln (ms.2.1 8 e) by omega] at this
            rw [show o2i (some e) = nI e from rfl] at this
            rw [this]
            dsimp only
            generalize ff _ (ln (ms.2.1 8 e)) (33 - ln (ms.2.1 8 e)) = o
            cases o <;> rfl
end
/-! from 34.note -/
section
/-! THE REFERENCE'S makeNote and replied, over numbers -/
def mtN (ms : MS) (b : Int32) (n k : Nat) : Bool := (decide (n ≤ ln (ms.2.1 20 k)) && ag n b (ms.2.1 19 k)) || (decide (ln (ms.2.1 20 k) ≤ n) && ag (ln (ms.2.1 20 k)) (ms.2.1 19 k) b)
def clr (b : Int32) (n : Nat) (i : Nat) (ms : MS) : MS := if mtN ms b n i = true then aS ms 23 i 0 else ms
theorem clr_k {b : Int32} {n i k j : Nat} {ms : MS} (h : k ≠ 23) : (clr b n i ms).2.1 k j = ms.2.1 k j := by
  unfold clr
  split
  · rw [aS_k h]
  · rfl
theorem clr_mt {b : Int32} {n i k : Nat} {ms : MS} : mtN (clr b n i ms) b n k = mtN ms b n k := by
  unfold mtN
  rw [clr_k (by decide), clr_k (by decide)]
theorem clr_fo (b : Int32) (n : Nat) : ∀ (c i : Nat) (s : MS), fo (clr b n) i c s = rW s 23 (fun k => if (i ≤ k ∧ k < i + c) ∧ mtN s b n k = true then 0 else s.2.1 23 k)
  | 0, i, s => by
    show s = _
    unfold rW h_upA
    refine Prod.ext rfl (Prod.ext ?_ rfl)
    funext k j
    dsimp only
    by_cases hk : k = 23
    · subst hk; rw [if_pos rfl, if_neg (fun z => by omega)]
    · rw [if_neg hk]
  | c + 1, i, s => by
    show fo (clr b n) (i + 1) c (clr b n i s) = _
    rw [clr_fo b n c (i + 1) (clr b n i s)]
    unfold rW h_upA
    have e1 : (clr b n i s).1 = s.1 := by unfold clr; split <;> rfl
    have e2 : (clr b n i s).2.2 = s.2.2 := by unfold clr; split <;> rfl
    refine Prod.ext e1 (Prod.ext ?_ e2)
    funext k j
    dsimp only
    by_cases hk : k = 23
    · subst hk
      rw [if_pos rfl, if_pos rfl, clr_mt]
      by_cases h1 : (i + 1 ≤ j ∧ j < i + 1 + c) ∧ mtN s b n j = true
      · rw [if_pos h1, if_pos ⟨by omega, h1.2⟩]
      · rw [if_neg h1]
        unfold clr
        by_cases h2 : j = i
        · subst h2
          by_cases h3 : mtN s b n j = true
          · rw [if_pos h3, aS_s, if_pos ⟨by omega, h3⟩]
          · rw [if_neg h3, if_neg (fun z => h3 z.2)]
        · rw [if_neg (show ¬((i ≤ j ∧ j < i + (c + 1)) ∧ mtN s b n j = true) from fun z => h1 ⟨by have := z.1; omega, z.2⟩)]
          split
          · rw [aS_j h2]
          · rfl
    · rw [if_neg hk, if_neg hk, clr_k hk]
def clrM (ms : MS) (s : Nat) (b : Int32) (n : Nat) : MS := rW ms 23 (fun k => if (6 * s ≤ k ∧ k < 6 * s + 6) ∧ mtN ms b n k = true then 0 else ms.2.1 23 k)
/-- the end of a note, 0 if it has gone -/
def efN (ms : MS) (k : Nat) : Int32 := if ms.2.1 23 k ≤ ms.1 1 then 0 else ms.2.1 23 k
def beN (ms : MS) (i t : Nat) : Bool := decide (efN ms i < efN ms t) || (decide (efN ms i = efN ms t) && (decide (0 < efN ms i) && decide (ms.2.1 24 i < ms.2.1 24 t)))
def pkN (ms : MS) (i : Nat) (o : Option Nat) : Option Nat := match o with
  | none => some i
  | some t => if beN ms i t = true then some i else some t
def notM (ms : MS) (t : Nat) (b l pl v : Int32) : MS := aS (aS (aS (aS (aS (aS (k_pI ms 25 (ms.1 25 + 1)) 19 t b) 20 t l) 21 t pl) 22 t v) 23 t (ms.1 1 + 60)) 24 t (ms.1 25 + 1)
def mnM (ms : MS) (s : Nat) (b l pl v : Int32) : MS := match fo (pkN (clrM ms s b (ln l))) (6 * s) 6 none with
  | some t => notM (clrM ms s b (ln l)) t b l pl v
  | none => ms
set_option maxHeartbeats 4000000 in
theorem pg_mk2 (ms : MS) {s : Nat} (hs : s < 8) (b l pl v : Int32) : pg_X10_makeNote_97 h_hN ms (nI s) b l pl v (-1) (6 * nI s) = (match fo (pkN ms) (6 * s) 6 none with
    | some t => some ((), notM ms t b l pl v)
    | none => none) := by
  have key := lp_fold (S := Option Nat) (fun n o k => pg_X10_makeNote_97 n ms (nI s) b l pl v (o2i o) k) (6 * s + 6) (pkN ms) (fun o => match o with
      | some t => some ((), notM ms t b l pl v)
      | none => none) (fun i o => (∀ j, o = some j → j < i) ∧ (6 * s < i → o ≠ none))
    (fun i o hi ho => by
      unfold pkN
      cases o with
      | none => exact ⟨fun j hj => by cases hj; omega, fun _ z => by cases z⟩
      | some t =>
        have := ho.1 t rfl
        dsimp only
        split
        · exact ⟨fun j hj => by cases hj; omega, fun _ z => by cases z⟩
        · exact ⟨fun j hj => by cases hj; omega, fun _ z => by cases z⟩)
    (fun n o ho => by
      show pg_X10_makeNote_97 (n + 1) ms (nI s) b l pl v (o2i o) (nI (6 * s + 6)) = _
      rw [pg_X10_makeNote_97, nI_m6, nI_a6, if_pos (Int32.le_refl _)]
      cases o with
      | none => exact absurd rfl (ho.2 (by omega))
      | some t =>
        have ht := ho.1 t rfl
        simp only [k_lt]
        show h_b1 (k_sI _ 19 (nI t) b) _ = _
        rw [k_sI_n (show t < k_len 19 by show t < 48; omega), h_b1_s]
        show h_b1 (k_sI _ 20 (nI t) l) _ = _
        rw [k_sI_n (show t < k_len 20 by show t < 48; omega), h_b1_s]
        show h_b1 (k_sI _ 21 (nI t) pl) _ = _
        rw [k_sI_n (show t < k_len 21 by show t < 48; omega), h_b1_s]
        show h_b1 (k_sI _ 22 (nI t) v) _ = _
        rw [k_sI_n (show t < k_len 22 by show t < 48; omega), h_b1_s]
        show h_b1 (k_sI _ 23 (nI t) _) _ = _
        rw [k_sI_n (show t < k_len 23 by show t < 48; omega), h_b1_s]
        show h_b1 (k_sI _ 24 (nI t) _) _ = _
        rw [k_sI_n (show t < k_len 24 by show t < 48; omega), h_b1_s]
        rfl)
    (fun n i o hi ho => by
      show pg_X10_makeNote_97 (n + 1) ms (nI s) b l pl v (o2i o) (nI i) = pg_X10_makeNote_97 n ms (nI s) b l pl v (o2i (pkN ms i o)) (nI (i + 1))
      have hi48 : i < 48 := by omega
      rw [pg_X10_makeNote_97, nI_m6, nI_a6, if_neg (nI_ge hi (by omega)), k_aI_nI (show i < k_len 23 from hi48), k_aI_nI (show i < k_len 24 from hi48), nI_1]
      simp only [h_b1_s]
      unfold pkN
      cases o with
      | none =>
        rw [show o2i none = -1 from rfl]
        simp only [if_true]
        by_cases h1 : ms.2.1 23 i ≤ ms.1 1
        · rw [if_pos h1]; rfl
        · rw [if_neg h1]; rfl
      | some t =>
        have ht := ho.1 t rfl
        have ht48 : t < 48 := by omega
        rw [show o2i (some t) = nI t from rfl, k_aI_nI (show t < k_len 23 from ht48), k_aI_nI (show t < k_len 24 from ht48)]
        have hne := nI_ne_m1 (t := t) (by omega)
        simp only [h_b1_s, if_neg hne]
        unfold beN efN
        by_cases h1 : ms.2.1 23 i ≤ ms.1 1
        · rw [if_pos h1, if_pos h1]
          by_cases h2 : ms.2.1 23 t ≤ ms.1 1
          · simp only [if_pos h2]
            simp
            rfl
          · simp only [if_neg h2]
            by_cases h3 : 0 < ms.2.1 23 t
            · simp [h3]; rfl
            · by_cases h4 : 0 = ms.2.1 23 t
              · simp [h3, ← h4]; rfl
              · simp [h3, h4]; rfl
        · rw [if_neg h1, if_neg h1]
          by_cases h2 : ms.2.1 23 t ≤ ms.1 1
          · simp only [if_pos h2]
            by_cases h3 : ms.2.1 23 i < 0
            · simp [h3]; rfl
            · by_cases h4 : ms.2.1 23 i = 0
              · simp [h4]; rfl
              · simp [h3, h4]; rfl
          · simp only [if_neg h2]
            by_cases h3 : ms.2.1 23 i < ms.2.1 23 t
            · simp [h3]; rfl
            · by_cases h4 : ms.2.1 23 i = ms.2.1 23 t
              · by_cases h5 : ms.2.1 23 i ≤ 0
                · have h5' : ms.2.1 23 t ≤ 0 := by rw [← h4]; exact h5
                  simp [h4, h5', Int32.not_lt.mpr h5']; rfl
                · have h5' : ¬ ms.2.1 23 t ≤ 0 := by rw [← h4]; exact h5
                  by_cases h6 : ms.2.1 24 t ≤ ms.2.1 24 i
                  · simp [h4, h5', h6, Int32.not_lt.mpr h6]; rfl
                  · simp [h4, h5', h6, Int32.not_le.mp h6, Int32.not_le.mp h5']; rfl
              · simp [h3, h4]; rfl)
    6 h_hN (6 * s) none ⟨fun j hj => (by cases hj), fun z => by omega⟩ rfl (h_hN_lt (by omega))
  rw [nI_m6]
  exact key
theorem fo_pk (ms : MS) (s : Nat) : ∃ t, fo (pkN ms) (6 * s) 6 none = some t ∧ 6 * s ≤ t ∧ t < 6 * s + 6 ∧ ∀ k, 6 * s ≤ k → k < 6 * s + 6 → beN ms k t = false ∨ True := by
  have := fo_inv (step := pkN ms) (c := 6) (i := 6 * s) (s := none) (fun i o => (∀ j, o = some j → 6 * s ≤ j ∧ j < i) ∧ (6 * s < i → o ≠ none)) (fun i o h1 h2 ho => by
      unfold pkN
      cases o with
      | none => exact ⟨fun j hj => by cases hj; omega, fun _ z => by cases z⟩
      | some t =>
        have := ho.1 t rfl
        dsimp only
        split
        · exact ⟨fun j hj => by cases hj; omega, fun _ z => by cases z⟩
        · exact ⟨fun j hj => by cases hj; omega, fun _ z => by cases z⟩) ⟨fun j hj => (by cases hj), fun z => by omega⟩
  cases ho : fo (pkN ms) (6 * s) 6 none with
  | none => rw [ho] at this; exact absurd rfl (this.2 (by omega))
  | some t =>
    rw [ho] at this
    have h := this.1 t rfl
    exact ⟨t, rfl, h.1, h.2, fun _ _ _ => Or.inr trivial⟩
theorem p_makeNote_eq (ms : MS) {s : Nat} (hs : s < 8) {b l : Int32} (pl v : Int32) (hl : Ln l) (hL : ∀ k, k < 48 → Ln (ms.2.1 20 k)) : p_X10_makeNote ms (nI s) b l pl v = some ((), mnM ms s b l pl v) := by
  unfold p_X10_makeNote
  obtain ⟨el, hl32⟩ := Ln_nI hl
  have key := lp_fold (S := MS) (fun n q k => pg_X10_makeNote_9 n q (nI s) b l pl v (-1) k) (6 * s + 6) (clr b (ln l)) (fun q => pg_X10_makeNote_97 h_hN q (nI s) b l pl v (-1) (6 * nI s)) (fun _ q => ∀ k, k < 48 → Ln (q.2.1 20 k))
    (fun i q hi hq k hk => by rw [clr_k (by decide)]; exact hq k hk)
    (fun n q hq => by
      show pg_X10_makeNote_9 (n + 1) q (nI s) b l pl v (-1) (nI (6 * s + 6)) = _
      rw [pg_X10_makeNote_9, nI_m6, nI_a6, if_pos (Int32.le_refl _)])
    (fun n i q hi hq => by
      show pg_X10_makeNote_9 (n + 1) q (nI s) b l pl v (-1) (nI i) = pg_X10_makeNote_9 n (clr b (ln l) i q) (nI s) b l pl v (-1) (nI (i + 1))
      have hi48 : i < 48 := by omega
      rw [pg_X10_makeNote_9, nI_m6, nI_a6, if_neg (nI_ge hi (by omega)), k_aI_nI (show i < k_len 19 from hi48), h_b1_s, k_aI_nI (show i < k_len 20 from hi48), h_b1_s, p_holds_L q _ _ hl (hq i hi48), nI_1]
      simp only [k_bd_s]
      unfold clr mtN
      cases h1 : (decide (ln l ≤ ln (q.2.1 20 i)) && ag (ln l) b (q.2.1 19 i))
      · rw [if_pos (show b2i false = 0 from rfl), k_aI_nI (show i < k_len 19 from hi48), h_b1_s, k_aI_nI (show i < k_len 20 from hi48), h_b1_s, p_holds_L q _ _ (hq i hi48) hl]
        simp only [k_bd_s, Bool.false_or]
        cases h2 : (decide (ln (q.2.1 20 i) ≤ ln l) && ag (ln (q.2.1 20 i)) (q.2.1 19 i) b)
        · rw [if_pos (show b2i false = 0 from rfl)]; rfl
        · rw [if_neg (by decide), if_neg (by decide), k_sI_n (show i < k_len 23 from hi48), h_b1_s]; rfl
      · rw [if_neg (by decide), if_neg (by decide), k_sI_n (show i < k_len 23 from hi48), h_b1_s]; rfl)
    6 h_hN (6 * s) ms hL rfl (h_hN_lt (by omega))
  rw [← nI_m6] at key
  rw [key, clr_fo, pg_mk2 _ hs]
  unfold mnM clrM
  obtain ⟨t, ht, -⟩ := fo_pk (rW ms 23 (fun k => if (6 * s ≤ k ∧ k < 6 * s + 6) ∧ mtN ms b (ln l) k = true then 0 else ms.2.1 23 k)) s
  rw [ht]
-- replied
def lst (ms : MS) (s : Int32) (i : Nat) (o : Option Nat) : Option Nat := if (decide (ms.2.1 29 i = s) && (decide (ms.2.1 31 i = 0) && decide (ms.2.1 32 i = ms.2.1 38 0))) = true then some i else o
def o2z (o : Option Nat) : Int32 := match o with
  | none => 0
  | some k => nI k
def wtF (ms : MS) (s : Int32) (np : Nat) : Option Nat := fo (lst ms s) 1 np none
def valB (so v : Int32) : Bool := if so = 0 then decide (0 ≤ v ∧ v ≤ 7) else if so = 2 then true else decide (0 ≤ v ∧ v ≤ 15)
def okR (ms : MS) (p : Nat) : Bool := decide (0 ≤ ms.2.1 38 1 ∧ ms.2.1 38 1 ≤ 2) && (vpB (ms.2.1 38 2) (ms.2.1 38 3) && (ag (ln (ms.2.1 38 3)) (ms.2.1 38 2) (ms.2.1 30 p) && valB (ms.2.1 38 1) (ms.2.1 38 4)))
def ignM (ms : MS) : MS := k_pI ms 40 (ms.1 40 + 1)
def rfrM (ms : MS) (n p : Nat) : MS := if ms.2.1 34 p + 1 = 9 then aS (aS ms 34 p (ms.2.1 34 p + 1)) 31 p 3 else askM (aS ms 34 p (ms.2.1 34 p + 1)) n p (ms.2.1 38 4)
def hitM (ms : MS) (n s p : Nat) : MS := if ms.2.1 38 1 = 2 then folM (mnM ms s (ms.2.1 38 2) (ms.2.1 38 3) (-1) 0) n p (-1) else folM (mnM ms s (ms.2.1 38 2) (ms.2.1 38 3) (ms.2.1 38 4) (ms.2.1 38 5)) n p (ms.2.1 38 4)
def rplM (ms : MS) (n s : Nat) (o : Option Nat) : MS := match o with
  | none => ignM ms
  | some p => if okR ms p = true then (if ms.2.1 38 1 = 0 then rfrM ms n p else hitM ms n s p) else ignM ms
theorem mnM_k {ms : MS} {s : Nat} {b l pl v : Int32} {k j : Nat} (h : k < 19 ∨ 24 < k) : (mnM ms s b l pl v).2.1 k j = ms.2.1 k j := by
  unfold mnM
  split
  · unfold notM
    rw [aS_k (by omega), aS_k (by omega), aS_k (by omega), aS_k (by omega), aS_k (by omega), aS_k (by omega)]
    show (clrM _ _ _ _).2.1 k j = _
    unfold clrM
    rw [rW_i, if_neg (by omega)]
  · rfl
theorem mnM_s {ms : MS} {s : Nat} {b l pl v : Int32} {k : Nat} (h : k ≠ 25) : (mnM ms s b l pl v).1 k = ms.1 k := by
  unfold mnM
  split
  · show (k_pI (clrM _ _ _ _) 25 _).1 k = _
    rw [pI_n1 h]; rfl
  · rfl
theorem ign_eq (ms : MS) (s l2 so : Int32) : pj_X10_replied_137 ms s l2 so = some ((), ignM ms) := by
  unfold pj_X10_replied_137 pj_X10_replied_138
  rw [if_pos rfl]
  unfold pj_X10_replied_191 pj_X10_replied_192
  rw [if_pos rfl]
  rfl
set_option maxHeartbeats 4000000 in
theorem rep_eq (ms : MS) {n s p : Nat} (hs : s < 8) (hp : p < 201) (hn : ms.1 36 = nI n) (h : n ≤ 200) (hl : Ln (ms.2.1 38 3)) (hL : ∀ k, k < 48 → Ln (ms.2.1 20 k)) : pj_X10_replied_138 ms (nI s) (nI p) (ms.2.1 38 1) 1 = some ((), if valB (ms.2.1 38 1) (ms.2.1 38 4) = true then (if ms.2.1 38 1 = 0 then rfrM ms n p else hitM ms n s p) else ignM ms) := by
  have hno : pj_X10_replied_191 ms (nI s) (nI p) (ms.2.1 38 1) = some ((), ignM ms) := by
    unfold pj_X10_replied_191 pj_X10_replied_192
    rw [if_pos rfl]
    rfl
  have hyes : pj_X10_replied_187 ms (nI s) (nI p) (ms.2.1 38 1) = some ((), if ms.2.1 38 1 = 0 then rfrM ms n p else hitM ms n s p) := by
    unfold pj_X10_replied_187 pj_X10_replied_192
    rw [if_neg (by decide)]
    by_cases h0 : ms.2.1 38 1 = 0
    · rw [if_pos h0, if_pos h0, k_aI_nI (show p < k_len 34 from hp), h_b1_s, k_sI_n (show p < k_len 34 from hp), h_b1_s, k_aI_nI (show p < k_len 34 from hp), h_b1_s, aS_s]
      unfold rfrM
      by_cases h9 : ms.2.1 34 p + 1 = 9
      · rw [if_pos h9, if_pos h9, k_sI_n (show p < k_len 31 from hp), h_b1_s]
      · rw [if_neg h9, if_neg h9, k38_4, h_b1_s, p_ask_eq (n := n) _ _ hp (by rw [aS_1]; exact hn) h]
        simp only [k_bd_s]
        rw [aS_k (by decide)]
    · rw [if_neg h0, if_neg h0, k38_2, h_b1_s, k38_3, h_b1_s]
      unfold hitM
      by_cases h2 : ms.2.1 38 1 = 2
      · rw [if_pos h2, if_pos h2]
        unfold pj_X10_replied_290
        rw [if_pos h2]
        unfold pj_X10_replied_305
        rw [p_makeNote_eq ms hs _ _ hl hL]
        simp only [k_bd_s]
        rw [if_pos h2, p_follow_eq (n := n) _ _ hp (by rw [mnM_s (by decide)]; exact hn) h]
        simp only [k_bd_s]
      · rw [if_neg h2, if_neg h2, k38_4, h_b1_s]
        unfold pj_X10_replied_290
        rw [if_neg h2, k38_5, h_b1_s]
        unfold pj_X10_replied_305
        rw [p_makeNote_eq ms hs _ _ hl hL]
        simp only [k_bd_s]
        rw [if_neg h2, k38_4, h_b1_s, mnM_k (by decide), p_follow_eq (n := n) _ _ hp (by rw [mnM_s (by decide)]; exact hn) h]
        simp only [k_bd_s]
  unfold pj_X10_replied_138 valB
  rw [if_neg (by decide)]
  by_cases h0 : ms.2.1 38 1 = 0
  · rw [if_pos h0, if_pos h0, k38_4, h_b1_s, p_in_eq]
    simp only [k_bd_s]
    cases hv : decide ((0 : Int32) ≤ ms.2.1 38 4 ∧ ms.2.1 38 4 ≤ 7)
    · rw [if_pos (show b2i false = 0 from rfl), hno]; rfl
    · rw [if_neg (by decide), hyes]; rfl
  · rw [if_neg h0, if_neg h0]
    by_cases h2 : ms.2.1 38 1 = 2
    · rw [if_pos h2, if_pos h2, hyes]; rfl
    · rw [if_neg h2, if_neg h2, k38_4, h_b1_s, p_in_eq]
      simp only [k_bd_s]
      cases hv : decide ((0 : Int32) ≤ ms.2.1 38 4 ∧ ms.2.1 38 4 ≤ 15)
      · rw [if_pos (show b2i false = 0 from rfl), hno]; rfl
      · rw [if_neg (by decide), hyes]; rfl
theorem wtF_lt {ms : MS} {s : Int32} {np p : Nat} (h : wtF ms s np = some p) : 1 ≤ p ∧ p ≤ np := by
  have := fo_inv (step := lst ms s) (c := np) (i := 1) (s := none) (fun i o => ∀ j, o = some j → 1 ≤ j ∧ j < i) (fun i o h1 h2 ho j hj => by
      unfold lst at hj
      split at hj
      · cases hj; omega
      · have := ho j hj; omega) (fun j hj => by cases hj)
  have h2 := this p h
  omega
set_option maxHeartbeats 4000000 in
theorem p_replied_eq (ms : MS) {a : Int32} {n np : Nat} (h7 : ms.2.1 38 7 = a) (hn : ms.1 36 = nI n) (h : n ≤ 200) (hnp : ms.1 28 = nI np) (hnp2 : np ≤ 200) (hL : ∀ k, k < 48 → Ln (ms.2.1 20 k)) : p_X10_replied ms = some ((), if siteB ms a = true then rplM ms n a.toNatClampNeg (wtF ms a np) else ms) := by
  unfold p_X10_replied
  rw [k38_7, h_b1_s, h7, p_isSite_eq]
  simp only [k_bd_s]
  cases hsb : siteB ms a
  · rw [if_pos (show b2i false = 0 from rfl)]; rfl
  · obtain ⟨s, hs, rfl, -⟩ := siteB_nI hsb
    rw [if_neg (by decide), nI_clamp (by omega)]
    simp only [if_true]
    have key := lp_fold (S := Option Nat) (fun m o k => pg_X10_replied_21 m ms (nI s) (o2z o) k) (np + 1) (lst ms (nI s)) (fun o => some ((), rplM ms n s o)) (fun i o => 1 ≤ i ∧ ∀ j, o = some j → 1 ≤ j ∧ j < i)
      (fun i o hi ho => ⟨by omega, fun j hj => by
        have h1 := ho.1
        unfold lst at hj
        split at hj
        · cases hj; omega
        · have := ho.2 j hj; omega⟩)
      (fun m o ho => by
        show pg_X10_replied_21 (m + 1) ms (nI s) (o2z o) (nI (np + 1)) = _
        rw [pg_X10_replied_21, hnp, if_pos (nI_lt (by omega) (by omega)), k38_1, h_b1_s]
        unfold rplM
        cases o with
        | none => rw [if_pos (show o2z none ≤ 0 from by decide), ign_eq]
        | some p =>
          have hp := ho.2 p rfl
          rw [show o2z (some p) = nI p from rfl, if_neg (nI_nle (by omega) (by omega)), p_in_eq]
          simp only [k_bd_s]
          unfold okR
          cases h1 : decide ((0 : Int32) ≤ ms.2.1 38 1 ∧ ms.2.1 38 1 ≤ 2)
          · rw [if_pos (show b2i false = 0 from rfl), ign_eq]; rfl
          · rw [if_neg (by decide), k38_2, h_b1_s, k38_3, h_b1_s, p_isPrefix_eq]
            simp only [k_bd_s, Bool.true_and]
            cases h2 : vpB (ms.2.1 38 2) (ms.2.1 38 3)
            · rw [if_pos (show b2i false = 0 from rfl), ign_eq]; rfl
            · obtain ⟨q, hq, eq, -⟩ := vpB_nI h2
              have hln : Ln (ms.2.1 38 3) := ⟨q, hq, eq⟩
              rw [if_neg (by decide), k38_2, h_b1_s, k_aI_nI (show p < k_len 30 by show p < 201; omega), h_b1_s, k38_3, h_b1_s, p_begin_L ms _ _ hln]
              simp only [k_bd_s, Bool.true_and]
              cases h3 : ag (ln (ms.2.1 38 3)) (ms.2.1 38 2) (ms.2.1 30 p)
              · rw [if_pos (show b2i false = 0 from rfl), ign_eq]; rfl
              · rw [if_neg (by decide), rep_eq ms hs (by omega) hn h hln hL]
                rfl)
      (fun m i o hi ho => by
        show pg_X10_replied_21 (m + 1) ms (nI s) (o2z o) (nI i) = pg_X10_replied_21 m ms (nI s) (o2z (lst ms (nI s) i o)) (nI (i + 1))
        rw [pg_X10_replied_21, hnp, if_neg (nI_nlt (by omega) (by omega)), k_aI_nI (show i < k_len 29 by show i < 201; omega), h_b1_s, nI_1]
        unfold lst
        by_cases h1 : ms.2.1 29 i = nI s
        · rw [if_pos h1, k_aI_nI (show i < k_len 31 by show i < 201; omega), h_b1_s, decide_eq_true h1]
          by_cases h2 : ms.2.1 31 i = 0
          · rw [if_pos h2, k_aI_nI (show i < k_len 32 by show i < 201; omega), h_b1_s, k38_0, h_b1_s, decide_eq_true h2]
            by_cases h3 : ms.2.1 32 i = ms.2.1 38 0
            · rw [if_pos h3, decide_eq_true h3]; rfl
            · rw [if_neg h3, decide_eq_false h3]; rfl
          · rw [if_neg h2, decide_eq_false h2]; rfl
        · rw [if_neg h1, decide_eq_false h1]; rfl)
      np h_hN 1 none ⟨by omega, fun j hj => (by cases hj)⟩ (by omega) (h_hN_lt (by omega))
    have key' : pg_X10_replied_21 h_hN ms (nI s) 0 1 = _ := key
    rw [key']
    rfl
end
/-! from 35.calls2 -/
section
/-! THE REFERENCE'S CALLS, over numbers: arrive, carry, run, send, register, prefix, packet, note, truth, count -/
/-- what the lengths and places of a state must be -/
def MI (ms : MS) : Prop := (∃ n, n ≤ 200 ∧ ms.1 36 = nI n) ∧ (∃ np, np ≤ 200 ∧ ms.1 28 = nI np) ∧ (∀ k, k < 8 → Ln (ms.2.1 5 k)) ∧ (∀ k, k < 128 → Ln (ms.2.1 8 k)) ∧ (∀ k, k < 32 → Ln (ms.2.1 17 k)) ∧ (∀ k, k < 48 → Ln (ms.2.1 20 k)) ∧
  (∀ s, s < 8 → ∃ c : Nat, ms.2.1 15 s = nI c ∧ c ≤ 4) ∧ (∀ s, s < 8 → ms.2.1 14 s = -1 ∨ ∃ p, p < 16 ∧ ms.2.1 14 s = nI p) ∧ (∀ p, p < 16 → ms.2.1 26 p = -1 ∨ ∃ w, w < 8 ∧ ms.2.1 26 p = nI w)
/-- what a message that is carried must be: DATA goes to a place; alone, an endpoint has nothing but the best in it -/
def MA (ms : MS) : Prop := (ms.2.1 38 6 = 3 → ∃ pl, pl < 16 ∧ ms.2.1 38 7 = nI pl) ∧ ∀ sv ep, sv < 8 → chiF ms sv ep = none → crowd ms sv ep 32 (bestE ms ep sv) = false
def arrM (ms : MS) (n np : Nat) : MS :=
  if ms.2.1 38 6 = 0 then (if srvB ms (ms.2.1 38 7) = true then regM ms (ms.2.1 38 7).toNatClampNeg else ms)
  else if ms.2.1 38 6 = 1 then (if srvB ms (ms.2.1 38 7) = true then reqM ms n (ms.2.1 38 7).toNatClampNeg else ms)
  else if ms.2.1 38 6 = 2 then (if siteB ms (ms.2.1 38 7) = true then rplM ms n (ms.2.1 38 7).toNatClampNeg (wtF ms (ms.2.1 38 7) np) else ms)
  else if ms.2.1 38 6 = 3 then cameM ms n (ms.2.1 38 7).toNatClampNeg
  else (if siteB ms (ms.2.1 38 7) = true then fgtM ms (ms.2.1 38 7).toNatClampNeg (ms.2.1 38 0) (ms.2.1 38 1) else ms)
theorem p_arrive_eq (ms : MS) {n np : Nat} (hn : ms.1 36 = nI n) (h : n ≤ 200) (hnp : ms.1 28 = nI np) (hnp2 : np ≤ 200) (I : MI ms) (A : MA ms) : p_X10_arrive ms = some ((), arrM ms n np) := by
  obtain ⟨-, -, i1, i2, i3, i4, i5, i6, i7⟩ := I
  unfold p_X10_arrive arrM
  rw [k38_6, h_b1_s]
  by_cases h0 : ms.2.1 38 6 = 0
  · rw [if_pos h0, if_pos h0, p_registered_eq ms rfl i1]; rfl
  · rw [if_neg h0, if_neg h0, h_b1_s]
    by_cases h1 : ms.2.1 38 6 = 1
    · rw [if_pos h1, if_pos h1, p_requested_eq ms rfl hn h i1 i2 (fun sv hsv _ hc => A.2 sv _ hsv hc)]; rfl
    · rw [if_neg h1, if_neg h1, h_b1_s]
      by_cases h2 : ms.2.1 38 6 = 2
      · rw [if_pos h2, if_pos h2, p_replied_eq ms rfl hn h hnp hnp2 i4]; rfl
      · rw [if_neg h2, if_neg h2, h_b1_s]
        by_cases h3 : ms.2.1 38 6 = 3
        · obtain ⟨pl, hpl, e7⟩ := A.1 h3
          rw [if_pos h3, if_pos h3, p_came_eq ms e7 hpl hn h hnp hnp2 i5 i3 (i7 pl hpl), e7, nI_clamp (by omega)]; rfl
        · rw [if_neg h3, if_neg h3, k38_7, h_b1_s, p_isSite_eq]
          simp only [k_bd_s]
          cases hs : siteB ms (ms.2.1 38 7)
          · rw [if_pos (show b2i false = 0 from rfl)]; rfl
          · obtain ⟨s, hs8, es, -⟩ := siteB_nI hs
            rw [if_neg (by decide), k38_7, h_b1_s, k38_0, h_b1_s, k38_1, h_b1_s, es, p_forget_eq ms _ _ hs8 i4, nI_clamp (by omega)]
            rfl
-- carry
theorem p_carry_eq (ms : MS) (k : Int32) {n np : Nat} (hn : ms.1 36 = nI n) (h : n ≤ 200) (hnp : ms.1 28 = nI np) (hnp2 : np ≤ 200) (I : ∀ i, i < n → MI (takeM (okM ms) n i) ∧ MA (takeM (okM ms) n i)) : p_X10_carry ms k = some ((), if msgB n k = true then arrM (takeM (okM ms) n k.toNatClampNeg) (n - 1) np else noM ms) := by
  unfold p_X10_carry
  rw [p_isMessage_eq ms k hn h]
  simp only [k_bd_s]
  cases hb : msgB n k
  · rw [if_pos (show b2i false = 0 from rfl)]; rfl
  · obtain ⟨i, hi, rfl⟩ := msgB_some h hb
    rw [if_neg (by decide), p_take_eq _ (n := n) (by rw [pI_n1 (by decide)]; exact hn) hi h, nI_clamp (by omega)]
    simp only [k_bd_s]
    have e : k_pI ms 0 (b2i (!true)) = okM ms := rfl
    rw [e, p_arrive_eq (takeM (okM ms) n i) (n := n - 1) (np := np) (by unfold takeM; rw [pI_s1]) (by omega) (by unfold takeM; rw [pI_n1 (by decide)]; exact hnp) hnp2 (I i hi).1 (I i hi).2]
    rfl
-- send
def startM (ms : MS) (s ep : Int32) (np : Nat) : MS := aS (aS (aS (k_pI (okM ms) 28 (nI (np + 1))) 29 (np + 1) s) 30 (np + 1) ep) 33 (np + 1) (-1)
def sendM (ms : MS) (n s np : Nat) (ep : Int32) : MS :=
  if hasB (startM ms (nI s) ep np) s ep = true then dlvM (startM ms (nI s) ep np) (np + 1) (nI s)
  else match ntF (startM ms (nI s) ep np) s ep with
    | none => askM (startM ms (nI s) ep np) n (np + 1) 0
    | some k => folM (startM ms (nI s) ep np) n (np + 1) ((startM ms (nI s) ep np).2.1 21 k)
theorem p_send_eq (ms : MS) (s ep : Int32) {n np : Nat} (hn : ms.1 36 = nI n) (h : n ≤ 200) (hnp : ms.1 28 = nI np) (hnp2 : np ≤ 200) (I : MI ms) : p_X10_send ms s ep = some (if np = 200 then (0, k_pI ms 0 1) else if siteB ms s = true then (nI (np + 1), sendM ms n s.toNatClampNeg np ep) else (0, k_pI ms 0 2)) := by
  obtain ⟨-, -, i1, i2, i3, i4, i5, i6, i7⟩ := I
  unfold p_X10_send
  by_cases h2 : np = 200
  · subst h2
    rw [if_pos (show ms.1 28 = 200 from hnp), if_pos rfl]
    unfold pj_X10_send_28
    simp only [k_lt, pI_s1]
    rw [if_neg (by decide)]
  · rw [if_neg (show ¬ ms.1 28 = 200 from fun z => h2 ((nI_eq (a := np) (b := 200) (by omega) (by omega)).mp (hnp.symm.trans z))), if_neg h2, p_isSite_eq]
    simp only [k_bd_s]
    cases hs : siteB ms s
    · rw [if_pos (show b2i false = 0 from rfl)]
      unfold pj_X10_send_28
      simp only [k_lt, pI_s1]
      rw [if_neg (by decide)]
      rfl
    · obtain ⟨i, hi, rfl, -⟩ := siteB_nI hs
      rw [if_neg (by decide), nI_clamp (by omega)]
      unfold pj_X10_send_28
      simp only [k_lt, pI_s1]
      have e28 : (k_pI ms 0 0).1 28 + 1 = nI (np + 1) := by rw [pI_n1 (by decide), hnp, nI_c1]
      rw [if_pos (by decide), e28, k_sI_n (show np + 1 < k_len 29 by show _ < 201; omega), h_b1_s, k_sI_n (show np + 1 < k_len 30 by show _ < 201; omega), h_b1_s, k_sI_n (show np + 1 < k_len 33 by show _ < 201; omega), h_b1_s]
      show k_bd (p_X10_noteFor (startM ms (nI i) ep np) (nI i) ep) _ = _
      rw [p_noteF_eq (startM ms (nI i) ep np) ep hi (fun k hk => i4 k hk)]
      simp only [k_bd_s]
      show k_bd (p_X10_hasEndpoint (startM ms (nI i) ep np) (nI i) ep) _ = _
      rw [p_has_eq (startM ms (nI i) ep np) ep hi (i5 i hi) (fun k hk => i3 k hk)]
      simp only [k_bd_s, if_true]
      unfold sendM
      cases hb : hasB (startM ms (nI i) ep np) i ep
      · rw [if_pos (show b2i false = 0 from rfl)]
        cases hk : ntF (startM ms (nI i) ep np) i ep with
        | none =>
          rw [if_pos o2i_n]
          show k_bd (p_X10_ask (startM ms (nI i) ep np) (nI (np + 1)) 0) _ = _
          rw [p_ask_eq (n := n) _ _ (by omega) (by exact hn) h]
          rfl
        | some k =>
          have hk2 := ntF_lt hk
          rw [o2i_s, if_neg (nI_ne_m1 (by omega)), k_aI_nI (show k < k_len 21 by show k < 48; omega), h_b1_s]
          show k_bd (p_X10_follow (startM ms (nI i) ep np) (nI (np + 1)) _) _ = _
          rw [p_follow_eq (n := n) _ _ (by omega) (by exact hn) h]
          rfl
      · rw [if_neg (by decide)]
        show k_bd (p_X10_deliver (startM ms (nI i) ep np) (nI (np + 1)) (nI i)) _ = _
        rw [p_deliver_eq _ _ (by omega)]
        rfl
-- packet
def pktV (ms : MS) (p : Nat) (w : Int32) : Int32 := if w = 0 then ms.2.1 31 p else if w = 1 then ms.2.1 33 p else if w = 2 then ms.2.1 34 p else if w = 3 then ms.2.1 35 p else -1
theorem p_packet_eq (ms : MS) (p w : Int32) {np : Nat} (hnp : ms.1 28 = nI np) (hnp2 : np ≤ 200) : p_X10_packet ms p w = some (if decide (1 ≤ p ∧ p ≤ nI np) = true then (pktV ms p.toNatClampNeg w, okM ms) else (0, noM ms)) := by
  unfold p_X10_packet
  rw [p_in_eq, hnp]
  simp only [k_bd_s]
  cases hb : decide (1 ≤ p ∧ p ≤ nI np)
  · rw [if_pos (show b2i false = 0 from rfl)]
    unfold pj_X10_packet_18
    simp only [k_lt, pI_s1]
    rw [if_neg (by decide)]; rfl
  · have h1 := of_decide_eq_true hb
    obtain ⟨i, hi, rfl⟩ := nI_of (x := p) (fun z => absurd (Int32.lt_of_le_of_lt h1.1 z) (by decide))
    have hi2 : i ≤ np := (nI_leI hi (by omega)).mp h1.2
    rw [if_neg (by decide), nI_clamp hi]
    unfold pj_X10_packet_18 pktV
    simp only [k_lt, pI_s1, if_true]
    rw [if_pos (by decide)]
    by_cases w0 : w = 0
    · rw [if_pos w0, if_pos w0, k_aI_nI (show i < k_len 31 by show i < 201; omega), h_b1_s]; rfl
    · rw [if_neg w0, if_neg w0]
      by_cases w1 : w = 1
      · rw [if_pos w1, if_pos w1, k_aI_nI (show i < k_len 33 by show i < 201; omega), h_b1_s]; rfl
      · rw [if_neg w1, if_neg w1]
        by_cases w2 : w = 2
        · rw [if_pos w2, if_pos w2, k_aI_nI (show i < k_len 34 by show i < 201; omega), h_b1_s]; rfl
        · rw [if_neg w2, if_neg w2]
          by_cases w3 : w = 3
          · rw [if_pos w3, if_pos w3, k_aI_nI (show i < k_len 35 by show i < 201; omega), h_b1_s]; rfl
          · rw [if_neg w3, if_neg w3]; rfl
-- note
def ntV (ms : MS) (s : Nat) (ep w : Int32) : Int32 := match ntF ms s ep with
  | none => -1
  | some k => if w = 0 then ms.2.1 20 k else if w = 1 then ms.2.1 21 k else if w = 2 then ms.2.1 22 k else -1
theorem p_note_eq (ms : MS) (s ep w : Int32) (hL : ∀ k, k < 48 → Ln (ms.2.1 20 k)) : p_X10_note ms s ep w = some (if siteB ms s = true then (ntV ms s.toNatClampNeg ep w, okM ms) else (0, noM ms)) := by
  unfold p_X10_note
  rw [p_isSite_eq]
  simp only [k_bd_s]
  cases hs : siteB ms s
  · rw [if_pos (show b2i false = 0 from rfl)]
    unfold pj_X10_note_14
    simp only [k_lt, pI_s1]
    rw [if_neg (by decide)]; rfl
  · obtain ⟨i, hi, rfl, -⟩ := siteB_nI hs
    rw [if_neg (by decide), nI_clamp (by omega)]
    unfold pj_X10_note_14
    simp only [k_lt, pI_s1, if_true]
    rw [if_pos (by decide), p_noteF_eq (k_pI ms 0 0) ep hi (fun k hk => hL k hk)]
    simp only [k_bd_s]
    have e : ntF (k_pI ms 0 0) i ep = ntF ms i ep := rfl
    rw [e]
    unfold ntV
    cases hk : ntF ms i ep with
    | none => rw [if_pos o2i_n]; rfl
    | some k =>
      have hk2 := ntF_lt hk
      rw [o2i_s, if_neg (nI_ne_m1 (by omega)), k_aI_nI (show k < k_len 20 by show k < 48; omega), k_aI_nI (show k < k_len 21 by show k < 48; omega), k_aI_nI (show k < k_len 22 by show k < 48; omega)]
      simp only [h_b1_s]
      by_cases w0 : w = 0
      · rw [if_pos w0, if_pos w0]; rfl
      · rw [if_neg w0, if_neg w0]
        by_cases w1 : w = 1
        · rw [if_pos w1, if_pos w1]; rfl
        · rw [if_neg w1, if_neg w1]
          by_cases w2 : w = 2
          · rw [if_pos w2, if_pos w2]; rfl
          · rw [if_neg w2, if_neg w2]; rfl
end
/-! from 36.calls3 -/
section
/-! THE REFERENCE'S CALLS, over numbers: prefix, register, truth, count -/
theorem d4 {i : Nat} (h : i < 32) : nI i / 4 = nI (i / 4) := (show ∀ i, i < 32 → nI i / 4 = nI (i / 4) by decide +kernel) i h
theorem r4 {i : Nat} (h : i < 32) : nI i - nI i / 4 * 4 = nI (i % 4) := (show ∀ i, i < 32 → nI i - nI i / 4 * 4 = nI (i % 4) by decide +kernel) i h
/-- some site has the very same prefix -/
def dupP (ms : MS) (b l : Int32) (k : Nat) : Bool := decide (nI (k % 4) < ms.2.1 15 (k / 4)) && (decide (ms.2.1 16 k = b) && decide (ms.2.1 17 k = l))
theorem pg_prefix (ms : MS) (s b l : Int32) (h0 : ms.1 0 = 0) : ∀ (c n i : Nat), i + c = 32 → c + 1 < n → pg_X10_prefix_48 n ms s b l (nI i) = (match ff (dupP ms b l) i c with
    | none => pj_X10_prefix_111 ms s b l
    | some _ => some (0, noM ms)) := by
  intro c
  induction c with
  | zero =>
    intro n i h1 h2
    obtain ⟨m, rfl⟩ : ∃ m, n = m + 1 := ⟨n - 1, by omega⟩
    rw [pg_X10_prefix_48, show i = 32 by omega, show (32 : Int32) = nI 32 from rfl, if_pos (Int32.le_refl _)]
    rfl
  | succ c ih =>
    intro n i h1 h2
    obtain ⟨m, rfl⟩ : ∃ m, n = m + 1 := ⟨n - 1, by omega⟩
    rw [pg_X10_prefix_48, if_neg (show ¬ (32 : Int32) ≤ nI i from nI_ge (b := 32) (by omega) (by omega)), if_pos h0, d4 (by omega), k_aI_nI (show i / 4 < k_len 15 by show _ < 8; omega), h_b1_s, ← d4 (show i < 32 by omega), r4 (by omega), nI_1]
    have hi := ih m (i + 1) (by omega) (by omega)
    unfold ff dupP
    by_cases h3 : ms.2.1 15 (i / 4) ≤ nI (i % 4)
    · rw [if_pos h3, decide_eq_false (Int32.not_lt.mpr h3), hi]; rfl
    · rw [if_neg h3, decide_eq_true (Int32.not_le.mp h3), k_aI_nI (show i < k_len 16 by show _ < 32; omega), h_b1_s]
      by_cases h4 : ms.2.1 16 i = b
      · rw [if_pos h4, k_aI_nI (show i < k_len 17 by show _ < 32; omega), h_b1_s, decide_eq_true h4]
        by_cases h5 : ms.2.1 17 i = l
        · rw [if_pos h5, decide_eq_true h5]
          simp only [k_lt, Bool.and_self, if_true]
          obtain ⟨m', rfl⟩ : ∃ m', m = m' + 1 := ⟨m - 1, by omega⟩
          rw [pg_X10_prefix_48]
          have hj : pj_X10_prefix_111 (k_pI ms 0 1) s b l = some (0, noM ms) := by
            unfold pj_X10_prefix_111
            rw [pI_s1, if_neg (by decide)]; rfl
          by_cases h6 : 32 ≤ nI (i + 1)
          · rw [if_pos h6, hj]
          · rw [if_neg h6, pI_s1, if_neg (by decide), hj]
        · rw [if_neg h5, decide_eq_false h5, hi]; rfl
      · rw [if_neg h4, decide_eq_false h4, hi]; rfl
theorem pg_prefix1 (ms : MS) (s b l : Int32) (h0 : ms.1 0 = 1) : pg_X10_prefix_48 h_hN ms s b l 0 = some (0, ms) := by
  show pg_X10_prefix_48 (1999 + 1) ms s b l 0 = _
  rw [pg_X10_prefix_48, if_neg (by decide), h0, if_neg (by decide)]
  unfold pj_X10_prefix_111
  rw [h0, if_neg (by decide)]
def prfB (ms : MS) (s b l : Int32) : Bool := siteB ms s && (decide (ms.2.1 15 s.toNatClampNeg < 4) && (vpB b l && ((ownE ms b (ln l)).isSome && (ff (dupP ms b l) 0 32).isNone)))
def prfM (ms : MS) (s c : Nat) (b l : Int32) : MS := aS (aS (aS (okM ms) 16 (4 * s + c) b) 17 (4 * s + c) l) 15 s (nI (c + 1))
set_option maxHeartbeats 2000000 in
theorem p_prefix_eq (ms : MS) (s b l : Int32) (hP : ∀ k, k < 8 → Ln (ms.2.1 5 k)) (hC : ∀ s, s < 8 → ∃ c : Nat, ms.2.1 15 s = nI c ∧ c ≤ 4) : p_X10_prefix ms s b l = some (if prfB ms s b l = true then (ms.2.1 15 s.toNatClampNeg, prfM ms s.toNatClampNeg (ms.2.1 15 s.toNatClampNeg).toNatClampNeg b l) else (0, noM ms)) := by
  unfold p_X10_prefix prfB
  rw [p_isSite_eq]
  simp only [k_bd_s]
  have hno : pg_X10_prefix_48 h_hN (k_pI ms 0 1) s b l 0 = some (0, noM ms) := pg_prefix1 _ _ _ _ pI_s1
  cases hs : siteB ms s
  · rw [if_pos (show b2i false = 0 from rfl)]
    simp only [k_lt]
    rw [hno]; rfl
  · obtain ⟨i, hi, rfl, -⟩ := siteB_nI hs
    obtain ⟨c, hc, hc4⟩ := hC i hi
    rw [if_neg (by decide), k_aI_nI (show i < k_len 15 from hi), h_b1_s, nI_clamp (by omega), hc]
    simp only [Bool.true_and]
    by_cases h4 : (4 : Int32) ≤ nI c
    · rw [if_pos h4, decide_eq_false (Int32.not_lt.mpr h4)]
      simp only [k_lt]
      rw [hno]; rfl
    · have hc3 : c < 4 := by
        by_cases h9 : c < 4
        · exact h9
        · exact absurd (nI_le (a := 4) (b := c) (by omega) (by omega)) h4
      rw [if_neg h4, decide_eq_true (Int32.not_le.mp h4), p_isPrefix_eq]
      simp only [k_bd_s, Bool.true_and]
      cases hv : vpB b l
      · rw [if_pos (show b2i false = 0 from rfl)]
        simp only [k_lt]
        rw [hno]; rfl
      · obtain ⟨n, hn, rfl, -⟩ := vpB_nI hv
        rw [if_neg (by decide), p_owner_eq ms b hn hP]
        simp only [k_bd_s, Bool.true_and]
        rw [ln_nI hn]
        cases ho : ownE ms b n with
        | none =>
          rw [if_pos o2i_n]
          simp only [k_lt]
          rw [hno]; rfl
        | some w =>
          have hw := ownE_lt ho
          rw [o2i_s, if_neg (nI_ne_m1 (by omega))]
          simp only [k_lt, Option.isSome_some, Bool.true_and]
          have := pg_prefix (k_pI ms 0 0) (nI i) b (nI n) pI_s1 32 h_hN 0 (by omega) (h_hN_lt (by omega))
          have e0 : pg_X10_prefix_48 h_hN (k_pI ms 0 0) (nI i) b (nI n) 0 = _ := this
          rw [e0]
          show (match ff (dupP ms b (nI n)) 0 32 with
            | none => _
            | some _ => _) = _
          cases hf : ff (dupP ms b (nI n)) 0 32 with
          | some k =>
            dsimp only
            simp only [Option.isNone_some, Bool.false_eq_true, if_false]
            congr 2
            unfold noM
            rw [pI_pI]
          | none =>
            dsimp only
            simp only [Option.isNone_none, if_true]
            unfold pj_X10_prefix_111
            rw [pI_s1, if_pos (by decide), k_aI_nI (show i < k_len 15 from hi), h_b1_s, show (k_pI ms 0 0).2.1 15 i = nI c from hc, nI_m4, nI_add, k_sI_n (show 4 * i + c < k_len 16 by show _ < 32; omega), h_b1_s, k_aI_nI (show i < k_len 15 from hi), h_b1_s, aS_k (by decide), show (k_pI ms 0 0).2.1 15 i = nI c from hc, nI_add, k_sI_n (show 4 * i + c < k_len 17 by show _ < 32; omega), h_b1_s, k_aI_nI (show i < k_len 15 from hi), h_b1_s, aS_k (by decide), aS_k (by decide), show (k_pI ms 0 0).2.1 15 i = nI c from hc, nI_c1, k_sI_n (show i < k_len 15 from hi), h_b1_s, k_aI_nI (show i < k_len 15 from hi), h_b1_s, aS_s]
            unfold prfM
            rw [nI_clamp (by omega), show (1 : Int32) = nI 1 from rfl, pk_sub (by omega), show c + 1 - 1 = c by omega]
            rfl
-- register
def stR (s : Nat) (i : Nat) (q : MS × Nat) : MS × Nat := match ownE q.1 (q.1.2.1 16 i) (ln (q.1.2.1 17 i)) with
  | none => q
  | some w => (postM (aS q.1 18 s (q.1.2.1 18 s + 1)) (q.1.1 36).toNatClampNeg (mG (nI s) (q.1.2.1 16 i) (q.1.2.1 17 i) (q.1.2.1 14 s) (q.1.2.1 18 s + 1) (tagF (nI s) (q.1.2.1 16 i) (q.1.2.1 17 i) (q.1.2.1 14 s) (q.1.2.1 18 s + 1)) 0 (nI w)), q.2 + 1)
def rgsM (ms : MS) (s : Nat) : MS × Nat := fo (stR s) (4 * s) (ms.2.1 15 s).toNatClampNeg (okM ms, 0)
theorem ownE_eq {ms ms' : MS} (h : ∀ k j, k < 7 → ms'.2.1 k j = ms.2.1 k j) (b : Int32) (n : Nat) : ownE ms' b n = ownE ms b n := by
  have e1 : ownS ms' b n = ownS ms b n := by
    funext i w
    unfold ownS
    rw [h 3 i (by omega), h 4 i (by omega), h 5 i (by omega), h 5 w (by omega)]
  have e2 : ownW ms' b n = ownW ms b n := by unfold ownW; rw [e1]
  have e3 : ∀ w, ownX ms' b n w = ownX ms b n w := by
    intro w
    funext i
    unfold ownX
    rw [h 3 i (by omega), h 4 i (by omega), h 5 i (by omega)]
  unfold ownE
  rw [e2, e3]
set_option maxHeartbeats 4000000 in
theorem p_register_eq (ms : MS) (s : Int32) {n : Nat} (hn : ms.1 36 = nI n) (h : n ≤ 200) (I : MI ms) : p_X10_register ms s = some (if siteB ms s = true then (nI (rgsM ms s.toNatClampNeg).2, (rgsM ms s.toNatClampNeg).1) else (0, noM ms)) := by
  obtain ⟨-, -, i1, i2, i3, i4, i5, i6, i7⟩ := I
  unfold p_X10_register
  rw [p_isSite_eq]
  simp only [k_bd_s]
  cases hs : siteB ms s
  · rw [if_pos (show b2i false = 0 from rfl)]
    unfold pj_X10_register_14
    simp only [k_lt, pI_s1]
    rw [if_neg (by decide)]; rfl
  · obtain ⟨i, hi, rfl, -⟩ := siteB_nI hs
    obtain ⟨c, hc, hc4⟩ := i5 i hi
    rw [if_neg (by decide), nI_clamp (by omega)]
    unfold pj_X10_register_14
    simp only [k_lt, pI_s1, if_true]
    rw [if_pos (by decide)]
    unfold rgsM
    rw [hc, nI_clamp (by omega), nI_m4]
    have key := lp_fold (S := MS × Nat) (fun m q k => pg_X10_register_32 m q.1 (nI i) (nI q.2) k) (4 * i + c) (stR i) (fun q => some (nI q.2, q.1)) (fun j q => q.2 ≤ j ∧ (∃ n, n ≤ 200 ∧ q.1.1 36 = nI n) ∧ ∀ k j, k ≠ 18 → k ≠ 37 → q.1.2.1 k j = ms.2.1 k j)
      (fun j q hj hq => by
        obtain ⟨q1, ⟨m, m1, m2⟩, q3⟩ := hq
        unfold stR
        split
        · exact ⟨by omega, ⟨m, m1, m2⟩, q3⟩
        · refine ⟨by show q.2 + 1 ≤ j + 1; omega, ⟨postN m, postN_le m1, ?_⟩, fun k j' h1 h2 => ?_⟩
          · rw [m2, nI_clamp (by omega)]
            exact postM_36 (by rw [aS_1]; exact m2)
          · show (postM _ _ _).2.1 k j' = _
            rw [postM_k h2, aS_k h1]; exact q3 k j' h1 h2)
      (fun m q hq => by
        show pg_X10_register_32 (m + 1) q.1 (nI i) (nI q.2) (nI (4 * i + c)) = _
        rw [pg_X10_register_32, k_aI_nI (show i < k_len 15 from hi), h_b1_s, hq.2.2 15 i (by decide) (by decide), hc, nI_m4, nI_add, if_pos (Int32.le_refl _)])
      (fun m j q hj hq => by
        obtain ⟨q1, ⟨n', m1, m2⟩, q3⟩ := hq
        show pg_X10_register_32 (m + 1) q.1 (nI i) (nI q.2) (nI j) = pg_X10_register_32 m (stR i j q).1 (nI i) (nI (stR i j q).2) (nI (j + 1))
        have hj32 : j < 32 := by omega
        have hlj : Ln (q.1.2.1 17 j) := by rw [q3 17 j (by decide) (by decide)]; exact i3 j hj32
        obtain ⟨el, hl32⟩ := Ln_nI hlj
        rw [pg_X10_register_32, k_aI_nI (show i < k_len 15 from hi), h_b1_s, q3 15 i (by decide) (by decide), hc, nI_m4, nI_add, if_neg (nI_ge hj (by omega)), k_aI_nI (show j < k_len 16 from hj32), h_b1_s, k_aI_nI (show j < k_len 17 from hj32), h_b1_s, nI_1, nI_1]
        have ho : p_X10_owner q.1 (q.1.2.1 16 j) (q.1.2.1 17 j) = some (o2i (ownE q.1 (q.1.2.1 16 j) (ln (q.1.2.1 17 j))), q.1) := by
          have := p_owner_eq q.1 (q.1.2.1 16 j) hl32 (fun k hk => by rw [q3 5 k (by decide) (by decide)]; exact i1 k hk)
          rw [← el] at this
          exact this
        rw [ho]
        simp only [k_bd_s]
        unfold stR
        cases hw : ownE q.1 (q.1.2.1 16 j) (ln (q.1.2.1 17 j)) with
        | none => rw [if_pos o2i_n]
        | some w =>
          have hw8 := ownE_lt hw
          rw [o2i_s, if_neg (nI_ne_m1 (by omega)), k_aI_nI (show i < k_len 18 from hi), h_b1_s, k_sI_n (show i < k_len 18 from hi), h_b1_s, k_aI_nI (show j < k_len 16 from hj32), h_b1_s, k_aI_nI (show j < k_len 17 from hj32), h_b1_s, k_aI_nI (show i < k_len 14 from hi), h_b1_s, k_aI_nI (show i < k_len 18 from hi), h_b1_s]
          have hn2 : (aS q.1 18 i (q.1.2.1 18 i + 1)).1 36 = nI n' := by rw [aS_1]; exact m2
          rw [p_post_eq _ _ _ _ _ _ _ _ hn2 m1]
          simp only [k_bd_s]
          rw [k_aI_nI (show j < k_len 16 from hj32), h_b1_s, k_aI_nI (show j < k_len 17 from hj32), h_b1_s, k_aI_nI (show i < k_len 14 from hi), h_b1_s, k_aI_nI (show i < k_len 18 from hi), h_b1_s, postM_k (by decide), postM_k (by decide), postM_k (by decide), postM_k (by decide), aS_s, aS_k (by decide), aS_k (by decide), aS_k (by decide)]
          rw [m2, nI_clamp (by omega)]
          generalize htg : tagF (nI i) (q.1.2.1 16 j) (q.1.2.1 17 j) (q.1.2.1 14 i) (q.1.2.1 18 i + 1) = tg
          have ht : ∀ r : MS, p_X10_tag r (nI i) (q.1.2.1 16 j) (q.1.2.1 17 j) (q.1.2.1 14 i) (q.1.2.1 18 i + 1) = some (tg, r) := by
            intro r
            rw [← htg]
            exact p_tag_eq _ _ _ _ _ _
          rw [ht, k_bd_s, hn2, p_last_eq _ m1 hn2, k_bd_s])
      c h_hN (4 * i) (okM ms, 0) ⟨Nat.zero_le _, ⟨n, h, hn⟩, fun _ _ _ _ => rfl⟩ rfl (h_hN_lt (by omega))
    exact key
-- truth
def trS (ms : MS) (ep : Int32) (i : Nat) (q : Int32 × Int32) : Int32 × Int32 := match bestE ms ep i with
  | none => q
  | some k => if q.2 < ms.2.1 8 k then (ms.2.1 9 k, ms.2.1 8 k) else q
theorem p_truth_eq (ms : MS) (ep : Int32) (hL : ∀ k, k < 128 → Ln (ms.2.1 8 k)) : p_X10_truth ms ep = some ((fo (trS ms ep) 0 8 (-1, -1)).1, okM ms) := by
  unfold p_X10_truth
  simp only [k_lt]
  have key := lp_fold (S := Int32 × Int32) (fun m q k => pg_X10_truth_12 m (okM ms) ep q.1 q.2 k) 8 (trS ms ep) (fun q => some (q.1, okM ms)) (fun _ _ => True) (fun _ _ _ _ => trivial)
    (fun m q _ => by
      show pg_X10_truth_12 (m + 1) (okM ms) ep q.1 q.2 (nI 8) = _
      rw [pg_X10_truth_12, show (8 : Int32) = nI 8 from rfl, if_pos (Int32.le_refl _)])
    (fun m i q hi _ => by
      show pg_X10_truth_12 (m + 1) (okM ms) ep q.1 q.2 (nI i) = pg_X10_truth_12 m (okM ms) ep (trS ms ep i q).1 (trS ms ep i q).2 (nI (i + 1))
      rw [pg_X10_truth_12, if_neg (show ¬ (8 : Int32) ≤ nI i from nI_ge (b := 8) hi (by omega)), p_best_eq (okM ms) ep hi hL, nI_1]
      simp only [k_bd_s]
      have e : bestE (okM ms) ep i = bestE ms ep i := rfl
      rw [e]
      unfold trS
      cases hb : bestE ms ep i with
      | none => rw [if_pos o2i_n]
      | some k =>
        have hk := bestE_lt hi hL hb
        rw [o2i_s, if_neg (nI_ne_m1 (by omega)), k_aI_nI (show k < k_len 8 from hk), k_aI_nI (show k < k_len 9 from hk)]
        simp only [h_b1_s]
        by_cases h : q.2 < ms.2.1 8 k
        · rw [if_pos (show q.2 < (okM ms).2.1 8 k from h), if_pos h]; rfl
        · rw [if_neg (show ¬ q.2 < (okM ms).2.1 8 k from h), if_neg h])
    8 h_hN 0 (-1, -1) trivial rfl (h_hN_lt (by omega))
  have key2 : pg_X10_truth_12 h_hN (okM ms) ep (-1) (-1) (nI 0) = some ((fo (trS ms ep) 0 8 (-1, -1)).1, okM ms) := key
  have key3 : pg_X10_truth_12 h_hN (okM ms) ep (-1) (-1) 0 = some ((fo (trS ms ep) 0 8 (-1, -1)).1, okM ms) := key2
  rw [show k_pI ms 0 0 = okM ms from rfl]
  exact key3
-- count
def cnt (P : Nat → Bool) : Nat → Nat → Nat
  | _, 0 => 0
  | i, c + 1 => (if P i = true then 1 else 0) + cnt P (i + 1) c
theorem fo_cnt (P : Nat → Bool) : ∀ (c i a : Nat), fo (fun i a => if P i = true then a + 1 else a) i c a = a + cnt P i c
  | 0, i, a => rfl
  | c + 1, i, a => by
    show fo _ (i + 1) c (if P i = true then a + 1 else a) = _
    rw [fo_cnt P c (i + 1)]
    show _ = a + ((if P i = true then 1 else 0) + cnt P (i + 1) c)
    split <;> omega
def cntV (ms : MS) (w : Int32) : Int32 := if w = 0 then ms.1 36 else if w = 1 then ms.1 39 else if w = 2 then ms.1 40 else if w = 3 then ms.1 41 else if w = 4 then ms.1 42 else if w = 5 then ms.1 28 else if w = 6 then ms.1 1 else if w = 7 then nI (cnt (liveE ms) 0 128) else if w = 8 then nI (cnt (liveN ms) 0 48) else -1
theorem p_count_eq (ms : MS) (w : Int32) : p_X10_count ms w = some (cntV ms w, okM ms) := by
  have k7 : pg_X10_count_97 h_hN (okM ms) 0 0 = some (nI (cnt (liveE ms) 0 128), okM ms) := by
    have key := lp_fold (S := Nat) (fun m a k => pg_X10_count_97 m (okM ms) (nI a) k) 128 (fun i a => if liveE ms i = true then a + 1 else a) (fun a => some (nI a, okM ms)) (fun _ _ => True) (fun _ _ _ _ => trivial)
      (fun m a _ => by
        show pg_X10_count_97 (m + 1) (okM ms) (nI a) (nI 128) = _
        rw [pg_X10_count_97, show (128 : Int32) = nI 128 from rfl, if_pos (Int32.le_refl _)])
      (fun m i a hi _ => by
        show pg_X10_count_97 (m + 1) (okM ms) (nI a) (nI i) = pg_X10_count_97 m (okM ms) (nI (if liveE ms i = true then a + 1 else a)) (nI (i + 1))
        rw [pg_X10_count_97, if_neg (show ¬ (128 : Int32) ≤ nI i from nI_ge (b := 128) hi (by omega)), k_aI_nI (show i < k_len 12 from hi), h_b1_s, nI_1, nI_1]
        unfold liveE
        by_cases h : ms.2.1 12 i ≤ ms.1 1
        · rw [if_pos (show (okM ms).2.1 12 i ≤ (okM ms).1 1 from h), decide_eq_false (Int32.not_lt.mpr h), show nI a + 0 = nI a from nI_add a 0]; rfl
        · rw [if_neg (show ¬ (okM ms).2.1 12 i ≤ (okM ms).1 1 from h), decide_eq_true (Int32.not_le.mp h)]; rfl)
      128 h_hN 0 0 trivial rfl (h_hN_lt (by omega))
    have key' : pg_X10_count_97 h_hN (okM ms) 0 0 = _ := key
    rw [key', fo_cnt, Nat.zero_add]
  have k8 : pg_X10_count_135 h_hN (okM ms) 0 0 = some (nI (cnt (liveN ms) 0 48), okM ms) := by
    have key := lp_fold (S := Nat) (fun m a k => pg_X10_count_135 m (okM ms) (nI a) k) 48 (fun i a => if liveN ms i = true then a + 1 else a) (fun a => some (nI a, okM ms)) (fun _ _ => True) (fun _ _ _ _ => trivial)
      (fun m a _ => by
        show pg_X10_count_135 (m + 1) (okM ms) (nI a) (nI 48) = _
        rw [pg_X10_count_135, show (48 : Int32) = nI 48 from rfl, if_pos (Int32.le_refl _)])
      (fun m i a hi _ => by
        show pg_X10_count_135 (m + 1) (okM ms) (nI a) (nI i) = pg_X10_count_135 m (okM ms) (nI (if liveN ms i = true then a + 1 else a)) (nI (i + 1))
        rw [pg_X10_count_135, if_neg (show ¬ (48 : Int32) ≤ nI i from nI_ge (b := 48) hi (by omega)), k_aI_nI (show i < k_len 23 from hi), h_b1_s, nI_1, nI_1]
        unfold liveN
        by_cases h : ms.2.1 23 i ≤ ms.1 1
        · rw [if_pos (show (okM ms).2.1 23 i ≤ (okM ms).1 1 from h), decide_eq_false (Int32.not_lt.mpr h), show nI a + 0 = nI a from nI_add a 0]; rfl
        · rw [if_neg (show ¬ (okM ms).2.1 23 i ≤ (okM ms).1 1 from h), decide_eq_true (Int32.not_le.mp h)]; rfl)
      48 h_hN 0 0 trivial rfl (h_hN_lt (by omega))
    have key' : pg_X10_count_135 h_hN (okM ms) 0 0 = _ := key
    rw [key', fo_cnt, Nat.zero_add]
  unfold p_X10_count cntV
  simp only [k_lt]
  by_cases w0 : w = 0
  · rw [if_pos w0, if_pos w0]; rfl
  rw [if_neg w0, if_neg w0]
  by_cases w1 : w = 1
  · rw [if_pos w1, if_pos w1]; rfl
  rw [if_neg w1, if_neg w1]
  by_cases w2 : w = 2
  · rw [if_pos w2, if_pos w2]; rfl
  rw [if_neg w2, if_neg w2]
  by_cases w3 : w = 3
  · rw [if_pos w3, if_pos w3]; rfl
  rw [if_neg w3, if_neg w3]
  by_cases w4 : w = 4
  · rw [if_pos w4, if_pos w4]; rfl
  rw [if_neg w4, if_neg w4]
  by_cases w5 : w = 5
  · rw [if_pos w5, if_pos w5]; rfl
  rw [if_neg w5, if_neg w5]
  by_cases w6 : w = 6
  · rw [if_pos w6, if_pos w6]; rfl
  rw [if_neg w6, if_neg w6]
  by_cases w7 : w = 7
  · rw [if_pos w7, if_pos w7]; exact k7
  rw [if_neg w7, if_neg w7]
  by_cases w8 : w = 8
  · rw [if_pos w8, if_pos w8]; exact k8
  rw [if_neg w8, if_neg w8]; rfl
end
