theorem i8 {a : Int32} (h : 0 ≤ a ∧ a ≤ 7) : ∃ i : Nat, i < 8 ∧ a = nI i := by
  obtain ⟨j, h1, h2⟩ := nI_of2 (M := 7) (n := 7) (by decide) (Int32.not_lt.mpr h.1) h.2
  exact ⟨j, by omega, h2⟩
theorem i8' {i : Nat} (h : i < 8) : 0 ≤ nI i ∧ nI i ≤ 7 := ⟨nI_pos' (by omega), nI_le (a := i) (b := 7) (by omega) (by omega)⟩
def srvB (ms : MS) (a : Int32) : Bool := decide (0 ≤ a ∧ a ≤ 7) && decide (¬ ms.2.1 3 a.toNatClampNeg = 0)
def siteB (ms : MS) (a : Int32) : Bool := decide (0 ≤ a ∧ a ≤ 7) && decide (¬ ms.2.1 14 a.toNatClampNeg = -1)
theorem p_isServerAt_eq (ms : MS) (a : Int32) : p_X10_isServerAt ms a = some (b2i (srvB ms a), ms) := by
  unfold p_X10_isServerAt srvB
  rw [p_in_eq]
  by_cases h : 0 ≤ a ∧ a ≤ 7
  · rw [decide_eq_true h, Bool.true_and]
    obtain ⟨i, hi, rfl⟩ := i8 h
    show h_b1 (k_aI ms 3 (nI i)) (fun x3 => if x3 = 0 then some ((0 : Int32), ms) else some (1, ms)) = _
    rw [k_aI_nI (show i < k_len 3 from hi), nI_clamp (by omega)]
    show (if ms.2.1 3 i = 0 then some ((0 : Int32), ms) else some (1, ms)) = _
    by_cases h2 : ms.2.1 3 i = 0
    · rw [if_pos h2, decide_eq_false (fun z => z h2)]; rfl
    · rw [if_neg h2, decide_eq_true h2]; rfl
  · rw [decide_eq_false h]; rfl
theorem p_isSite_eq (ms : MS) (a : Int32) : p_X10_isSite ms a = some (b2i (siteB ms a), ms) := by
  unfold p_X10_isSite siteB
  rw [p_in_eq]
  by_cases h : 0 ≤ a ∧ a ≤ 7
  · rw [decide_eq_true h, Bool.true_and]
    obtain ⟨i, hi, rfl⟩ := i8 h
    show h_b1 (k_aI ms 14 (nI i)) (fun x3 => if x3 = -1 then some ((0 : Int32), ms) else some (1, ms)) = _
    rw [k_aI_nI (show i < k_len 14 from hi), nI_clamp (by omega)]
    show (if ms.2.1 14 i = -1 then some ((0 : Int32), ms) else some (1, ms)) = _
    by_cases h2 : ms.2.1 14 i = -1
    · rw [if_pos h2, decide_eq_false (fun z => z h2)]; rfl
    · rw [if_neg h2, decide_eq_true h2]; rfl
  · rw [decide_eq_false h]; rfl
theorem nI_m16 (s : Nat) : (16 : Int32) * nI s = nI (16 * s) := pk_mul 16 s
theorem nI_m6 (s : Nat) : (6 : Int32) * nI s = nI (6 * s) := pk_mul 6 s
theorem nI_m4 (s : Nat) : (4 : Int32) * nI s = nI (4 * s) := pk_mul 4 s
theorem nI_m8 (s : Nat) : (8 : Int32) * nI s = nI (8 * s) := pk_mul 8 s
theorem nI_a16 (s : Nat) : nI s + (16 : Int32) = nI (s + 16) := nI_add s 16
theorem nI_a6 (s : Nat) : nI s + (6 : Int32) = nI (s + 6) := nI_add s 6
def liveE (ms : MS) (k : Nat) : Bool := decide (ms.1 1 < ms.2.1 12 k)
def liveN (ms : MS) (k : Nat) : Bool := decide (ms.1 1 < ms.2.1 23 k)
theorem p_entryFor_eq (ms : MS) (b l : Int32) {s : Nat} (hs : s < 8) : p_X10_entryFor ms (nI s) b l = some (o2i (ff (fun k => liveE ms k && (decide (ms.2.1 7 k = b) && decide (ms.2.1 8 k = l))) (16 * s) 16), ms) := by
  unfold p_X10_entryFor
  have key := lp_find (fun n k => pg_X10_entryFor_6 n ms (nI s) b l k) (16 * s + 16) (fun k => liveE ms k && (decide (ms.2.1 7 k = b) && decide (ms.2.1 8 k = l))) (fun j => some (nI j, ms)) (some (-1, ms))
    (fun n => by show pg_X10_entryFor_6 (n + 1) ms (nI s) b l (nI (16 * s + 16)) = _; rw [pg_X10_entryFor_6, nI_m16, nI_a16, if_pos (Int32.le_refl _)])
    (fun n i hi => by
      show pg_X10_entryFor_6 (n + 1) ms (nI s) b l (nI i) = _
      rw [pg_X10_entryFor_6, nI_m16, nI_a16, if_neg (nI_ge hi (by omega)), k_aI_nI (show i < k_len 12 by show i < 128; omega), k_aI_nI (show i < k_len 7 by show i < 128; omega), k_aI_nI (show i < k_len 8 by show i < 128; omega), nI_1]
      show (if ms.2.1 12 i ≤ ms.1 1 then pg_X10_entryFor_6 n ms (nI s) b l (nI (i + 1)) else if ms.2.1 7 i = b then (if ms.2.1 8 i = l then some (nI i, ms) else pg_X10_entryFor_6 n ms (nI s) b l (nI (i + 1))) else pg_X10_entryFor_6 n ms (nI s) b l (nI (i + 1))) = _
      unfold liveE
      by_cases h1 : ms.2.1 12 i ≤ ms.1 1
      · rw [if_pos h1, decide_eq_false (Int32.not_lt.mpr h1)]; rfl
      · rw [if_neg h1, decide_eq_true (Int32.not_le.mp h1)]
        by_cases h2 : ms.2.1 7 i = b
        · rw [if_pos h2, decide_eq_true h2]
          by_cases h3 : ms.2.1 8 i = l
          · rw [if_pos h3, decide_eq_true h3]; rfl
          · rw [if_neg h3, decide_eq_false h3]; rfl
        · rw [if_neg h2, decide_eq_false h2]; rfl) 16 h_hN (16 * s) rfl (h_hN_lt (by omega))
  rw [nI_m16]
  refine key.trans ?_
  cases ff (fun k => liveE ms k && (decide (ms.2.1 7 k = b) && decide (ms.2.1 8 k = l))) (16 * s) 16 <;> rfl
theorem p_emptyEntry_eq (ms : MS) {s : Nat} (hs : s < 8) : p_X10_emptyEntry ms (nI s) = some (o2i (ff (fun k => !liveE ms k) (16 * s) 16), ms) := by
  unfold p_X10_emptyEntry
  have key := lp_find (fun n k => pg_X10_emptyEntry_5 n ms (nI s) k) (16 * s + 16) (fun k => !liveE ms k) (fun j => some (nI j, ms)) (some (-1, ms))
    (fun n => by show pg_X10_emptyEntry_5 (n + 1) ms (nI s) (nI (16 * s + 16)) = _; rw [pg_X10_emptyEntry_5, nI_m16, nI_a16, if_pos (Int32.le_refl _)])
    (fun n i hi => by
      show pg_X10_emptyEntry_5 (n + 1) ms (nI s) (nI i) = _
      rw [pg_X10_emptyEntry_5, nI_m16, nI_a16, if_neg (nI_ge hi (by omega)), k_aI_nI (show i < k_len 12 by show i < 128; omega), nI_1]
      show (if ms.1 1 < ms.2.1 12 i then pg_X10_emptyEntry_5 n ms (nI s) (nI (i + 1)) else some (nI i, ms)) = _
      unfold liveE
      by_cases h1 : ms.1 1 < ms.2.1 12 i
      · rw [if_pos h1, decide_eq_true h1]; rfl
      · rw [if_neg h1, decide_eq_false h1]; rfl) 16 h_hN (16 * s) rfl (h_hN_lt (by omega))
  rw [nI_m16]
  refine key.trans ?_
  cases ff (fun k => !liveE ms k) (16 * s) 16 <;> rfl
theorem p_noteFor_eq (ms : MS) (ep : Int32) {s : Nat} (hs : s < 8) (hL : ∀ k, k < 48 → Ln (ms.2.1 20 k)) : p_X10_noteFor ms (nI s) ep = some (o2i (ff (fun k => liveN ms k && ag (ln (ms.2.1 20 k)) (ms.2.1 19 k) ep) (6 * s) 6), ms) := by
  unfold p_X10_noteFor
  have key := lp_find (fun n k => pg_X10_noteFor_5 n ms (nI s) ep k) (6 * s + 6) (fun k => liveN ms k && ag (ln (ms.2.1 20 k)) (ms.2.1 19 k) ep) (fun j => some (nI j, ms)) (some (-1, ms))
    (fun n => by show pg_X10_noteFor_5 (n + 1) ms (nI s) ep (nI (6 * s + 6)) = _; rw [pg_X10_noteFor_5, nI_m6, nI_a6, if_pos (Int32.le_refl _)])
    (fun n i hi => by
      show pg_X10_noteFor_5 (n + 1) ms (nI s) ep (nI i) = _
      rw [pg_X10_noteFor_5, nI_m6, nI_a6, if_neg (nI_ge hi (by omega)), k_aI_nI (show i < k_len 23 by show i < 48; omega), k_aI_nI (show i < k_len 19 by show i < 48; omega), k_aI_nI (show i < k_len 20 by show i < 48; omega), nI_1]
      show (if ms.2.1 23 i ≤ ms.1 1 then pg_X10_noteFor_5 n ms (nI s) ep (nI (i + 1)) else k_bd (p_X10_begin ms (ms.2.1 19 i) ep (ms.2.1 20 i)) fun r4 q5 => if r4 = 0 then pg_X10_noteFor_5 n q5 (nI s) ep (nI (i + 1)) else some (nI i, q5)) = _
      unfold liveN
      by_cases h1 : ms.2.1 23 i ≤ ms.1 1
      · rw [if_pos h1, decide_eq_false (Int32.not_lt.mpr h1)]; rfl
      · rw [if_neg h1, decide_eq_true (Int32.not_le.mp h1), p_begin_L ms _ _ (hL i (by omega))]
        show (if b2i (ag (ln (ms.2.1 20 i)) (ms.2.1 19 i) ep) = 0 then pg_X10_noteFor_5 n ms (nI s) ep (nI (i + 1)) else some (nI i, ms)) = _
        cases ag (ln (ms.2.1 20 i)) (ms.2.1 19 i) ep <;> rfl) 6 h_hN (6 * s) rfl (h_hN_lt (by omega))
  rw [nI_m6]
  refine key.trans ?_
  cases ff (fun k => liveN ms k && ag (ln (ms.2.1 20 k)) (ms.2.1 19 k) ep) (6 * s) 6 <;> rfl
