/-! THE REFERENCE'S ACTS, over numbers: deliver, lose, draw, ask, follow, forget, came -/
theorem k38_0 {ms : MS} : k_aI ms 38 0 = some (ms.2.1 38 0) := k_aI_nI (k := 38) (i := 0) (by decide)
theorem k38_1 {ms : MS} : k_aI ms 38 1 = some (ms.2.1 38 1) := k_aI_nI (k := 38) (i := 1) (by decide)
theorem k38_2 {ms : MS} : k_aI ms 38 2 = some (ms.2.1 38 2) := k_aI_nI (k := 38) (i := 2) (by decide)
theorem k38_3 {ms : MS} : k_aI ms 38 3 = some (ms.2.1 38 3) := k_aI_nI (k := 38) (i := 3) (by decide)
theorem k38_4 {ms : MS} : k_aI ms 38 4 = some (ms.2.1 38 4) := k_aI_nI (k := 38) (i := 4) (by decide)
theorem k38_5 {ms : MS} : k_aI ms 38 5 = some (ms.2.1 38 5) := k_aI_nI (k := 38) (i := 5) (by decide)
theorem k38_6 {ms : MS} : k_aI ms 38 6 = some (ms.2.1 38 6) := k_aI_nI (k := 38) (i := 6) (by decide)
theorem k38_7 {ms : MS} : k_aI ms 38 7 = some (ms.2.1 38 7) := k_aI_nI (k := 38) (i := 7) (by decide)
theorem o2i_n : o2i none = -1 := rfl
theorem o2i_s {k : Nat} : o2i (some k) = nI k := rfl
def dlvM (ms : MS) (i : Nat) (s : Int32) : MS := aS (aS (if ms.2.1 35 i = 0 then aS ms 33 i s else ms) 35 i (ms.2.1 35 i + 1)) 31 i 2
theorem p_deliver_eq (ms : MS) {i : Nat} (s : Int32) (hi : i < 201) : p_X10_deliver ms (nI i) s = some ((), dlvM ms i s) := by
  unfold p_X10_deliver dlvM
  rw [k_aI_nI (show i < k_len 35 from hi), h_b1_s]
  by_cases h : ms.2.1 35 i = 0
  · rw [if_pos h, if_pos h, k_sI_n (show i < k_len 33 from hi), h_b1_s]
    unfold pj_X10_deliver_16
    rw [k_aI_nI (show i < k_len 35 from hi), h_b1_s, k_sI_n (show i < k_len 35 from hi), h_b1_s, k_sI_n (show i < k_len 31 from hi), h_b1_s, aS_k (by decide)]
  · rw [if_neg h, if_neg h]
    unfold pj_X10_deliver_16
    rw [k_aI_nI (show i < k_len 35 from hi), h_b1_s, k_sI_n (show i < k_len 35 from hi), h_b1_s, k_sI_n (show i < k_len 31 from hi), h_b1_s]
def losM (ms : MS) (i : Nat) : MS := if ms.2.1 31 i = 1 then aS ms 31 i 4 else ms
theorem p_lose_eq (ms : MS) {i : Nat} (hi : i < 201) : p_X10_lose ms (nI i) = some ((), losM ms i) := by
  unfold p_X10_lose losM
  rw [k_aI_nI (show i < k_len 31 from hi), h_b1_s]
  by_cases h : ms.2.1 31 i = 1
  · rw [if_pos h, if_pos h, k_sI_n (show i < k_len 31 from hi), h_b1_s]
  · rw [if_neg h, if_neg h]
def drw (g : Int32) : Int32 := ((g ^^^ (g <<< (13 &&& 31))) ^^^ h_ushr (g ^^^ (g <<< (13 &&& 31))) 17) ^^^ (((g ^^^ (g <<< (13 &&& 31))) ^^^ h_ushr (g ^^^ (g <<< (13 &&& 31))) 17) <<< (5 &&& 31))
theorem p_draw_eq (ms : MS) : p_X10_draw ms = some ((), k_pI ms 2 (drw (ms.1 2))) := by
  unfold p_X10_draw drw
  simp only [k_lt, pI_s1, pI_pI]
def postN (n : Nat) : Nat := if n = 200 then 200 else n + 1
theorem postN_le {n : Nat} (h : n ≤ 200) : postN n ≤ 200 := by unfold postN; split <;> omega
theorem postM_36 {ms : MS} {n : Nat} {f : Nat → Int32} (hn : ms.1 36 = nI n) : (postM ms n f).1 36 = nI (postN n) := by
  unfold postM postN
  split
  · rename_i h; subst h; rw [pI_n1 (by decide)]; exact hn
  · rw [pI_s1]
theorem postM_k {ms : MS} {n : Nat} {f : Nat → Int32} {k j : Nat} (h : k ≠ 37) : (postM ms n f).2.1 k j = ms.2.1 k j := by
  unfold postM
  split
  · rfl
  · show (rW _ _ _).2.1 k j = _
    rw [rW_i, if_neg h]
theorem postM_s {ms : MS} {n : Nat} {f : Nat → Int32} {k : Nat} (h : k ≠ 36) (h2 : k ≠ 42) : (postM ms n f).1 k = ms.1 k := by
  unfold postM
  split
  · rw [pI_n1 h2]
  · rw [pI_n1 h]; rfl
theorem postM_L {ms : MS} {n : Nat} {f : Nat → Int32} : (postM ms n f).2.2 = ms.2.2 := by
  unfold postM
  split <;> rfl
def askM (ms : MS) (n i : Nat) (sv : Int32) : MS := postM (aS (aS (k_pI ms 2 (drw (ms.1 2))) 31 i 0) 32 i (drw (ms.1 2))) n (mG (ms.2.1 29 i) (drw (ms.1 2)) (ms.2.1 30 i) 0 0 0 1 sv)
theorem p_ask_eq (ms : MS) {n i : Nat} (sv : Int32) (hi : i < 201) (hn : ms.1 36 = nI n) (h : n ≤ 200) : p_X10_ask ms (nI i) sv = some ((), askM ms n i sv) := by
  unfold p_X10_ask askM
  rw [p_draw_eq]
  simp only [k_bd_s]
  rw [k_sI_n (show i < k_len 31 from hi), h_b1_s, k_sI_n (show i < k_len 32 from hi), h_b1_s, k_aI_nI (show i < k_len 29 from hi), h_b1_s, k_aI_nI (show i < k_len 30 from hi), h_b1_s, p_post_eq (n := n) _ _ _ _ _ _ _ _ (by rw [aS_1, aS_1, pI_n1 (by decide)]; exact hn) h]
  simp only [k_bd_s]
  rfl
def folM (ms : MS) (n i : Nat) (pl : Int32) : MS := if pl = -1 then aS ms 31 i 3 else postM (aS ms 31 i 1) n (mG (ms.2.1 29 i) (nI i) (ms.2.1 30 i) 0 0 0 3 pl)
theorem p_follow_eq (ms : MS) {n i : Nat} (pl : Int32) (hi : i < 201) (hn : ms.1 36 = nI n) (h : n ≤ 200) : p_X10_follow ms (nI i) pl = some ((), folM ms n i pl) := by
  unfold p_X10_follow folM
  by_cases hp : pl = -1
  · rw [if_pos hp, if_pos hp]
    unfold pj_X10_follow_15
    rw [k_sI_n (show i < k_len 31 from hi), h_b1_s, if_pos hp]
  · rw [if_neg hp, if_neg hp]
    unfold pj_X10_follow_15
    rw [k_sI_n (show i < k_len 31 from hi), h_b1_s, if_neg hp, k_aI_nI (show i < k_len 29 from hi), h_b1_s, k_aI_nI (show i < k_len 30 from hi), h_b1_s, p_post_eq (n := n) _ _ _ _ _ _ _ _ (by rw [aS_1]; exact hn) h]
    simp only [k_bd_s]
    rfl
/-- the note of a site with an endpoint -/
def ntF (ms : MS) (s : Nat) (ep : Int32) : Option Nat := ff (fun k => liveN ms k && ag (ln (ms.2.1 20 k)) (ms.2.1 19 k) ep) (6 * s) 6
theorem p_noteF_eq (ms : MS) (ep : Int32) {s : Nat} (hs : s < 8) (hL : ∀ k, k < 48 → Ln (ms.2.1 20 k)) : p_X10_noteFor ms (nI s) ep = some (o2i (ntF ms s ep), ms) := p_noteFor_eq ms ep hs hL
theorem ntF_lt {ms : MS} {s : Nat} {ep : Int32} {k : Nat} (h : ntF ms s ep = some k) : k < 6 * s + 6 := ff_lt h
def fgtM (ms : MS) (s : Nat) (ep pl : Int32) : MS := match ntF ms s ep with
  | none => ms
  | some k => if ms.2.1 21 k = pl then aS ms 23 k 0 else ms
theorem p_forget_eq (ms : MS) {s : Nat} (ep pl : Int32) (hs : s < 8) (hL : ∀ k, k < 48 → Ln (ms.2.1 20 k)) : p_X10_forget ms (nI s) ep pl = some ((), fgtM ms s ep pl) := by
  unfold p_X10_forget fgtM
  rw [p_noteF_eq ms ep hs hL]
  simp only [k_bd_s]
  cases hk : ntF ms s ep with
  | none => rw [if_pos o2i_n]
  | some k =>
    have hk2 := ntF_lt hk
    rw [if_neg (fun z => by have := (o2i_none (o := some k) (fun j h => by cases h; omega)).mp z; cases this), o2i_s, k_aI_nI (show k < k_len 21 by show k < 48; omega), h_b1_s]
    by_cases h : ms.2.1 21 k = pl
    · rw [if_pos h, k_sI_n (show k < k_len 23 by show k < 48; omega), h_b1_s]
      simp only [h, if_true]
    · rw [if_neg h]
      simp only [h, if_false]
/-- whether a site has a prefix with an endpoint -/
def hasB (ms : MS) (s : Nat) (ep : Int32) : Bool := (ff (fun k => ag (ln (ms.2.1 17 k)) (ms.2.1 16 k) ep) (4 * s) (ms.2.1 15 s).toNatClampNeg).isSome
theorem p_has_eq (ms : MS) (ep : Int32) {s : Nat} (hs : s < 8) (hc : ∃ c : Nat, ms.2.1 15 s = nI c ∧ c ≤ 4) (hL : ∀ k, k < 32 → Ln (ms.2.1 17 k)) : p_X10_hasEndpoint ms (nI s) ep = some (b2i (hasB ms s ep), ms) := by
  obtain ⟨c, hc, hc4⟩ := hc
  rw [p_hasEndpoint_eq ms ep hs hc hc4 hL]
  unfold hasB
  rw [hc, nI_clamp (by omega)]
/-- a SOLICIT goes to the sender -/
def solM (ms : MS) (n : Nat) : MS := postM (k_pI ms 41 (ms.1 41 + 1)) n (mG (ms.2.1 38 2) (ms.2.1 38 7) 0 0 0 0 4 (ms.2.1 38 0))
theorem p_sol_eq (ms : MS) {n : Nat} {pl ep : Int32} (h7 : ms.2.1 38 7 = pl) (h2 : ms.2.1 38 2 = ep) (hn : ms.1 36 = nI n) (h : n ≤ 200) : pj_X10_came_196 ms pl ep = some ((), solM ms n) := by
  unfold pj_X10_came_196 solM
  simp only [k_lt]
  rw [k38_0, h_b1_s, p_post_eq (n := n) _ _ _ _ _ _ _ _ (by rw [pI_n1 (by decide)]; exact hn) h]
  simp only [k_bd_s]
  rw [h7, h2]; rfl
/-- DATA that goes on -/
def onM (ms : MS) (n w : Nat) : MS := postM ms n (mG (ms.2.1 38 0) (ms.2.1 38 1) (ms.2.1 38 2) (ms.2.1 38 3) (ms.2.1 38 4) (ms.2.1 38 5) 3 (ms.2.1 14 w))
def onB (ms : MS) (pl : Nat) : Bool := decide (¬ ms.2.1 26 pl = -1) && decide (ms.1 1 < ms.2.1 27 pl)
def cameM (ms : MS) (n pl : Nat) : MS :=
  if (siteB ms (ms.2.1 38 0) && decide (1 ≤ ms.2.1 38 1 ∧ ms.2.1 38 1 ≤ ms.1 28)) = true then
    match ff (fun s => decide (ms.2.1 14 s = nI pl)) 0 8 with
    | some h => if hasB ms h (ms.2.1 38 2) = true then dlvM ms (ms.2.1 38 1).toNatClampNeg (nI h) else solM (losM ms (ms.2.1 38 1).toNatClampNeg) n
    | none => if onB ms pl = true then solM (onM ms n (ms.2.1 26 pl).toNatClampNeg) (postN n) else losM ms (ms.2.1 38 1).toNatClampNeg
  else ms
theorem k_aI_0 {ms : MS} {k : Nat} (h : 0 < k_len k) : k_aI ms k 0 = some (ms.2.1 k 0) := k_aI_nI (i := 0) h
theorem losM_1 {ms : MS} {i : Nat} : (losM ms i).1 = ms.1 := by unfold losM; split <;> rfl
theorem losM_k {ms : MS} {i k j : Nat} (h : k ≠ 31) : (losM ms i).2.1 k j = ms.2.1 k j := by
  unfold losM
  split
  · rw [aS_k h]
  · rfl
set_option maxHeartbeats 2000000 in
theorem p_came_eq (ms : MS) {n pl np : Nat} (h7 : ms.2.1 38 7 = nI pl) (hpl : pl < 16) (hn : ms.1 36 = nI n) (h : n ≤ 200) (hnp : ms.1 28 = nI np) (hnp2 : np ≤ 200)
    (hc : ∀ s, s < 8 → ∃ c : Nat, ms.2.1 15 s = nI c ∧ c ≤ 4) (hL : ∀ k, k < 32 → Ln (ms.2.1 17 k)) (hw : ms.2.1 26 pl = -1 ∨ ∃ w, w < 8 ∧ ms.2.1 26 pl = nI w) : p_X10_came ms = some ((), cameM ms n pl) := by
  unfold p_X10_came cameM
  rw [k38_7, h_b1_s, k38_1, h_b1_s, k38_2, h_b1_s, k38_0, h_b1_s, p_isSite_eq]
  simp only [k_bd_s]
  cases hs : siteB ms (ms.2.1 38 0)
  · rw [if_pos (show b2i false = 0 from rfl)]; rfl
  · rw [if_neg (by decide), p_in_eq]
    simp only [k_bd_s, Bool.true_and]
    cases hp : decide (1 ≤ ms.2.1 38 1 ∧ ms.2.1 38 1 ≤ ms.1 28)
    · rw [if_pos (show b2i false = 0 from rfl)]; rfl
    · rw [if_neg (by decide)]
      simp only [if_true]
      have hp2 := of_decide_eq_true hp
      obtain ⟨i, hi, e1⟩ := nI_of (x := ms.2.1 38 1) (fun z => by
        have h9 : 1 ≤ ms.2.1 38 1 := hp2.1
        have := Int32.lt_of_le_of_lt h9 z
        exact absurd this (by decide))
      have hi2 : 1 ≤ i ∧ i ≤ np := by
        rw [e1, hnp] at hp2
        exact ⟨(nI_leI (a := 1) (by omega) hi).mp hp2.1, (nI_leI hi (by omega)).mp hp2.2⟩
      rw [p_siteAt_eq, h7]
      simp only [k_bd_s]
      rw [e1, nI_clamp hi]
      cases hf : ff (fun s => decide (ms.2.1 14 s = nI pl)) 0 8 with
      | some w =>
        have hw8 := ff_lt hf
        rw [if_neg (fun z => by have := (o2i_none (o := some w) (fun j h => by cases h; omega)).mp z; cases this)]
        unfold pj_X10_came_88 pj_X10_came_89
        rw [if_neg (fun z => by have := (o2i_none (o := some w) (fun j h => by cases h; omega)).mp z; cases this), show o2i (some w) = nI w from rfl, p_has_eq ms _ (by omega) (hc w (by omega)) hL]
        simp only [k_bd_s]
        cases hb : hasB ms w (ms.2.1 38 2)
        · rw [if_pos (show b2i false = 0 from rfl)]
          unfold pj_X10_came_115
          rw [if_pos rfl, p_lose_eq ms (by omega)]
          simp only [k_bd_s]
          unfold pj_X10_came_125
          rw [if_neg (fun z => by have := (o2i_none (o := some w) (fun j h => by cases h; omega)).mp z; cases this)]
          unfold pj_X10_came_137
          rw [if_pos rfl, p_sol_eq (n := n) _ (by rw [losM_k (by decide)]; exact h7) (losM_k (by decide)) (by rw [losM_1]; exact hn) h]
          rfl
        · rw [if_neg (by decide), p_deliver_eq ms _ (by omega)]
          simp only [k_bd_s]
          rfl
      | none =>
        rw [if_pos o2i_n, k_aI_nI (show pl < k_len 26 from hpl), h_b1_s]
        unfold onB
        have hlose : pj_X10_came_88 ms (nI pl) (nI i) (ms.2.1 38 2) (o2i none) = some ((), losM ms i) := by
          unfold pj_X10_came_88 pj_X10_came_89
          rw [if_pos o2i_n]
          unfold pj_X10_came_115
          rw [if_pos rfl, p_lose_eq ms (by omega)]
          simp only [k_bd_s]
          unfold pj_X10_came_125
          rw [if_pos o2i_n, if_pos rfl]
        by_cases h26 : ms.2.1 26 pl = -1
        · rw [if_pos h26, hlose, decide_eq_false (fun z => z h26)]
          rfl
        · rw [if_neg h26, k_aI_nI (show pl < k_len 27 from hpl), h_b1_s, decide_eq_true (show ¬ ms.2.1 26 pl = -1 from h26)]
          by_cases h27 : ms.2.1 27 pl ≤ ms.1 1
          · rw [if_pos h27, hlose, decide_eq_false (Int32.not_lt.mpr h27)]
            rfl
          · rw [if_neg h27, decide_eq_true (Int32.not_le.mp h27)]
            obtain ⟨w, hw8, ew⟩ := hw.resolve_left h26
            unfold pj_X10_came_89
            rw [if_pos o2i_n]
            unfold pj_X10_came_115
            rw [if_neg (by decide)]
            unfold pj_X10_came_125
            rw [if_pos o2i_n, if_neg (by decide)]
            unfold pj_X10_came_137
            rw [if_neg (by decide), k_aI_nI (show pl < k_len 26 from hpl), h_b1_s, ew, k_aI_nI (show w < k_len 14 from hw8), h_b1_s, k38_0, h_b1_s, k38_3, h_b1_s, k38_4, h_b1_s, p_post_eq _ _ _ _ _ _ _ _ hn h]
            simp only [k_bd_s]
            rw [k38_5, h_b1_s, postM_k (by decide), hn, p_last_eq _ h hn]
            simp only [k_bd_s]
            rw [p_sol_eq (n := postN n) _ (by rw [postM_k (by decide)]; exact h7) (postM_k (by decide)) (postM_36 hn) (postN_le h)]
            unfold onM
            rw [nI_clamp (by omega), e1]
            rfl
