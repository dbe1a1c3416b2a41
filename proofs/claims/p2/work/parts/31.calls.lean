/-! THE REFERENCE'S CALLS, over numbers: the plain ones -/
theorem pI_pI {ms : MS} {k : Nat} {a b : Int32} : k_pI (k_pI ms k a) k b = k_pI ms k b := by
  show (va_up (va_up ms.1 k a) k b, ms.2) = (va_up ms.1 k b, ms.2)
  congr 1
  funext z
  unfold va_up
  by_cases h : z = k
  · simp [h]
  · simp [h]
theorem b2i_not_t : b2i (!true) = 0 := rfl
theorem b2i_not_f : b2i (!false) = 1 := rfl
def okM (ms : MS) : MS := k_pI ms 0 0
def noM (ms : MS) : MS := k_pI ms 0 1
theorem okM_1 {ms : MS} {k : Nat} (h : k ≠ 0) : (okM ms).1 k = ms.1 k := pI_n1 h
theorem okM_0 {ms : MS} : (okM ms).1 0 = 0 := pI_s1
theorem noM_0 {ms : MS} : (noM ms).1 0 = 1 := pI_s1
theorem okM_2 {ms : MS} : (okM ms).2 = ms.2 := rfl
theorem noM_2 {ms : MS} : (noM ms).2 = ms.2 := rfl
theorem noM_1 {ms : MS} {k : Nat} (h : k ≠ 0) : (noM ms).1 k = ms.1 k := pI_n1 h
theorem noM_ok {ms : MS} {a : Int32} : noM (k_pI ms 0 a) = noM ms := pI_pI
theorem okM_ok {ms : MS} {a : Int32} : okM (k_pI ms 0 a) = okM ms := pI_pI
-- pass
def passB (ms : MS) (t : Int32) : Bool := decide (1 ≤ t ∧ t ≤ 1000) && decide (ms.1 1 + t ≤ 1000000)
theorem p_pass_eq (ms : MS) (t : Int32) : p_X10_pass ms t = some ((), if passB ms t = true then k_pI (okM ms) 1 (ms.1 1 + t) else noM ms) := by
  unfold p_X10_pass passB
  rw [p_in_eq]
  simp only [k_bd_s]
  cases h1 : decide (1 ≤ t ∧ t ≤ 1000)
  · rw [if_pos (show b2i false = 0 from rfl)]
    unfold pj_X10_pass_27 pj_X10_pass_28
    simp only [k_lt, pI_s1, Bool.false_and]
    rw [if_neg (by decide), if_neg (by decide)]; rfl
  · rw [if_neg (by decide)]
    by_cases h2 : 1000000 < ms.1 1 + t
    · rw [if_pos h2, decide_eq_false (Int32.not_le.mpr h2)]
      unfold pj_X10_pass_27 pj_X10_pass_28
      simp only [k_lt, pI_s1, Bool.and_false]
      rw [if_neg (by decide), if_neg (by decide)]; rfl
    · rw [if_neg h2, decide_eq_true (Int32.not_lt.mp h2)]
      unfold pj_X10_pass_28
      simp only [k_lt, pI_s1, Bool.and_self, if_true]
      rfl
-- site
def freeB (ms : MS) (pl : Int32) : Bool := (ff (fun s => decide (ms.2.1 14 s = pl)) 0 8).isNone
def siteMB (ms : MS) (s pl : Int32) : Bool := decide (0 ≤ s ∧ s ≤ 7) && (decide (ms.2.1 14 s.toNatClampNeg = -1) && (decide (0 ≤ pl ∧ pl ≤ 15) && freeB ms pl))
theorem ff_lt {P : Nat → Bool} {i c j : Nat} (h : ff P i c = some j) : j < i + c := (ff_some.mp h).2.1
theorem o2i_free (ms : MS) (pl : Int32) : (o2i (ff (fun s => decide (ms.2.1 14 s = pl)) 0 8) = -1) ↔ freeB ms pl = true := by
  unfold freeB
  rw [o2i_none (fun j h => by have := ff_lt h; omega), Option.isNone_iff_eq_none]
theorem p_site_eq (ms : MS) (s pl : Int32) : p_X10_site ms s pl = some ((), if siteMB ms s pl = true then aS (okM ms) 14 s.toNatClampNeg pl else noM ms) := by
  have hno : ∀ q : MS, pj_X10_site_44 q s pl = some ((), noM q) := by
    intro q
    unfold pj_X10_site_44 pj_X10_site_45
    simp only [k_lt, pI_s1]
    rw [if_neg (by decide)]; rfl
  unfold p_X10_site siteMB
  rw [p_in_eq]
  simp only [k_bd_s]
  cases h1 : decide ((0 : Int32) ≤ s ∧ s ≤ 7)
  · rw [if_pos (show b2i false = 0 from rfl), hno]; rfl
  · rw [if_neg (by decide)]
    obtain ⟨i, hi, rfl⟩ := i8 (of_decide_eq_true h1)
    rw [k_aI_nI (show i < k_len 14 from hi), h_b1_s, nI_clamp (by omega)]
    by_cases h2 : ms.2.1 14 i = -1
    · rw [if_pos h2, decide_eq_true h2, p_in_eq]
      simp only [k_bd_s]
      cases h3 : decide ((0 : Int32) ≤ pl ∧ pl ≤ 15)
      · rw [if_pos (show b2i false = 0 from rfl), hno]; rfl
      · rw [if_neg (by decide), p_siteAt_eq]
        simp only [k_bd_s]
        by_cases h4 : freeB ms pl = true
        · rw [if_pos ((o2i_free ms pl).mpr h4), h4]
          unfold pj_X10_site_45
          simp only [k_lt, pI_s1, Bool.and_self, if_true]
          rw [k_sI_n (show i < k_len 14 from hi)]; rfl
        · rw [if_neg (fun z => h4 ((o2i_free ms pl).mp z)), hno, show freeB ms pl = false from Bool.eq_false_iff.mpr h4]
          rfl
    · rw [if_neg h2, hno, decide_eq_false h2]; rfl
-- move
def moveB (ms : MS) (s pl : Int32) : Bool := siteB ms s && (decide (0 ≤ pl ∧ pl ≤ 15) && freeB ms pl)
theorem p_move_eq (ms : MS) (s pl : Int32) {i p0 : Nat} (hp : siteB ms s = true → s = nI i ∧ i < 8 ∧ ms.2.1 14 i = nI p0 ∧ p0 < 16) : p_X10_move ms s pl = some ((), if moveB ms s pl = true then aS (aS (aS (okM ms) 26 p0 s) 27 p0 (ms.1 1 + 30)) 14 i pl else noM ms) := by
  have hno : ∀ q : MS, pj_X10_move_32 q s pl = some ((), noM q) := by
    intro q
    unfold pj_X10_move_32 pj_X10_move_33
    simp only [k_lt, pI_s1]
    rw [if_neg (by decide)]; rfl
  unfold p_X10_move moveB
  rw [p_isSite_eq]
  simp only [k_bd_s]
  cases h1 : siteB ms s
  · rw [if_pos (show b2i false = 0 from rfl), hno]; rfl
  · rw [if_neg (by decide), p_in_eq]
    obtain ⟨rfl, hi, h14, hp0⟩ := hp h1
    simp only [k_bd_s]
    cases h3 : decide ((0 : Int32) ≤ pl ∧ pl ≤ 15)
    · rw [if_pos (show b2i false = 0 from rfl), hno]; rfl
    · rw [if_neg (by decide), p_siteAt_eq]
      simp only [k_bd_s]
      by_cases h4 : freeB ms pl = true
      · rw [if_pos ((o2i_free ms pl).mpr h4), h4]
        unfold pj_X10_move_33
        simp only [k_lt, pI_s1, Bool.and_self, if_true]
        rw [if_pos (by decide), k_aI_nI (show i < k_len 14 from hi), h_b1_s, show (k_pI ms 0 0).2.1 14 i = nI p0 from h14, k_sI_n (show p0 < k_len 26 from hp0), h_b1_s, k_aI_nI (show i < k_len 14 from hi), h_b1_s, aS_k (by decide), show (k_pI ms 0 0).2.1 14 i = nI p0 from h14, k_sI_n (show p0 < k_len 27 from hp0), h_b1_s, k_sI_n (show i < k_len 14 from hi), h_b1_s]
        rfl
      · rw [if_neg (fun z => h4 ((o2i_free ms pl).mp z)), hno, show freeB ms pl = false from Bool.eq_false_iff.mpr h4]
        rfl
-- delegate
def delB (ms : MS) (p c b l : Int32) : Bool := srvB ms p && (decide (0 ≤ c ∧ c ≤ 7) && (decide (ms.2.1 3 c.toNatClampNeg = 0) && (vpB b l && (decide (ownE ms b (ln l) = some p.toNatClampNeg) && decide (¬ ms.2.1 5 p.toNatClampNeg = l)))))
theorem ownE_lt {ms : MS} {b : Int32} {n j : Nat} (h : ownE ms b n = some j) : j < 8 := by
  unfold ownE at h
  split at h
  · cases h
    have := fo_inv (step := ownS ms b n) (c := 8) (i := 0) (s := 0) (fun i w => i ≤ 8 → w < 8) (fun i w h1 h2 ih h3 => by
      unfold ownS
      split
      · split
        · exact ih (by omega)
        · omega
      · exact ih (by omega)) (fun _ => by decide)
    exact this (by omega)
  · cases h
theorem vpB_nI {b l : Int32} (h : vpB b l = true) : ∃ n, n ≤ 32 ∧ l = nI n ∧ vb n b = true := by
  unfold vpB at h
  rw [Bool.and_eq_true] at h
  obtain ⟨i, hi, rfl⟩ := i32 (of_decide_eq_true h.1)
  exact ⟨i, hi, rfl, by have := h.2; rw [nI_clamp (by omega)] at this; exact this⟩
theorem ln_nI {n : Nat} (h : n ≤ 32) : ln (nI n) = n := nI_clamp (by omega)
theorem p_delegate_eq (ms : MS) (p c b l : Int32) (hP : ∀ k, k < 8 → Ln (ms.2.1 5 k)) : p_X10_delegate ms p c b l = some ((), if delB ms p c b l = true then aS (aS (aS (aS (okM ms) 3 c.toNatClampNeg 1) 4 c.toNatClampNeg b) 5 c.toNatClampNeg l) 6 c.toNatClampNeg p else noM ms) := by
  have hno79 : ∀ q : MS, q.1 0 = 1 → pj_X10_delegate_79 q p c b l = some ((), q) := by
    intro q hq
    unfold pj_X10_delegate_79
    rw [hq, if_neg (by decide)]
  have hno74 : ∀ q : MS, pj_X10_delegate_74 q p c b l = some ((), noM q) := by
    intro q
    unfold pj_X10_delegate_74
    simp only [k_lt]
    exact hno79 _ pI_s1
  have hno : ∀ q : MS, pj_X10_delegate_41 q p c b l = some ((), noM q) := by
    intro q
    unfold pj_X10_delegate_41 pj_X10_delegate_42
    simp only [k_lt, pI_s1]
    rw [if_neg (by decide)]
    exact hno79 _ pI_s1
  unfold p_X10_delegate delB
  rw [p_isServerAt_eq]
  simp only [k_bd_s]
  cases h1 : srvB ms p
  · rw [if_pos (show b2i false = 0 from rfl), hno]; rfl
  · rw [if_neg (by decide), p_in_eq]
    simp only [k_bd_s]
    cases h2 : decide ((0 : Int32) ≤ c ∧ c ≤ 7)
    · rw [if_pos (show b2i false = 0 from rfl), hno]; rfl
    · rw [if_neg (by decide)]
      obtain ⟨i, hi, rfl⟩ := i8 (of_decide_eq_true h2)
      rw [k_aI_nI (show i < k_len 3 from hi), h_b1_s, nI_clamp (by omega)]
      by_cases h3 : ms.2.1 3 i = 0
      · rw [if_pos h3, decide_eq_true h3, p_isPrefix_eq]
        simp only [k_bd_s]
        cases h4 : vpB b l
        · rw [if_pos (show b2i false = 0 from rfl), hno]; rfl
        · rw [if_neg (by decide)]
          obtain ⟨n, hn, rfl, hv⟩ := vpB_nI h4
          unfold pj_X10_delegate_42
          simp only [k_lt, pI_s1, if_true]
          rw [p_owner_eq (k_pI ms 0 0) b hn hP]
          simp only [k_bd_s]
          have hp : ∃ j : Nat, j < 8 ∧ p = nI j := by
            unfold srvB at h1
            rw [Bool.and_eq_true] at h1
            obtain ⟨j, hj, e⟩ := i8 (of_decide_eq_true h1.1)
            exact ⟨j, hj, e⟩
          obtain ⟨j, hj, rfl⟩ := hp
          rw [ln_nI hn, nI_clamp (show j < 2 ^ 31 by omega)]
          have eo : ownE (k_pI ms 0 0) b n = ownE ms b n := rfl
          rw [eo]
          by_cases h5 : ownE ms b n = some j
          · rw [if_pos ((o2i_some (by omega) (fun j' h' => by have := ownE_lt h'; omega)).mpr h5).symm, decide_eq_true h5, k_aI_nI (show j < k_len 5 from hj), h_b1_s]
            by_cases h6 : ms.2.1 5 j = nI n
            · rw [if_pos (show (k_pI ms 0 0).2.1 5 j = nI n from h6), hno74, noM_ok, decide_eq_false (fun z => z h6)]
              rfl
            · rw [if_neg (show ¬ (k_pI ms 0 0).2.1 5 j = nI n from h6), decide_eq_true (show ¬ ms.2.1 5 j = nI n from h6)]
              unfold pj_X10_delegate_79
              rw [pI_s1, if_pos (by decide), k_sI_n (show i < k_len 3 from hi), h_b1_s, k_sI_n (show i < k_len 4 from hi), h_b1_s, k_sI_n (show i < k_len 5 from hi), h_b1_s, k_sI_n (show i < k_len 6 from hi), h_b1_s]
              rfl
          · rw [if_neg (fun z => h5 ((o2i_some (by omega) (fun j' h' => by have := ownE_lt h'; omega)).mp z.symm)), hno74, noM_ok, decide_eq_false h5]
            rfl
      · rw [if_neg h3, hno, decide_eq_false h3]; rfl
-- drop, repeat, forge, message
theorem p_drop_eq (ms : MS) (k : Int32) {n : Nat} (hn : ms.1 36 = nI n) (h : n ≤ 200) : p_X10_drop ms k = some ((), if msgB n k = true then takeM (okM ms) n k.toNatClampNeg else noM ms) := by
  unfold p_X10_drop
  rw [p_isMessage_eq ms k hn h]
  simp only [k_bd_s]
  cases hb : msgB n k
  · rw [if_pos (show b2i false = 0 from rfl)]; rfl
  · obtain ⟨i, hi, rfl⟩ := msgB_some h hb
    rw [if_neg (by decide), p_take_eq _ (n := n) (by rw [pI_n1 (by decide)]; exact hn) hi h, nI_clamp (by omega)]
    rfl
def mgF (ms : MS) (k : Nat) (j : Nat) : Int32 := ms.2.1 37 (8 * k + j)
theorem p_repeat_eq (ms : MS) (k : Int32) {n : Nat} (hn : ms.1 36 = nI n) (h : n ≤ 200) : p_X10_repeat ms k = some ((), if msgB n k = true then postM (okM ms) n (fun j => ms.2.1 37 (8 * k.toNatClampNeg + (if j < 8 then j else 7))) else noM ms) := by
  unfold p_X10_repeat
  rw [p_isMessage_eq ms k hn h]
  simp only [k_bd_s]
  cases hb : msgB n k
  · rw [if_pos (show b2i false = 0 from rfl)]; rfl
  · obtain ⟨i, hi, rfl⟩ := msgB_some h hb
    rw [if_neg (by decide), nI_clamp (by omega), b2i_not_t, nI_m8, nI_c1, nI_c2, nI_c3, nI_c4, nI_c5, nI_c6, nI_c7]
    have hl : ∀ j, j < 8 → 8 * i + j < k_len 37 := fun j hj => by show _ < 1608; omega
    rw [k_aI_nI (hl 6 (by omega)), h_b1_s, k_aI_nI (hl 7 (by omega)), h_b1_s, k_aI_nI (show 8 * i < k_len 37 from hl 0 (by omega)), h_b1_s, k_aI_nI (hl 1 (by omega)), h_b1_s, k_aI_nI (hl 2 (by omega)), h_b1_s, k_aI_nI (hl 3 (by omega)), h_b1_s, k_aI_nI (hl 4 (by omega)), h_b1_s]
    have hn' : (k_pI ms 0 0).1 36 = nI n := by rw [pI_n1 (by decide)]; exact hn
    rw [p_post_eq _ _ _ _ _ _ _ _ hn' h]
    simp only [k_bd_s]
    rw [k_aI_nI (hl 5 (by omega)), h_b1_s, hn', p_last_eq _ h hn']
    simp only [k_bd_s, if_true]
    have e5 : (postM (k_pI ms 0 0) n (mG ((k_pI ms 0 0).2.1 37 (8 * i)) ((k_pI ms 0 0).2.1 37 (8 * i + 1)) ((k_pI ms 0 0).2.1 37 (8 * i + 2)) ((k_pI ms 0 0).2.1 37 (8 * i + 3)) ((k_pI ms 0 0).2.1 37 (8 * i + 4)) 0 ((k_pI ms 0 0).2.1 37 (8 * i + 6)) ((k_pI ms 0 0).2.1 37 (8 * i + 7)))).2.1 37 (8 * i + 5) = ms.2.1 37 (8 * i + 5) := by
      unfold postM
      split
      · rfl
      · show (rW _ _ _).2.1 37 (8 * i + 5) = _
        rw [rW_i, if_pos rfl, if_neg (by omega)]; rfl
    rw [e5]
    congr 2
    unfold postM okM
    congr 2
    unfold rW
    congr 2
    unfold h_upA
    funext k' j
    congr 1
    dsimp only
    by_cases hj : j / 8 = n
    · rw [if_pos hj, if_pos hj, if_pos (by omega)]
      rcases (show j % 8 = 0 ∨ j % 8 = 1 ∨ j % 8 = 2 ∨ j % 8 = 3 ∨ j % 8 = 4 ∨ j % 8 = 5 ∨ j % 8 = 6 ∨ j % 8 = 7 by omega) with e | e | e | e | e | e | e | e <;> rw [e] <;> rfl
    · rw [if_neg hj, if_neg hj]
theorem p_forge_eq (ms : MS) (k i v : Int32) {n : Nat} (hn : ms.1 36 = nI n) (h : n ≤ 200) : p_X10_forge ms k i v = some ((), if (msgB n k && decide (0 ≤ i ∧ i ≤ 5)) = true then aS (okM ms) 37 (8 * k.toNatClampNeg + i.toNatClampNeg) v else noM ms) := by
  unfold p_X10_forge
  rw [p_isMessage_eq ms k hn h]
  simp only [k_bd_s]
  cases hb : msgB n k
  · rw [if_pos (show b2i false = 0 from rfl)]; rfl
  · obtain ⟨q, hq, rfl⟩ := msgB_some h hb
    rw [if_neg (by decide), p_in_eq]
    simp only [k_bd_s]
    cases h2 : decide ((0 : Int32) ≤ i ∧ i ≤ 5)
    · rw [if_pos (show b2i false = 0 from rfl)]
      unfold pj_X10_forge_24
      simp only [k_lt, pI_s1]
      rw [if_neg (by decide), if_neg (by decide), pI_pI]
      rfl
    · have h3 := of_decide_eq_true h2
      obtain ⟨j, hj, rfl⟩ := nI_of (Int32.not_lt.mpr h3.1)
      have hj5 : j ≤ 5 := (nI_leI hj (by omega)).mp h3.2
      rw [if_neg (by decide)]
      unfold pj_X10_forge_24
      simp only [k_lt, pI_s1, if_true, Bool.and_self]
      rw [nI_m8, nI_add, k_sI_n (show 8 * q + j < k_len 37 by show _ < 1608; omega), h_b1_s, nI_clamp (by omega), nI_clamp (by omega), pI_pI]
      rfl
theorem p_message_eq (ms : MS) (k i : Int32) {n : Nat} (hn : ms.1 36 = nI n) (h : n ≤ 200) : p_X10_message ms k i = some (if (msgB n k && decide (0 ≤ i ∧ i ≤ 7)) = true then (ms.2.1 37 (8 * k.toNatClampNeg + i.toNatClampNeg), okM ms) else (0, noM ms)) := by
  unfold p_X10_message
  rw [p_isMessage_eq ms k hn h]
  simp only [k_bd_s]
  cases hb : msgB n k
  · rw [if_pos (show b2i false = 0 from rfl)]; rfl
  · obtain ⟨q, hq, rfl⟩ := msgB_some h hb
    rw [if_neg (by decide), p_in_eq]
    simp only [k_bd_s]
    have e0 : k_pI (k_pI ms 0 (b2i (!true))) 0 1 = noM ms := pI_pI
    have e1 : k_pI (k_pI ms 0 (b2i (!true))) 0 0 = okM ms := pI_pI
    cases h2 : decide ((0 : Int32) ≤ i ∧ i ≤ 7)
    · rw [if_pos (show b2i false = 0 from rfl)]
      unfold pj_X10_message_26
      simp only [k_lt, pI_s1]
      rw [if_neg (by decide), if_neg (by decide), e0]
    · have h3 := of_decide_eq_true h2
      obtain ⟨j, hj, rfl⟩ := nI_of (Int32.not_lt.mpr h3.1)
      have hj5 : j ≤ 7 := (nI_leI hj (by omega)).mp h3.2
      rw [if_neg (by decide)]
      unfold pj_X10_message_26
      simp only [k_lt, pI_s1, if_true, Bool.and_self]
      rw [if_pos (by decide), nI_m8, nI_add, k_aI_nI (show 8 * q + j < k_len 37 by show _ < 1608; omega), h_b1_s, nI_clamp (by omega), nI_clamp (by omega), e1]
      rfl
