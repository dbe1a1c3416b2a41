/-! WHAT THE REFERENCE'S ACTS LEAVE AS IT WAS -/
theorem dlvM_k {ms : MS} {i : Nat} {s : Int32} {k j : Nat} (h1 : k ≠ 31) (h2 : k ≠ 33) (h3 : k ≠ 35) : (dlvM ms i s).2.1 k j = ms.2.1 k j := by
  unfold dlvM
  rw [aS_k h1, aS_k h3]
  split
  · rw [aS_k h2]
  · rfl
theorem dlvM_1 {ms : MS} {i : Nat} {s : Int32} : (dlvM ms i s).1 = ms.1 := by
  unfold dlvM
  rw [aS_1, aS_1]
  split <;> rfl
theorem askM_k {ms : MS} {n i : Nat} {sv : Int32} {k j : Nat} (h1 : k ≠ 31) (h2 : k ≠ 32) (h3 : k ≠ 37) : (askM ms n i sv).2.1 k j = ms.2.1 k j := by
  unfold askM
  rw [postM_k h3, aS_k h2, aS_k h1]; rfl
theorem askM_s {ms : MS} {n i : Nat} {sv : Int32} {k : Nat} (h1 : k ≠ 2) (h2 : k ≠ 36) (h3 : k ≠ 42) : (askM ms n i sv).1 k = ms.1 k := by
  unfold askM
  rw [postM_s h2 h3, aS_1, aS_1, pI_n1 h1]
theorem askM_36 {ms : MS} {n i : Nat} {sv : Int32} (hn : ms.1 36 = nI n) : (askM ms n i sv).1 36 = nI (postN n) := by
  unfold askM
  exact postM_36 (by rw [aS_1, aS_1, pI_n1 (by decide)]; exact hn)
theorem folM_k {ms : MS} {n i : Nat} {pl : Int32} {k j : Nat} (h1 : k ≠ 31) (h3 : k ≠ 37) : (folM ms n i pl).2.1 k j = ms.2.1 k j := by
  unfold folM
  split
  · rw [aS_k h1]
  · rw [postM_k h3, aS_k h1]
theorem folM_s {ms : MS} {n i : Nat} {pl : Int32} {k : Nat} (h2 : k ≠ 36) (h3 : k ≠ 42) : (folM ms n i pl).1 k = ms.1 k := by
  unfold folM
  split
  · rfl
  · rw [postM_s h2 h3]; rfl
theorem folM_36 {ms : MS} {n i : Nat} {pl : Int32} (hn : ms.1 36 = nI n) (h : n ≤ 200) : ∃ n', n' ≤ 200 ∧ (folM ms n i pl).1 36 = nI n' := by
  unfold folM
  split
  · exact ⟨n, h, hn⟩
  · exact ⟨postN n, postN_le h, postM_36 hn⟩
theorem fgtM_k {ms : MS} {s : Nat} {ep pl : Int32} {k j : Nat} (h1 : k ≠ 23) : (fgtM ms s ep pl).2.1 k j = ms.2.1 k j := by
  unfold fgtM
  split
  · rfl
  · split
    · rw [aS_k h1]
    · rfl
theorem fgtM_1 {ms : MS} {s : Nat} {ep pl : Int32} : (fgtM ms s ep pl).1 = ms.1 := by
  unfold fgtM
  split
  · rfl
  · split <;> rfl
theorem solM_k {ms : MS} {n k j : Nat} (h : k ≠ 37) : (solM ms n).2.1 k j = ms.2.1 k j := by
  unfold solM
  rw [postM_k h]; rfl
theorem solM_s {ms : MS} {n k : Nat} (h1 : k ≠ 36) (h2 : k ≠ 41) (h3 : k ≠ 42) : (solM ms n).1 k = ms.1 k := by
  unfold solM
  rw [postM_s h1 h3, pI_n1 h2]
theorem solM_36 {ms : MS} {n : Nat} (hn : ms.1 36 = nI n) : (solM ms n).1 36 = nI (postN n) := by
  unfold solM
  exact postM_36 (by rw [pI_n1 (by decide)]; exact hn)
theorem cameM_k {ms : MS} {n pl k j : Nat} (h1 : k ≠ 31) (h2 : k ≠ 33) (h3 : k ≠ 35) (h4 : k ≠ 37) : (cameM ms n pl).2.1 k j = ms.2.1 k j := by
  unfold cameM
  split
  · split
    · split
      · rw [dlvM_k h1 h2 h3]
      · rw [solM_k h4, losM_k h1]
    · split
      · rw [solM_k h4]; unfold onM; rw [postM_k h4]
      · rw [losM_k h1]
  · rfl
theorem cameM_s {ms : MS} {n pl k : Nat} (h1 : k ≠ 36) (h2 : k ≠ 41) (h3 : k ≠ 42) : (cameM ms n pl).1 k = ms.1 k := by
  unfold cameM
  split
  · split
    · split
      · rw [dlvM_1]
      · rw [solM_s h1 h2 h3, losM_1]
    · split
      · rw [solM_s h1 h2 h3]; unfold onM; rw [postM_s h1 h3]
      · rw [losM_1]
  · rfl
theorem cameM_36 {ms : MS} {n pl : Nat} (hn : ms.1 36 = nI n) (h : n ≤ 200) : ∃ n', n' ≤ 200 ∧ (cameM ms n pl).1 36 = nI n' := by
  unfold cameM
  split
  · split
    · split
      · exact ⟨n, h, by rw [dlvM_1]; exact hn⟩
      · exact ⟨postN n, postN_le h, solM_36 (by rw [losM_1]; exact hn)⟩
    · split
      · exact ⟨postN (postN n), postN_le (postN_le h), solM_36 (by unfold onM; exact postM_36 hn)⟩
      · exact ⟨n, h, by rw [losM_1]; exact hn⟩
  · exact ⟨n, h, hn⟩
theorem setE_k {ms : MS} {sv e k j : Nat} (h : k < 7 ∨ 12 < k) : (setE ms sv e).2.1 k j = ms.2.1 k j := by
  unfold setE
  rw [aS_k (by omega), aS_k (by omega), aS_k (by omega), aS_k (by omega), aS_k (by omega), aS_k (by omega)]; rfl
theorem setE_1 {ms : MS} {sv e : Nat} : (setE ms sv e).1 = ms.1 := rfl
theorem regM_k {ms : MS} {sv k j : Nat} (h : k < 7 ∨ 12 < k) : (regM ms sv).2.1 k j = ms.2.1 k j := by
  unfold regM slotR
  split
  · split
    · rw [setE_k h]
    · rfl
  · rfl
theorem regM_s {ms : MS} {sv k : Nat} (h : k ≠ 39) : (regM ms sv).1 k = ms.1 k := by
  unfold regM slotR refM
  split
  · split
    · rfl
    · rw [pI_n1 h]
  · rw [pI_n1 h]
theorem repM_k {ms : MS} {n sv L k j : Nat} (h : k ≠ 37) : (repM ms n sv L).2.1 k j = ms.2.1 k j := by
  unfold repM
  split <;> rw [postM_k h]
theorem repM_s {ms : MS} {n sv L k : Nat} (h : k ≠ 36) (h2 : k ≠ 42) : (repM ms n sv L).1 k = ms.1 k := by
  unfold repM
  split <;> rw [postM_s h h2]
theorem repM_36 {ms : MS} {n sv L : Nat} (hn : ms.1 36 = nI n) : (repM ms n sv L).1 36 = nI (postN n) := by
  unfold repM
  split <;> exact postM_36 hn
theorem reqM_k {ms : MS} {n sv k j : Nat} (h : k ≠ 37) : (reqM ms n sv).2.1 k j = ms.2.1 k j := by
  unfold reqM
  split
  · split
    · rw [postM_k h]
    · split
      · rw [repM_k h]
      · rfl
  · rfl
theorem reqM_s {ms : MS} {n sv k : Nat} (h : k ≠ 36) (h2 : k ≠ 42) : (reqM ms n sv).1 k = ms.1 k := by
  unfold reqM
  split
  · split
    · rw [postM_s h h2]
    · split
      · rw [repM_s h h2]
      · rfl
  · rfl
theorem reqM_36 {ms : MS} {n sv : Nat} (hn : ms.1 36 = nI n) (h : n ≤ 200) : ∃ n', n' ≤ 200 ∧ (reqM ms n sv).1 36 = nI n' := by
  unfold reqM
  split
  · split
    · exact ⟨postN n, postN_le h, postM_36 hn⟩
    · split
      · exact ⟨postN n, postN_le h, repM_36 hn⟩
      · exact ⟨n, h, hn⟩
  · exact ⟨n, h, hn⟩
theorem rfrM_k {ms : MS} {n p k j : Nat} (h1 : k ≠ 31) (h2 : k ≠ 32) (h3 : k ≠ 34) (h4 : k ≠ 37) : (rfrM ms n p).2.1 k j = ms.2.1 k j := by
  unfold rfrM
  split
  · rw [aS_k h1, aS_k h3]
  · rw [askM_k h1 h2 h4, aS_k h3]
theorem rfrM_s {ms : MS} {n p k : Nat} (h1 : k ≠ 2) (h2 : k ≠ 36) (h3 : k ≠ 42) : (rfrM ms n p).1 k = ms.1 k := by
  unfold rfrM
  split
  · rfl
  · rw [askM_s h1 h2 h3]; rfl
theorem rfrM_36 {ms : MS} {n p : Nat} (hn : ms.1 36 = nI n) (h : n ≤ 200) : ∃ n', n' ≤ 200 ∧ (rfrM ms n p).1 36 = nI n' := by
  unfold rfrM
  split
  · exact ⟨n, h, hn⟩
  · exact ⟨postN n, postN_le h, askM_36 hn⟩
theorem hitM_k {ms : MS} {n s p k j : Nat} (h1 : k < 19 ∨ 24 < k) (h2 : k ≠ 31) (h3 : k ≠ 37) : (hitM ms n s p).2.1 k j = ms.2.1 k j := by
  unfold hitM
  split <;> rw [folM_k h2 h3, mnM_k h1]
theorem hitM_s {ms : MS} {n s p k : Nat} (h1 : k ≠ 25) (h2 : k ≠ 36) (h3 : k ≠ 42) : (hitM ms n s p).1 k = ms.1 k := by
  unfold hitM
  split <;> rw [folM_s h2 h3, mnM_s h1]
theorem hitM_36 {ms : MS} {n s p : Nat} (hn : ms.1 36 = nI n) (h : n ≤ 200) : ∃ n', n' ≤ 200 ∧ (hitM ms n s p).1 36 = nI n' := by
  unfold hitM
  split <;> exact folM_36 (by rw [mnM_s (by decide)]; exact hn) h
theorem rplM_k {ms : MS} {n s k j : Nat} {o : Option Nat} (h1 : k < 19 ∨ 24 < k) (h2 : k ≠ 31) (h3 : k ≠ 32) (h4 : k ≠ 34) (h5 : k ≠ 37) : (rplM ms n s o).2.1 k j = ms.2.1 k j := by
  unfold rplM
  split
  · rfl
  · split
    · split
      · rw [rfrM_k h2 h3 h4 h5]
      · rw [hitM_k h1 h2 h5]
    · rfl
theorem rplM_s {ms : MS} {n s k : Nat} {o : Option Nat} (h1 : k ≠ 2) (h2 : k ≠ 25) (h3 : k ≠ 36) (h4 : k ≠ 40) (h5 : k ≠ 42) : (rplM ms n s o).1 k = ms.1 k := by
  unfold rplM ignM
  split
  · rw [pI_n1 h4]
  · split
    · split
      · rw [rfrM_s h1 h3 h5]
      · rw [hitM_s h2 h3 h5]
    · rw [pI_n1 h4]
theorem rplM_36 {ms : MS} {n s : Nat} {o : Option Nat} (hn : ms.1 36 = nI n) (h : n ≤ 200) : ∃ n', n' ≤ 200 ∧ (rplM ms n s o).1 36 = nI n' := by
  unfold rplM ignM
  split
  · exact ⟨n, h, by rw [pI_n1 (by decide)]; exact hn⟩
  · split
    · split
      · exact rfrM_36 hn h
      · exact hitM_36 hn h
    · exact ⟨n, h, by rw [pI_n1 (by decide)]; exact hn⟩
/-- what a carried message can't touch -/
def offA (k : Nat) : Prop := k < 7 ∨ (12 < k ∧ k < 19) ∨ (24 < k ∧ k < 31) ∨ 37 < k
theorem arrM_k {ms : MS} {n np k j : Nat} (h : offA k) : (arrM ms n np).2.1 k j = ms.2.1 k j := by
  unfold offA at h
  unfold arrM
  split
  · split
    · rw [regM_k (by omega)]
    · rfl
  · split
    · split
      · rw [reqM_k (by omega)]
      · rfl
    · split
      · split
        · rw [rplM_k (by omega) (by omega) (by omega) (by omega) (by omega)]
        · rfl
      · split
        · rw [cameM_k (by omega) (by omega) (by omega) (by omega)]
        · split
          · rw [fgtM_k (by omega)]
          · rfl
theorem arrM_s {ms : MS} {n np k : Nat} (h1 : k ≠ 2) (h2 : k ≠ 25) (h3 : k ≠ 36) (h4 : k < 39) : (arrM ms n np).1 k = ms.1 k := by
  unfold arrM
  split
  · split
    · rw [regM_s (by omega)]
    · rfl
  · split
    · split
      · rw [reqM_s h3 (by omega)]
      · rfl
    · split
      · split
        · rw [rplM_s h1 h2 h3 (by omega) (by omega)]
        · rfl
      · split
        · rw [cameM_s h3 (by omega) (by omega)]
        · split
          · rw [fgtM_1]
          · rfl
theorem arrM_36 {ms : MS} {n np : Nat} (hn : ms.1 36 = nI n) (h : n ≤ 200) : ∃ n', n' ≤ 200 ∧ (arrM ms n np).1 36 = nI n' := by
  unfold arrM
  split
  · split
    · exact ⟨n, h, by rw [regM_s (by decide)]; exact hn⟩
    · exact ⟨n, h, hn⟩
  · split
    · split
      · exact reqM_36 hn h
      · exact ⟨n, h, hn⟩
    · split
      · split
        · exact rplM_36 hn h
        · exact ⟨n, h, hn⟩
      · split
        · exact cameM_36 hn h
        · split
          · exact ⟨n, h, by rw [fgtM_1]; exact hn⟩
          · exact ⟨n, h, hn⟩
theorem takeM_k {ms : MS} {n i k j : Nat} (h1 : k ≠ 37) (h2 : k ≠ 38) : (takeM ms n i).2.1 k j = ms.2.1 k j := by
  show (rW _ 37 _).2.1 k j = _
  rw [rW_i, if_neg h1, rW_i, if_neg h2]
theorem takeM_s {ms : MS} {n i k : Nat} (h : k ≠ 36) : (takeM ms n i).1 k = ms.1 k := by
  unfold takeM
  rw [pI_n1 h]; rfl
theorem takeM_36 {ms : MS} {n i : Nat} : (takeM ms n i).1 36 = nI (n - 1) := by
  unfold takeM
  rw [pI_s1]
theorem takeM_38 {ms : MS} {n i j : Nat} (hj : j < 8) : (takeM ms n i).2.1 38 j = ms.2.1 37 (8 * i + j) := by
  show (rW _ 37 _).2.1 38 j = _
  rw [rW_i, if_neg (by decide), rW_i, if_pos rfl, if_pos (by omega)]
theorem takeM_37 {ms : MS} {n i q j : Nat} (hj : j < 8) (hi : i < n) : (takeM ms n i).2.1 37 (8 * q + j) = ms.2.1 37 (8 * (if i ≤ q ∧ q < n - 1 then q + 1 else q) + j) := by
  show (rW _ 37 _).2.1 37 (8 * q + j) = _
  rw [rW_i, if_pos rfl]
  by_cases h : i ≤ q ∧ q < n - 1
  · rw [if_pos (show 8 * i ≤ 8 * q + j ∧ 8 * q + j < 8 * i + (8 * n - 8 - 8 * i) by omega), if_pos h]
    exact congrArg (ms.2.1 37) (show 8 * q + j + 8 = 8 * (q + 1) + j by omega)
  · rw [if_neg (show ¬(8 * i ≤ 8 * q + j ∧ 8 * q + j < 8 * i + (8 * n - 8 - 8 * i)) by omega), if_neg h]
theorem postM_37 {ms : MS} {n : Nat} {f : Nat → Int32} {q j : Nat} (hj : j < 8) : (postM ms n f).2.1 37 (8 * q + j) = if n ≠ 200 ∧ q = n then f j else ms.2.1 37 (8 * q + j) := by
  unfold postM
  by_cases h : n = 200
  · rw [if_pos h, if_neg (fun z => z.1 h)]; rfl
  · rw [if_neg h]
    show (rW _ 37 _).2.1 37 (8 * q + j) = _
    rw [rW_i, if_pos rfl]
    by_cases hq : q = n
    · rw [if_pos (by omega), if_pos ⟨h, hq⟩, show (8 * q + j) % 8 = j by omega]
    · rw [if_neg (by omega), if_neg (fun z => hq z.2)]
