/-! THE CLASS'S OBJECTS: reads, prefixes -/
section RD
variable {σ : HS} {a t k : Nat}
theorem gI_s (h : h_tg σ a = t) : h_gI σ (some a) t k = some (h_iv σ a k) := by
  show (if h_tg σ a = t then some (h_iv σ a k) else none) = _
  rw [if_pos h]
theorem gR_s (h : h_tg σ a = t) : h_gR σ (some a) t k = some (h_rv σ a k) := by
  show (if h_tg σ a = t then some (h_rv σ a k) else none) = _
  rw [if_pos h]
theorem rcv_s (h : h_tg σ a = t) : h_rcv σ (some a) t = some a := by
  show (if h_tg σ a = t then some a else none) = _
  rw [if_pos h]
theorem pI_s {v : Int32} (h : h_tg σ a = t) : h_pI σ (some a) t k v = some (h_setI σ a k v) := by
  show (if h_tg σ a = t then some (h_setI σ a k v) else none) = _
  rw [if_pos h]
theorem pR_s {v : Option Nat} (h : h_tg σ a = t) : h_pR σ (some a) t k v = some (h_setR σ a k v) := by
  show (if h_tg σ a = t then some (h_setR σ a k v) else none) = _
  rw [if_pos h]
theorem ok_s {i : Nat} (h : h_tg σ a = t) (hi : i < h_ln σ a) (hl : h_ln σ a < 2 ^ 31) : h_ok σ a t (nI i) = true := by
  have := nI_in hi hl
  unfold h_ok
  simp only [Bool.and_eq_true, Bool.not_eq_true', Bool.or_eq_false_iff, decide_eq_true_eq, decide_eq_false_iff_not]
  exact ⟨h, fun z => this (Or.inl z), fun z => this (Or.inr z)⟩
theorem aI_s {i n : Nat} (h : h_tg σ a = t) (hn : h_ln σ a = n) (hi : i < n) (hl : n < 2 ^ 31) : h_aI σ (some a) t (nI i) = some (h_iv σ a i) := by
  show (if h_ok σ a t (nI i) = true then some (h_iv σ a (nI i).toNatClampNeg) else none) = _
  rw [if_pos (ok_s h (by omega) (by omega)), nI_clamp (by omega)]
theorem aR_s {i n : Nat} (h : h_tg σ a = t) (hn : h_ln σ a = n) (hi : i < n) (hl : n < 2 ^ 31) : h_aR σ (some a) t (nI i) = some (h_rv σ a i) := by
  show (if h_ok σ a t (nI i) = true then some (h_rv σ a (nI i).toNatClampNeg) else none) = _
  rw [if_pos (ok_s h (by omega) (by omega)), nI_clamp (by omega)]
theorem aL_s {i n : Nat} (h : h_tg σ a = t) (hn : h_ln σ a = n) (hi : i < n) (hl : n < 2 ^ 31) : h_aL σ (some a) t (nI i) = some (h_lv σ a i) := by
  show (if h_ok σ a t (nI i) = true then some (h_lv σ a (nI i).toNatClampNeg) else none) = _
  rw [if_pos (ok_s h (by omega) (by omega)), nI_clamp (by omega)]
theorem sI_s {i n : Nat} {v : Int32} (h : h_tg σ a = t) (hn : h_ln σ a = n) (hi : i < n) (hl : n < 2 ^ 31) : h_sI σ (some a) t (nI i) v = some (h_setI σ a i v) := by
  show (if h_ok σ a t (nI i) = true then some (h_setI σ a (nI i).toNatClampNeg v) else none) = _
  rw [if_pos (ok_s h (by omega) (by omega)), nI_clamp (by omega)]
theorem sL_s {i n : Nat} {v : Int64} (h : h_tg σ a = t) (hn : h_ln σ a = n) (hi : i < n) (hl : n < 2 ^ 31) : h_sL σ (some a) t (nI i) v = some (h_setL σ a i v) := by
  show (if h_ok σ a t (nI i) = true then some (h_setL σ a (nI i).toNatClampNeg v) else none) = _
  rw [if_pos (ok_s h (by omega) (by omega)), nI_clamp (by omega)]
theorem sR_s {i n u : Nat} {v : Option Nat} (h : h_tg σ a = t) (hn : h_ln σ a = n) (hi : i < n) (hl : n < 2 ^ 31) (hv : h_fitR σ u v = true) : h_sR σ (some a) t u (nI i) v = some (h_setR σ a i v) := by
  show (if (h_ok σ a t (nI i) && h_fitR σ u v) = true then some (h_setR σ a (nI i).toNatClampNeg v) else none) = _
  rw [if_pos (by rw [ok_s h (by omega) (by omega), hv]; rfl), nI_clamp (by omega)]
end RD
theorem h_bd_s {α β : Type} {r : α} {q : HS} {F : α → HS → Option β} : h_bd (some (r, q)) F = F r q := rfl
/-- p is an object that bears the prefix (b, n) -/
def hP (σ : HS) (p : Nat) (b : Int32) (n : Nat) : Prop := h_tg σ p = 5 ∧ h_iv σ p 0 = b ∧ h_iv σ p 1 = nI n ∧ n ≤ 32 ∧ vb n b = true
theorem mask_eq (σ : HS) {n : Nat} (hn : n ≤ 32) : f_X4_mask σ (nI n) = some (mk n, σ) := by
  unfold f_X4_mask mk
  by_cases h0 : n = 0
  · subst h0
    rw [if_neg (by decide), if_pos rfl]
  · rw [if_pos (show (0 : Int32) < nI n from nI_lt (a := 0) (by omega) (by omega)), if_neg h0, nI32 n hn]
theorem has_eq {σ : HS} {p : Nat} {b : Int32} {n : Nat} (h : hP σ p b n) (e : Int32) : f_X4_has σ (some p) e = some (b2i (ag n e b), σ) := by
  obtain ⟨h1, h2, h3, h4, h5⟩ := h
  unfold f_X4_has
  rw [gI_s h1, h3, h_b1_s, mask_eq σ h4, h_bd_s, gI_s h1, h2, h_b1_s]
  by_cases hh : ag n e b = true
  · rw [if_pos ((has_iff h4 h5).mpr hh), hh]; rfl
  · rw [if_neg (fun z => hh ((has_iff h4 h5).mp z))]
    simp only [Bool.not_eq_true] at hh
    rw [hh]; rfl
theorem same_eq {σ : HS} {p p' : Nat} {b b' : Int32} {n n' : Nat} (h : hP σ p b n) (h' : hP σ p' b' n') : f_X4_same σ (some p) (some p') = some (b2i (decide (b = b') && decide (n = n')), σ) := by
  obtain ⟨h1, h2, h3, h4, h5⟩ := h
  obtain ⟨g1, g2, g3, g4, g5⟩ := h'
  unfold f_X4_same
  rw [gI_s h1, gI_s g1, gI_s h1, gI_s g1, h2, g2, h3, g3]
  simp only [h_b1_s]
  by_cases e1 : b = b'
  · rw [if_pos e1, decide_eq_true e1]
    by_cases e2 : n = n'
    · rw [if_pos (by rw [e2]), decide_eq_true e2]; rfl
    · rw [if_neg (fun z => e2 ((nI_eq (by omega) (by omega)).mp z)), decide_eq_false e2]; rfl
  · rw [if_neg e1, decide_eq_false e1]; rfl
theorem liesIn_eq {σ : HS} {p p' : Nat} {b b' : Int32} {n n' : Nat} (h : hP σ p b n) (h' : hP σ p' b' n') : f_X4_liesIn σ (some p) (some p') = some (b2i (decide (n' ≤ n) && ag n' b b'), σ) := by
  obtain ⟨h1, h2, h3, h4, h5⟩ := h
  obtain ⟨g1, g2, g3, g4, g5⟩ := h'
  unfold f_X4_liesIn
  rw [gI_s h1, gI_s g1, gI_s h1, h2, h3, g3]
  simp only [h_b1_s]
  by_cases e1 : n < n'
  · rw [if_pos (nI_lt e1 (by omega)), decide_eq_false (show ¬ n' ≤ n by omega)]; rfl
  · rw [if_neg (nI_nlt (by omega) (by omega)), decide_eq_true (show n' ≤ n by omega), mask_eq σ g4, h_bd_s, gI_s g1, g2, h_b1_s, Bool.true_and]
    by_cases hh : ag n' b b' = true
    · rw [if_pos ((has_iff g4 g5).mpr hh), hh]; rfl
    · rw [if_neg (fun z => hh ((has_iff g4 g5).mp z))]
      simp only [Bool.not_eq_true] at hh
      rw [hh]; rfl
theorem liesRound_eq {σ : HS} {p : Nat} {b : Int32} {n k : Nat} (h : hP σ p b n) (e : Int32) (hk : k ≤ 32) : f_X4_liesRound σ (some p) e (nI k) = some (b2i (decide (k ≤ n) && ag k b e), σ) := by
  obtain ⟨h1, h2, h3, h4, h5⟩ := h
  unfold f_X4_liesRound
  rw [gI_s h1, gI_s h1, h2, h3]
  simp only [h_b1_s]
  by_cases e1 : n < k
  · rw [if_pos (nI_lt e1 (by omega)), decide_eq_false (show ¬ k ≤ n by omega)]; rfl
  · rw [if_neg (nI_nlt (by omega) (by omega)), decide_eq_true (show k ≤ n by omega), mask_eq σ hk, h_bd_s, Bool.true_and]
    unfold ag
    by_cases hh : (b ^^^ e) &&& mk k = 0
    · rw [if_pos hh, decide_eq_true hh]; rfl
    · rw [if_neg hh, decide_eq_false hh]; rfl
def mtB (b : Int32) (n : Nat) (b' : Int32) (n' : Nat) : Bool := (decide (n' ≤ n) && ag n' b b') || (decide (n ≤ n') && ag n b' b)
theorem meets_eq {σ : HS} {p p' : Nat} {b b' : Int32} {n n' : Nat} (h : hP σ p b n) (h' : hP σ p' b' n') : f_X4_meets σ (some p) (some p') = some (b2i (mtB b n b' n'), σ) := by
  unfold f_X4_meets mtB
  rw [rcv_s h.1, h_b1_s, liesIn_eq h h', h_bd_s]
  cases (decide (n' ≤ n) && ag n' b b')
  · rw [if_pos (by decide), rcv_s h'.1, h_b1_s, liesIn_eq h' h, h_bd_s]
    cases (decide (n ≤ n') && ag n b' b) <;> rfl
  · rfl
