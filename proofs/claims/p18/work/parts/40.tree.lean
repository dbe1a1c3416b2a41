/-! from 40.prefix -/
section
/-! THE CLASS'S OBJECTS: reads, prefixes -/
section RD
variable {σ : HS} {a t k : Nat}
theorem gI_s (h : h_tg σ a = t) : h_gI σ (some a) t k = some (h_iv σ a k) := by
  show (if h_tg σ a = t then some (h_iv σ a k) else none) = _
  rw [if_pos h]
theorem gR_s (h : h_tg σ a = t) : h_gR σ (some a) t k = some (h_rv σ a k) := by
  show (if h_tg σ a = t then some (h_rv σ a k) else none) = _
  rw [if_pos h]
theorem rcv_s (h : h_tg σ a = t) : h_rcv σ (some a) t = some a := by
  show (if h_tg σ a = t then some a else none) = _
  rw [if_pos h]
theorem pI_s {v : Int32} (h : h_tg σ a = t) : h_pI σ (some a) t k v = some (h_setI σ a k v) := by
  show (if h_tg σ a = t then some (h_setI σ a k v) else none) = _
  rw [if_pos h]
theorem pR_s {v : Option Nat} (h : h_tg σ a = t) : h_pR σ (some a) t k v = some (h_setR σ a k v) := by
  show (if h_tg σ a = t then some (h_setR σ a k v) else none) = _
  rw [if_pos h]
theorem ok_s {i : Nat} (h : h_tg σ a = t) (hi : i < h_ln σ a) (hl : h_ln σ a < 2 ^ 31) : h_ok σ a t (nI i) = true := by
  have := nI_in hi hl
  unfold h_ok
  simp only [Bool.and_eq_true, Bool.not_eq_true', Bool.or_eq_false_iff, decide_eq_true_eq, decide_eq_false_iff_not]
  exact ⟨h, fun z => this (Or.inl z), fun z => this (Or.inr z)⟩
theorem aI_s {i n : Nat} (h : h_tg σ a = t) (hn : h_ln σ a = n) (hi : i < n) (hl : n < 2 ^ 31) : h_aI σ (some a) t (nI i) = some (h_iv σ a i) := by
  show (if h_ok σ a t (nI i) = true then some (h_iv σ a (nI i).toNatClampNeg) else none) = _
  rw [if_pos (ok_s h (by omega) (by omega)), nI_clamp (by omega)]
theorem aR_s {i n : Nat} (h : h_tg σ a = t) (hn : h_ln σ a = n) (hi : i < n) (hl : n < 2 ^ 31) : h_aR σ (some a) t (nI i) = some (h_rv σ a i) := by
  show (if h_ok σ a t (nI i) = true then some (h_rv σ a (nI i).toNatClampNeg) else none) = _
  rw [if_pos (ok_s h (by omega) (by omega)), nI_clamp (by omega)]
theorem aL_s {i n : Nat} (h : h_tg σ a = t) (hn : h_ln σ a = n) (hi : i < n) (hl : n < 2 ^ 31) : h_aL σ (some a) t (nI i) = some (h_lv σ a i) := by
  show (if h_ok σ a t (nI i) = true then some (h_lv σ a (nI i).toNatClampNeg) else none) = _
  rw [if_pos (ok_s h (by omega) (by omega)), nI_clamp (by omega)]
theorem sI_s {i n : Nat} {v : Int32} (h : h_tg σ a = t) (hn : h_ln σ a = n) (hi : i < n) (hl : n < 2 ^ 31) : h_sI σ (some a) t (nI i) v = some (h_setI σ a i v) := by
  show (if h_ok σ a t (nI i) = true then some (h_setI σ a (nI i).toNatClampNeg v) else none) = _
  rw [if_pos (ok_s h (by omega) (by omega)), nI_clamp (by omega)]
theorem sL_s {i n : Nat} {v : Int64} (h : h_tg σ a = t) (hn : h_ln σ a = n) (hi : i < n) (hl : n < 2 ^ 31) : h_sL σ (some a) t (nI i) v = some (h_setL σ a i v) := by
  show (if h_ok σ a t (nI i) = true then some (h_setL σ a (nI i).toNatClampNeg v) else none) = _
  rw [if_pos (ok_s h (by omega) (by omega)), nI_clamp (by omega)]
theorem sR_s {i n u : Nat} {v : Option Nat} (h : h_tg σ a = t) (hn : h_ln σ a = n) (hi : i < n) (hl : n < 2 ^ 31) (hv : h_fitR σ u v = true) : h_sR σ (some a) t u (nI i) v = some (h_setR σ a i v) := by
  show (if (h_ok σ a t (nI i) && h_fitR σ u v) = true then some (h_setR σ a (nI i).toNatClampNeg v) else none) = _
  rw [if_pos (by rw [ok_s h (by omega) (by omega), hv]; rfl), nI_clamp (by omega)]
end RD
theorem h_bd_s {α β : Type} {r : α} {q : HS} {F : α → HS → Option β} : h_bd (some (r, q)) F = F r q := rfl
/-- p is an object that bears the prefix (b, n) -/
def hP (σ : HS) (p : Nat) (b : Int32) (n : Nat) : Prop := h_tg σ p = 5 ∧ h_iv σ p 0 = b ∧ h_iv σ p 1 = nI n ∧ n ≤ 32 ∧ vb n b = true
theorem mask_eq (σ : HS) {n : Nat} (hn : n ≤ 32) : f_X4_mask σ (nI n) = some (mk n, σ) := by
  unfold f_X4_mask mk
  by_cases h0 : n = 0
  · subst h0
    rw [if_neg (by decide), if_pos rfl]
  · rw [if_pos (show (0 : Int32) < nI n from nI_lt (a := 0) (by omega) (by omega)), if_neg h0, nI32 n hn]
theorem has_eq {σ : HS} {p : Nat} {b : Int32} {n : Nat} (h : hP σ p b n) (e : Int32) : f_X4_has σ (some p) e = some (b2i (ag n e b), σ) := by
  obtain ⟨h1, h2, h3, h4, h5⟩ := h
  unfold f_X4_has
  rw [gI_s h1, h3, h_b1_s, mask_eq σ h4, h_bd_s, gI_s h1, h2, h_b1_s]
  by_cases hh : ag n e b = true
  · rw [if_pos ((has_iff h4 h5).mpr hh), hh]; rfl
  · rw [if_neg (fun z => hh ((has_iff h4 h5).mp z))]
    simp only [Bool.not_eq_true] at hh
    rw [hh]; rfl
theorem same_eq {σ : HS} {p p' : Nat} {b b' : Int32} {n n' : Nat} (h : hP σ p b n) (h' : hP σ p' b' n') : f_X4_same σ (some p) (some p') = some (b2i (decide (b = b') && decide (n = n')), σ) := by
  obtain ⟨h1, h2, h3, h4, h5⟩ := h
  obtain ⟨g1, g2, g3, g4, g5⟩ := h'
  unfold f_X4_same
  rw [gI_s h1, gI_s g1, gI_s h1, gI_s g1, h2, g2, h3, g3]
  simp only [h_b1_s]
  by_cases e1 : b = b'
  · rw [if_pos e1, decide_eq_true e1]
    by_cases e2 : n = n'
    · rw [if_pos (by rw [e2]), decide_eq_true e2]; rfl
    · rw [if_neg (fun z => e2 ((nI_eq (by omega) (by omega)).mp z)), decide_eq_false e2]; rfl
  · rw [if_neg e1, decide_eq_false e1]; rfl
theorem liesIn_eq {σ : HS} {p p' : Nat} {b b' : Int32} {n n' : Nat} (h : hP σ p b n) (h' : hP σ p' b' n') : f_X4_liesIn σ (some p) (some p') = some (b2i (decide (n' ≤ n) && ag n' b b'), σ) := by
  obtain ⟨h1, h2, h3, h4, h5⟩ := h
  obtain ⟨g1, g2, g3, g4, g5⟩ := h'
  unfold f_X4_liesIn
  rw [gI_s h1, gI_s g1, gI_s h1, h2, h3, g3]
  simp only [h_b1_s]
  by_cases e1 : n < n'
  · rw [if_pos (nI_lt e1 (by omega)), decide_eq_false (show ¬ n' ≤ n by omega)]; rfl
  · rw [if_neg (nI_nlt (by omega) (by omega)), decide_eq_true (show n' ≤ n by omega), mask_eq σ g4, h_bd_s, gI_s g1, g2, h_b1_s, Bool.true_and]
    by_cases hh : ag n' b b' = true
    · rw [if_pos ((has_iff g4 g5).mpr hh), hh]; rfl
    · rw [if_neg (fun z => hh ((has_iff g4 g5).mp z))]
      simp only [Bool.not_eq_true] at hh
      rw [hh]; rfl
theorem liesRound_eq {σ : HS} {p : Nat} {b : Int32} {n k : Nat} (h : hP σ p b n) (e : Int32) (hk : k ≤ 32) : f_X4_liesRound σ (some p) e (nI k) = some (b2i (decide (k ≤ n) && ag k b e), σ) := by
  obtain ⟨h1, h2, h3, h4, h5⟩ := h
  unfold f_X4_liesRound
  rw [gI_s h1, gI_s h1, h2, h3]
  simp only [h_b1_s]
  by_cases e1 : n < k
  · rw [if_pos (nI_lt e1 (by omega)), decide_eq_false (show ¬ k ≤ n by omega)]; rfl
  · rw [if_neg (nI_nlt (by omega) (by omega)), decide_eq_true (show k ≤ n by omega), mask_eq σ hk, h_bd_s, Bool.true_and]
    unfold ag
    by_cases hh : (b ^^^ e) &&& mk k = 0
    · rw [if_pos hh, decide_eq_true hh]; rfl
    · rw [if_neg hh, decide_eq_false hh]; rfl
def mtB (b : Int32) (n : Nat) (b' : Int32) (n' : Nat) : Bool := (decide (n' ≤ n) && ag n' b b') || (decide (n ≤ n') && ag n b' b)
theorem meets_eq {σ : HS} {p p' : Nat} {b b' : Int32} {n n' : Nat} (h : hP σ p b n) (h' : hP σ p' b' n') : f_X4_meets σ (some p) (some p') = some (b2i (mtB b n b' n'), σ) := by
  unfold f_X4_meets mtB
  rw [rcv_s h.1, h_b1_s, liesIn_eq h h', h_bd_s]
  cases (decide (n' ≤ n) && ag n' b b')
  · rw [if_pos (by decide), rcv_s h'.1, h_b1_s, liesIn_eq h' h, h_bd_s]
    cases (decide (n ≤ n') && ag n b' b) <;> rfl
  · rfl
end
/-! from 41.modelinit -/
section
/-! THE REFERENCE'S CONSTRUCTOR -/
def kA (m k : Nat) : Nat := m + 1 + (if k ≤ 24 then k - 3 else if k ≤ 27 then k - 4 else if k ≤ 35 then k - 5 else k - 6)
/-- j of its arrays are there, w places in them -/
def NI (σ0 σ : HS) (m j w : Nat) : Prop := h_tg σ m = 11 ∧ h_sz σ = m + 1 + j ∧ h_sl σ = h_sl σ0 + w ∧ h_cz σ = h_cz σ0 ∧ h_ck σ = h_ck σ0 ∧ (∀ k, k < 43 → k_tag k ≠ 0 → kA m k < m + 1 + j → h_rv σ m k = some (kA m k) ∧ h_tg σ (kA m k) = k_tag k ∧ h_ln σ (kA m k) = k_len k) ∧
  (∀ a, m ≤ a → ∀ i, h_iv σ a i = (if a = m ∧ i = 2 then 1 else 0) ∧ h_lv σ a i = 0) ∧ (∀ a, m + 1 + j ≤ a → h_tg σ a = h_tg σ0 a) ∧ ∀ a, a < m → h_tg σ a = h_tg σ0 a ∧ h_ln σ a = h_ln σ0 a ∧ ∀ i, h_iv σ a i = h_iv σ0 a i ∧ h_rv σ a i = h_rv σ0 a i ∧ h_lv σ a i = h_lv σ0 a i
theorem kA_inj {m k k' : Nat} (hk : k < 43) (hk' : k' < 43) (h1 : k_tag k ≠ 0) (h2 : k_tag k' ≠ 0) (h : kA m k = kA m k') : k = k' := by
  have : ∀ k, k < 43 → ∀ k', k' < 43 → k_tag k ≠ 0 → k_tag k' ≠ 0 → (if k ≤ 24 then k - 3 else if k ≤ 27 then k - 4 else if k ≤ 35 then k - 5 else k - 6) = (if k' ≤ 24 then k' - 3 else if k' ≤ 27 then k' - 4 else if k' ≤ 35 then k' - 5 else k' - 6) → k = k' := by decide +kernel
  refine this k hk k' hk' h1 h2 ?_
  unfold kA at h
  omega
theorem k_tag_lt {k : Nat} (h : k_tag k ≠ 0) : k < 43 := by
  by_cases hk : k < 43
  · exact hk
  · exfalso
    apply h
    unfold k_tag
    rw [List.getD_eq_getElem?_getD, List.getElem?_eq_none (by simp only [List.length_cons, List.length_nil]; omega)]
    rfl
theorem NI_step {σ0 σ : HS} {m j w k n t : Nat} {len : Int32} (I : NI σ0 σ m j w) (hk : k < 43) (hkA : kA m k = m + 1 + j) (ht : k_tag k = t) (ht0 : t ≠ 0) (hn : k_len k = n) (hl : len = nI n) (hn2 : n ≤ 60000000) (hz : m + 1 + j + 1 ≤ h_cz σ0) (hs : h_sl σ0 + (w + n) ≤ h_ck σ0) :
    ∃ σ1 σ2, h_mkA σ t len = some (some (m + 1 + j), σ1) ∧ h_pR σ1 (some m) 11 k (some (m + 1 + j)) = some σ2 ∧ NI σ0 σ2 m (j + 1) (w + n) := by
  obtain ⟨i1, i2, i3, i4, i5, i6, i7, i9, i8⟩ := I
  subst hl
  have e1 : h_mkA σ t (nI n) = some (some (m + 1 + j), h_push σ t n n) := by
    unfold h_mkA
    rw [nI_clamp (by omega), if_pos ⟨nI_pos (by omega), hn2, by rw [i2, i4]; exact hz, by rw [i3, i5]; omega⟩, i2]
  have hm : h_tg (h_push σ t n n) m = 11 := by
    show va_up (h_tg σ) (h_sz σ) t m = 11
    rw [va_up_ne _ _ (by rw [i2]; omega)]; exact i1
  refine ⟨_, h_setR (h_push σ t n n) m k (some (m + 1 + j)), e1, pR_s hm, ?_⟩
  have tgE : ∀ a, h_tg (h_setR (h_push σ t n n) m k (some (m + 1 + j))) a = if a = m + 1 + j then t else h_tg σ a := by
    intro a
    show va_up (h_tg σ) (h_sz σ) t a = _
    rw [i2]; rfl
  have lnE : ∀ a, h_ln (h_setR (h_push σ t n n) m k (some (m + 1 + j))) a = if a = m + 1 + j then n else h_ln σ a := by
    intro a
    show va_up (h_ln σ) (h_sz σ) n a = _
    rw [i2]; rfl
  have ivE : ∀ a i, h_iv (h_setR (h_push σ t n n) m k (some (m + 1 + j))) a i = if a = m + 1 + j then 0 else h_iv σ a i := by
    intro a i
    show h_upA (h_iv σ) (h_sz σ) (fun _ => 0) a i = _
    rw [i2]; rfl
  have lvE : ∀ a i, h_lv (h_setR (h_push σ t n n) m k (some (m + 1 + j))) a i = if a = m + 1 + j then 0 else h_lv σ a i := by
    intro a i
    show h_upA (h_lv σ) (h_sz σ) (fun _ => 0) a i = _
    rw [i2]; rfl
  have rvE : ∀ a i, h_rv (h_setR (h_push σ t n n) m k (some (m + 1 + j))) a i = if a = m ∧ i = k then some (m + 1 + j) else if a = m + 1 + j then none else h_rv σ a i := by
    intro a i
    show h_up2 (h_upA (h_rv σ) (h_sz σ) (fun _ => none)) m k (some (m + 1 + j)) a i = _
    rw [i2]; rfl
  refine ⟨by rw [tgE, if_neg (by omega)]; exact i1, ?_, ?_, i4, i5, fun k' hk' ht' hlt => ?_, fun a ha i => ?_, fun a ha => by rw [tgE, if_neg (by omega)]; exact i9 a (by omega), fun a ha => ?_⟩
  · show h_sz σ + 1 = _
    rw [i2]; omega
  · show h_sl σ + n = _
    rw [i3]; omega
  · by_cases hkk : k' = k
    · subst hkk
      rw [tgE, lnE, rvE, hkA, if_pos ⟨rfl, rfl⟩, if_pos rfl, if_pos rfl]
      exact ⟨rfl, ht.symm, hn.symm⟩
    · have hne : kA m k' ≠ m + 1 + j := fun e => hkk (kA_inj hk' hk ht' (by rw [ht]; exact ht0) (e.trans hkA.symm))
      obtain ⟨a1, a2, a3⟩ := i6 k' hk' ht' (by omega)
      rw [tgE, lnE, rvE, if_neg (fun z => hkk z.2), if_neg (by omega), if_neg hne, if_neg hne]
      exact ⟨a1, a2, a3⟩
  · rw [ivE, lvE]
    by_cases ea : a = m + 1 + j
    · rw [if_pos ea, if_pos ea, if_neg (by omega)]; exact ⟨rfl, rfl⟩
    · rw [if_neg ea, if_neg ea]; exact i7 a ha i
  · obtain ⟨b1, b2, b3⟩ := i8 a ha
    refine ⟨by rw [tgE, if_neg (by omega)]; exact b1, by rw [lnE, if_neg (by omega)]; exact b2, fun i => ?_⟩
    rw [ivE, lvE, rvE, if_neg (by omega), if_neg (by omega), if_neg (by omega), if_neg (by omega)]
    exact b3 i
def ms00 : MS := (fun k => if k = 2 then 1 else 0, fun _ _ => 0, fun _ => 0)
theorem NI_MV {σ0 σ : HS} {m w : Nat} (I : NI σ0 σ m 33 w) : MV σ m (kA m) ms00 := by
  obtain ⟨i1, i2, i3, i4, i5, i6, i7, i9, i8⟩ := I
  have hlt : ∀ k, k_tag k ≠ 0 → m < kA m k ∧ kA m k < m + 1 + 33 := by
    intro k hk
    have h43 := k_tag_lt hk
    unfold kA
    have : ∀ k, k < 43 → (if k ≤ 24 then k - 3 else if k ≤ 27 then k - 4 else if k ≤ 35 then k - 5 else k - 6) < 37 := by decide +kernel
    have h2 : ∀ k, k < 43 → k_tag k ≠ 0 → (if k ≤ 24 then k - 3 else if k ≤ 27 then k - 4 else if k ≤ 35 then k - 5 else k - 6) < 33 := by decide +kernel
    have := h2 k h43 hk
    omega
  refine ⟨i1, fun k hk => i6 k (k_tag_lt hk) hk (hlt k hk).2, fun k k' h1 h2 e => kA_inj (k_tag_lt h1) (k_tag_lt h2) h1 h2 e, fun k hk => ?_, fun k hk j => ?_, fun j => ?_⟩
  · rw [(i7 m (Nat.le_refl m) k).1]
    show _ = if k = 2 then (1 : Int32) else 0
    by_cases h : k = 2
    · rw [if_pos ⟨rfl, h⟩, if_pos h]
    · rw [if_neg (fun z => h z.2), if_neg h]
  · have := hlt k hk
    rw [(i7 (kA m k) (by omega) j).1, if_neg (by omega)]; rfl
  · have := hlt 13 (by decide)
    rw [(i7 (kA m 13) (by omega) j).2]; rfl
section INI
variable {σ0 : HS} {m : Nat} {A : Nat → Nat}
theorem ini_s {σ : HS} {ms : MS} {k t i : Nat} {v : Int32} (V : MV σ m A ms) (hk : k_tag k ≠ 0) (ht : k_tag k = t) (hi : i < k_len k) : h_gR σ (some m) 11 k = some (some (A k)) ∧ h_sI σ (some (A k)) t (nI i) v = some (h_setI σ (A k) i v) := by
  obtain ⟨a1, a2, a3⟩ := V.2.1 k hk
  refine ⟨by rw [gR_s V.1, a1], sI_s (n := k_len k) (by rw [a2]; exact ht) a3 hi (k_len_lt k)⟩
theorem ini_347 : ∀ (c n i : Nat) (σ : HS) (ms : MS), MV σ m A ms → MF σ0 σ m A → i + c = 16 → c < n → ∃ σ', g_X10_init_347 n σ (some m) (nI i) = some ((), σ') ∧ MV σ' m A (fo (fun i q => aS q 26 i (-1)) i c ms) ∧ MF σ0 σ' m A
  | 0, n, i, σ, ms, V, F, h1, h2 => by
    obtain ⟨n', rfl⟩ : ∃ n', n = n' + 1 := ⟨n - 1, by omega⟩
    refine ⟨σ, ?_, V, F⟩
    rw [g_X10_init_347, show i = 16 by omega, show (16 : Int32) = nI 16 from rfl, if_pos (Int32.le_refl _)]
  | c + 1, n, i, σ, ms, V, F, h1, h2 => by
    obtain ⟨n', rfl⟩ : ∃ n', n = n' + 1 := ⟨n - 1, by omega⟩
    obtain ⟨e1, e2⟩ := ini_s (v := -1) V (k := 26) (t := 100) (i := i) (by decide) (by decide) (show i < 16 by omega)
    obtain ⟨σ', r1, r2, r3⟩ := ini_347 c n' (i + 1) _ _ (MV_sI (k := 26) (j := i) (v := -1) V (by decide)) (MF_I F (Or.inr ⟨26, by decide, rfl⟩)) (by omega) (by omega)
    refine ⟨σ', ?_, r2, r3⟩
    rw [g_X10_init_347, if_neg (show ¬ (16 : Int32) ≤ nI i from nI_ge (b := 16) (by omega) (by omega)), e1, h_b1_s, e2, h_b1_s, nI_1]
    exact r1
theorem ini_324 : ∀ (c n i : Nat) (σ : HS) (ms : MS), MV σ m A ms → MF σ0 σ m A → i + c = 64 → c < n → ∃ σ', g_X10_init_324 n σ (some m) (nI i) = some ((), σ') ∧ MV σ' m A (fo (fun i q => aS q 26 i (-1)) 0 16 (fo (fun i q => lS q i (-3000000000)) i c ms)) ∧ MF σ0 σ' m A
  | 0, n, i, σ, ms, V, F, h1, h2 => by
    obtain ⟨n', rfl⟩ : ∃ n', n = n' + 1 := ⟨n - 1, by omega⟩
    obtain ⟨σ', r1, r2, r3⟩ := ini_347 (σ0 := σ0) 16 h_hN 0 σ ms V F (by omega) (h_hN_lt (by omega))
    refine ⟨σ', ?_, r2, r3⟩
    rw [g_X10_init_324, show i = 64 by omega, show (64 : Int32) = nI 64 from rfl, if_pos (Int32.le_refl _)]
    exact r1
  | c + 1, n, i, σ, ms, V, F, h1, h2 => by
    obtain ⟨n', rfl⟩ : ∃ n', n = n' + 1 := ⟨n - 1, by omega⟩
    obtain ⟨a1, a2, a3⟩ := V.2.1 13 (by decide)
    have e1 : h_gR σ (some m) 11 13 = some (some (A 13)) := by rw [gR_s V.1, a1]
    have e2 : h_sL σ (some (A 13)) 101 (nI i) (-3000000000) = some (h_setL σ (A 13) i (-3000000000)) := sL_s (n := 64) a2 a3 (by omega) (by omega)
    obtain ⟨σ', r1, r2, r3⟩ := ini_324 c n' (i + 1) _ _ (MV_sL (j := i) (v := -3000000000) V) (MF_L F ⟨13, by decide, rfl⟩) (by omega) (by omega)
    refine ⟨σ', ?_, r2, r3⟩
    rw [g_X10_init_324, if_neg (show ¬ (64 : Int32) ≤ nI i from nI_ge (b := 64) (by omega) (by omega)), e1, h_b1_s, e2, h_b1_s, nI_1]
    exact r1
theorem ini_296 : ∀ (c n i : Nat) (σ : HS) (ms : MS), MV σ m A ms → MF σ0 σ m A → i + c = 8 → c < n → ∃ σ', g_X10_init_296 n σ (some m) (nI i) = some ((), σ') ∧ MV σ' m A (fo (fun i q => aS q 26 i (-1)) 0 16 (fo (fun i q => lS q i (-3000000000)) 0 64 (fo (fun i q => aS (aS q 6 i (-1)) 14 i (-1)) i c ms))) ∧ MF σ0 σ' m A
  | 0, n, i, σ, ms, V, F, h1, h2 => by
    obtain ⟨n', rfl⟩ : ∃ n', n = n' + 1 := ⟨n - 1, by omega⟩
    obtain ⟨σ', r1, r2, r3⟩ := ini_324 (σ0 := σ0) 64 h_hN 0 σ ms V F (by omega) (h_hN_lt (by omega))
    refine ⟨σ', ?_, r2, r3⟩
    rw [g_X10_init_296, show i = 8 by omega, show (8 : Int32) = nI 8 from rfl, if_pos (Int32.le_refl _)]
    exact r1
  | c + 1, n, i, σ, ms, V, F, h1, h2 => by
    obtain ⟨n', rfl⟩ : ∃ n', n = n' + 1 := ⟨n - 1, by omega⟩
    obtain ⟨e1, e2⟩ := ini_s (v := -1) V (k := 6) (t := 100) (i := i) (by decide) (by decide) (show i < 8 by omega)
    have V1 := MV_sI (k := 6) (j := i) (v := -1) V (by decide)
    obtain ⟨e3, e4⟩ := ini_s (v := -1) V1 (k := 14) (t := 100) (i := i) (by decide) (by decide) (show i < 8 by omega)
    obtain ⟨σ', r1, r2, r3⟩ := ini_296 c n' (i + 1) _ _ (MV_sI (k := 14) (j := i) (v := -1) V1 (by decide)) (MF_I (MF_I F (Or.inr ⟨6, by decide, rfl⟩)) (Or.inr ⟨14, by decide, rfl⟩)) (by omega) (by omega)
    refine ⟨σ', ?_, r2, r3⟩
    rw [g_X10_init_296, if_neg (show ¬ (8 : Int32) ≤ nI i from nI_ge (b := 8) (by omega) (by omega)), e1, h_b1_s, e2, h_b1_s, e3, h_b1_s, e4, h_b1_s, nI_1]
    exact r1
end INI
/-- the numbers of a new one -/
def ms0 : MS := fo (fun i q => aS q 26 i (-1)) 0 16 (fo (fun i q => lS q i (-3000000000)) 0 64 (fo (fun i q => aS (aS q 6 i (-1)) 14 i (-1)) 0 8 (aS ms00 3 0 1)))

/-- the constructor: from a fresh object m at the heap's end -/
theorem model_init {σ0 : HS} {m : Nat} (hz : h_sz σ0 = m + 1) (ht : h_tg σ0 m = 11) (hv : ∀ a, m ≤ a → ∀ i, h_iv σ0 a i = 0 ∧ h_lv σ0 a i = 0) (hc : m + 34 ≤ h_cz σ0) (hk : h_sl σ0 + 4295 ≤ h_ck σ0) :
    ∃ σ, f_X10_init σ0 (some m) = some ((), σ) ∧ MV σ m (kA m) ms0 ∧ h_sz σ = m + 34 ∧ h_sl σ = h_sl σ0 + 4295 ∧ h_cz σ = h_cz σ0 ∧ h_ck σ = h_ck σ0 ∧ (∀ a, m + 34 ≤ a → h_tg σ a = h_tg σ0 a) ∧ ∀ a, a < m → h_tg σ a = h_tg σ0 a ∧ h_ln σ a = h_ln σ0 a ∧ ∀ i, h_iv σ a i = h_iv σ0 a i ∧ h_rv σ a i = h_rv σ0 a i ∧ h_lv σ a i = h_lv σ0 a i := by
  unfold f_X10_init
  rw [h_b1_s, pI_s ht, h_b1_s]
  have I0 : NI σ0 (h_setI σ0 m 2 1) m 0 0 := by
    refine ⟨ht, hz, rfl, rfl, rfl, fun k hk2 ht2 hlt => absurd hlt (by unfold kA; omega), fun a ha i => ⟨?_, (hv a ha i).2⟩, fun _ _ => rfl, fun a ha => ⟨rfl, rfl, fun i => ⟨?_, rfl, rfl⟩⟩⟩
    · show h_up2 (h_iv σ0) m 2 1 a i = _
      unfold h_up2
      rw [(hv a ha i).1]
    · show h_up2 (h_iv σ0) m 2 1 a i = _
      unfold h_up2
      rw [if_neg (by omega)]
  obtain ⟨a1, b1, u1, v1, I1⟩ := NI_step I0 (k := 3) (n := 8) (t := 102) (len := 8) (by decide) rfl (by decide) (by decide) (by decide) rfl (by decide) (by omega) (by omega)
  replace I1 : NI σ0 b1 m 1 8 := I1
  rw [u1, h_bd_s, v1, h_b1_s]
  obtain ⟨a2, b2, u2, v2, I2⟩ := NI_step I1 (k := 4) (n := 8) (t := 100) (len := 8) (by decide) rfl (by decide) (by decide) (by decide) rfl (by decide) (by omega) (by omega)
  replace I2 : NI σ0 b2 m 2 16 := I2
  rw [u2, h_bd_s, v2, h_b1_s]
  obtain ⟨a3, b3, u3, v3, I3⟩ := NI_step I2 (k := 5) (n := 8) (t := 100) (len := 8) (by decide) rfl (by decide) (by decide) (by decide) rfl (by decide) (by omega) (by omega)
  replace I3 : NI σ0 b3 m 3 24 := I3
  rw [u3, h_bd_s, v3, h_b1_s]
  obtain ⟨a4, b4, u4, v4, I4⟩ := NI_step I3 (k := 6) (n := 8) (t := 100) (len := 8) (by decide) rfl (by decide) (by decide) (by decide) rfl (by decide) (by omega) (by omega)
  replace I4 : NI σ0 b4 m 4 32 := I4
  rw [u4, h_bd_s, v4, h_b1_s]
  obtain ⟨a5, b5, u5, v5, I5⟩ := NI_step I4 (k := 7) (n := 128) (t := 100) (len := 128) (by decide) rfl (by decide) (by decide) (by decide) rfl (by decide) (by omega) (by omega)
  replace I5 : NI σ0 b5 m 5 160 := I5
  rw [u5, h_bd_s, v5, h_b1_s]
  obtain ⟨a6, b6, u6, v6, I6⟩ := NI_step I5 (k := 8) (n := 128) (t := 100) (len := 128) (by decide) rfl (by decide) (by decide) (by decide) rfl (by decide) (by omega) (by omega)
  replace I6 : NI σ0 b6 m 6 288 := I6
  rw [u6, h_bd_s, v6, h_b1_s]
  obtain ⟨a7, b7, u7, v7, I7⟩ := NI_step I6 (k := 9) (n := 128) (t := 100) (len := 128) (by decide) rfl (by decide) (by decide) (by decide) rfl (by decide) (by omega) (by omega)
  replace I7 : NI σ0 b7 m 7 416 := I7
  rw [u7, h_bd_s, v7, h_b1_s]
  obtain ⟨a8, b8, u8, v8, I8⟩ := NI_step I7 (k := 10) (n := 128) (t := 100) (len := 128) (by decide) rfl (by decide) (by decide) (by decide) rfl (by decide) (by omega) (by omega)
  replace I8 : NI σ0 b8 m 8 544 := I8
  rw [u8, h_bd_s, v8, h_b1_s]
  obtain ⟨a9, b9, u9, v9, I9⟩ := NI_step I8 (k := 11) (n := 128) (t := 100) (len := 128) (by decide) rfl (by decide) (by decide) (by decide) rfl (by decide) (by omega) (by omega)
  replace I9 : NI σ0 b9 m 9 672 := I9
  rw [u9, h_bd_s, v9, h_b1_s]
  obtain ⟨a10, b10, u10, v10, I10⟩ := NI_step I9 (k := 12) (n := 128) (t := 100) (len := 128) (by decide) rfl (by decide) (by decide) (by decide) rfl (by decide) (by omega) (by omega)
  replace I10 : NI σ0 b10 m 10 800 := I10
  rw [u10, h_bd_s, v10, h_b1_s]
  obtain ⟨a11, b11, u11, v11, I11⟩ := NI_step I10 (k := 13) (n := 64) (t := 101) (len := 64) (by decide) rfl (by decide) (by decide) (by decide) rfl (by decide) (by omega) (by omega)
  replace I11 : NI σ0 b11 m 11 864 := I11
  rw [u11, h_bd_s, v11, h_b1_s]
  obtain ⟨a12, b12, u12, v12, I12⟩ := NI_step I11 (k := 14) (n := 8) (t := 100) (len := 8) (by decide) rfl (by decide) (by decide) (by decide) rfl (by decide) (by omega) (by omega)
  replace I12 : NI σ0 b12 m 12 872 := I12
  rw [u12, h_bd_s, v12, h_b1_s]
  obtain ⟨a13, b13, u13, v13, I13⟩ := NI_step I12 (k := 15) (n := 8) (t := 100) (len := 8) (by decide) rfl (by decide) (by decide) (by decide) rfl (by decide) (by omega) (by omega)
  replace I13 : NI σ0 b13 m 13 880 := I13
  rw [u13, h_bd_s, v13, h_b1_s]
  obtain ⟨a14, b14, u14, v14, I14⟩ := NI_step I13 (k := 16) (n := 32) (t := 100) (len := 32) (by decide) rfl (by decide) (by decide) (by decide) rfl (by decide) (by omega) (by omega)
  replace I14 : NI σ0 b14 m 14 912 := I14
  rw [u14, h_bd_s, v14, h_b1_s]
  obtain ⟨a15, b15, u15, v15, I15⟩ := NI_step I14 (k := 17) (n := 32) (t := 100) (len := 32) (by decide) rfl (by decide) (by decide) (by decide) rfl (by decide) (by omega) (by omega)
  replace I15 : NI σ0 b15 m 15 944 := I15
  rw [u15, h_bd_s, v15, h_b1_s]
  obtain ⟨a16, b16, u16, v16, I16⟩ := NI_step I15 (k := 18) (n := 8) (t := 100) (len := 8) (by decide) rfl (by decide) (by decide) (by decide) rfl (by decide) (by omega) (by omega)
  replace I16 : NI σ0 b16 m 16 952 := I16
  rw [u16, h_bd_s, v16, h_b1_s]
  obtain ⟨a17, b17, u17, v17, I17⟩ := NI_step I16 (k := 19) (n := 48) (t := 100) (len := 48) (by decide) rfl (by decide) (by decide) (by decide) rfl (by decide) (by omega) (by omega)
  replace I17 : NI σ0 b17 m 17 1000 := I17
  rw [u17, h_bd_s, v17, h_b1_s]
  obtain ⟨a18, b18, u18, v18, I18⟩ := NI_step I17 (k := 20) (n := 48) (t := 100) (len := 48) (by decide) rfl (by decide) (by decide) (by decide) rfl (by decide) (by omega) (by omega)
  replace I18 : NI σ0 b18 m 18 1048 := I18
  rw [u18, h_bd_s, v18, h_b1_s]
  obtain ⟨a19, b19, u19, v19, I19⟩ := NI_step I18 (k := 21) (n := 48) (t := 100) (len := 48) (by decide) rfl (by decide) (by decide) (by decide) rfl (by decide) (by omega) (by omega)
  replace I19 : NI σ0 b19 m 19 1096 := I19
  rw [u19, h_bd_s, v19, h_b1_s]
  obtain ⟨a20, b20, u20, v20, I20⟩ := NI_step I19 (k := 22) (n := 48) (t := 100) (len := 48) (by decide) rfl (by decide) (by decide) (by decide) rfl (by decide) (by omega) (by omega)
  replace I20 : NI σ0 b20 m 20 1144 := I20
  rw [u20, h_bd_s, v20, h_b1_s]
  obtain ⟨a21, b21, u21, v21, I21⟩ := NI_step I20 (k := 23) (n := 48) (t := 100) (len := 48) (by decide) rfl (by decide) (by decide) (by decide) rfl (by decide) (by omega) (by omega)
  replace I21 : NI σ0 b21 m 21 1192 := I21
  rw [u21, h_bd_s, v21, h_b1_s]
  obtain ⟨a22, b22, u22, v22, I22⟩ := NI_step I21 (k := 24) (n := 48) (t := 100) (len := 48) (by decide) rfl (by decide) (by decide) (by decide) rfl (by decide) (by omega) (by omega)
  replace I22 : NI σ0 b22 m 22 1240 := I22
  rw [u22, h_bd_s, v22, h_b1_s]
  obtain ⟨a23, b23, u23, v23, I23⟩ := NI_step I22 (k := 26) (n := 16) (t := 100) (len := 16) (by decide) rfl (by decide) (by decide) (by decide) rfl (by decide) (by omega) (by omega)
  replace I23 : NI σ0 b23 m 23 1256 := I23
  rw [u23, h_bd_s, v23, h_b1_s]
  obtain ⟨a24, b24, u24, v24, I24⟩ := NI_step I23 (k := 27) (n := 16) (t := 100) (len := 16) (by decide) rfl (by decide) (by decide) (by decide) rfl (by decide) (by omega) (by omega)
  replace I24 : NI σ0 b24 m 24 1272 := I24
  rw [u24, h_bd_s, v24, h_b1_s]
  obtain ⟨a25, b25, u25, v25, I25⟩ := NI_step I24 (k := 29) (n := 201) (t := 100) (len := 201) (by decide) rfl (by decide) (by decide) (by decide) rfl (by decide) (by omega) (by omega)
  replace I25 : NI σ0 b25 m 25 1473 := I25
  rw [u25, h_bd_s, v25, h_b1_s]
  obtain ⟨a26, b26, u26, v26, I26⟩ := NI_step I25 (k := 30) (n := 201) (t := 100) (len := 201) (by decide) rfl (by decide) (by decide) (by decide) rfl (by decide) (by omega) (by omega)
  replace I26 : NI σ0 b26 m 26 1674 := I26
  rw [u26, h_bd_s, v26, h_b1_s]
  obtain ⟨a27, b27, u27, v27, I27⟩ := NI_step I26 (k := 31) (n := 201) (t := 100) (len := 201) (by decide) rfl (by decide) (by decide) (by decide) rfl (by decide) (by omega) (by omega)
  replace I27 : NI σ0 b27 m 27 1875 := I27
  rw [u27, h_bd_s, v27, h_b1_s]
  obtain ⟨a28, b28, u28, v28, I28⟩ := NI_step I27 (k := 32) (n := 201) (t := 100) (len := 201) (by decide) rfl (by decide) (by decide) (by decide) rfl (by decide) (by omega) (by omega)
  replace I28 : NI σ0 b28 m 28 2076 := I28
  rw [u28, h_bd_s, v28, h_b1_s]
  obtain ⟨a29, b29, u29, v29, I29⟩ := NI_step I28 (k := 33) (n := 201) (t := 100) (len := 201) (by decide) rfl (by decide) (by decide) (by decide) rfl (by decide) (by omega) (by omega)
  replace I29 : NI σ0 b29 m 29 2277 := I29
  rw [u29, h_bd_s, v29, h_b1_s]
  obtain ⟨a30, b30, u30, v30, I30⟩ := NI_step I29 (k := 34) (n := 201) (t := 100) (len := 201) (by decide) rfl (by decide) (by decide) (by decide) rfl (by decide) (by omega) (by omega)
  replace I30 : NI σ0 b30 m 30 2478 := I30
  rw [u30, h_bd_s, v30, h_b1_s]
  obtain ⟨a31, b31, u31, v31, I31⟩ := NI_step I30 (k := 35) (n := 201) (t := 100) (len := 201) (by decide) rfl (by decide) (by decide) (by decide) rfl (by decide) (by omega) (by omega)
  replace I31 : NI σ0 b31 m 31 2679 := I31
  rw [u31, h_bd_s, v31, h_b1_s]
  obtain ⟨a32, b32, u32, v32, I32⟩ := NI_step I31 (k := 37) (n := 1608) (t := 100) (len := 1608) (by decide) rfl (by decide) (by decide) (by decide) rfl (by decide) (by omega) (by omega)
  replace I32 : NI σ0 b32 m 32 4287 := I32
  rw [u32, h_bd_s, v32, h_b1_s]
  obtain ⟨a33, b33, u33, v33, I33⟩ := NI_step I32 (k := 38) (n := 8) (t := 100) (len := 8) (by decide) rfl (by decide) (by decide) (by decide) rfl (by decide) (by omega) (by omega)
  replace I33 : NI σ0 b33 m 33 4295 := I33
  rw [u33, h_bd_s, v33, h_b1_s]
  have V := NI_MV I33
  obtain ⟨e1, e2⟩ := ini_s (v := 1) V (k := 3) (t := 102) (i := 0) (by decide) (by decide) (by decide)
  have e2' : h_sI b33 (some (kA m 3)) 102 0 1 = some (h_setI b33 (kA m 3) 0 1) := e2
  rw [e1, h_b1_s, e2', h_b1_s]
  have F0 : MF b33 (h_setI b33 (kA m 3) 0 1) m (kA m) := MF_I MF.rf (Or.inr ⟨3, by decide, rfl⟩)
  obtain ⟨σ', r1, r2, r3⟩ := ini_296 (σ0 := b33) 8 h_hN 0 _ _ (MV_sI (k := 3) (j := 0) (v := 1) V (by decide)) F0 (by omega) (h_hN_lt (by omega))
  obtain ⟨i1, i2, i3, i4, i5, i6, i7, i9, i8⟩ := I33
  obtain ⟨f1, f2, f3, f4, f5, f6, f7, f8⟩ := r3
  refine ⟨σ', r1, r2, by rw [f4, i2], by rw [f5, i3], by rw [f6, i4], by rw [f7, i5], fun a ha => by rw [f1]; exact i9 a (by omega), fun a ha => ?_⟩
  obtain ⟨g1, g2, g3⟩ := i8 a ha
  refine ⟨by rw [f1]; exact g1, by rw [f2]; exact g2, fun i => ?_⟩
  have h9 := f8 a (by omega) (fun k _ => by unfold kA; omega) i
  rw [h9.1, h9.2, f3]
  exact g3 i
end
/-! from 42.touch -/
section
/-! WHAT THE REFERENCE'S ACTS LEAVE AS IT WAS -/
theorem dlvM_k {ms : MS} {i : Nat} {s : Int32} {k j : Nat} (h1 : k ≠ 31) (h2 : k ≠ 33) (h3 : k ≠ 35) : (dlvM ms i s).2.1 k j = ms.2.1 k j := by
  unfold dlvM
  rw [aS_k h1, aS_k h3]
  split
  · rw [aS_k h2]
  · rfl
theorem dlvM_1 {ms : MS} {i : Nat} {s : Int32} : (dlvM ms i s).1 = ms.1 := by
  unfold dlvM
  rw [aS_1, aS_1]
  split <;> rfl
theorem askM_k {ms : MS} {n i : Nat} {sv : Int32} {k j : Nat} (h1 : k ≠ 31) (h2 : k ≠ 32) (h3 : k ≠ 37) : (askM ms n i sv).2.1 k j = ms.2.1 k j := by
  unfold askM
  rw [postM_k h3, aS_k h2, aS_k h1]; rfl
theorem askM_s {ms : MS} {n i : Nat} {sv : Int32} {k : Nat} (h1 : k ≠ 2) (h2 : k ≠ 36) (h3 : k ≠ 42) : (askM ms n i sv).1 k = ms.1 k := by
  unfold askM
  rw [postM_s h2 h3, aS_1, aS_1, pI_n1 h1]
theorem askM_36 {ms : MS} {n i : Nat} {sv : Int32} (hn : ms.1 36 = nI n) : (askM ms n i sv).1 36 = nI (postN n) := by
  unfold askM
  exact postM_36 (by rw [aS_1, aS_1, pI_n1 (by decide)]; exact hn)
theorem folM_k {ms : MS} {n i : Nat} {pl : Int32} {k j : Nat} (h1 : k ≠ 31) (h3 : k ≠ 37) : (folM ms n i pl).2.1 k j = ms.2.1 k j := by
  unfold folM
  split
  · rw [aS_k h1]
  · rw [postM_k h3, aS_k h1]
theorem folM_s {ms : MS} {n i : Nat} {pl : Int32} {k : Nat} (h2 : k ≠ 36) (h3 : k ≠ 42) : (folM ms n i pl).1 k = ms.1 k := by
  unfold folM
  split
  · rfl
  · rw [postM_s h2 h3]; rfl
theorem folM_36 {ms : MS} {n i : Nat} {pl : Int32} (hn : ms.1 36 = nI n) (h : n ≤ 200) : ∃ n', n' ≤ 200 ∧ (folM ms n i pl).1 36 = nI n' := by
  unfold folM
  split
  · exact ⟨n, h, hn⟩
  · exact ⟨postN n, postN_le h, postM_36 hn⟩
theorem fgtM_k {ms : MS} {s : Nat} {ep pl : Int32} {k j : Nat} (h1 : k ≠ 23) : (fgtM ms s ep pl).2.1 k j = ms.2.1 k j := by
  unfold fgtM
  split
  · rfl
  · split
    · rw [aS_k h1]
    · rfl
theorem fgtM_1 {ms : MS} {s : Nat} {ep pl : Int32} : (fgtM ms s ep pl).1 = ms.1 := by
  unfold fgtM
  split
  · rfl
  · split <;> rfl
theorem solM_k {ms : MS} {n k j : Nat} (h : k ≠ 37) : (solM ms n).2.1 k j = ms.2.1 k j := by
  unfold solM
  rw [postM_k h]; rfl
theorem solM_s {ms : MS} {n k : Nat} (h1 : k ≠ 36) (h2 : k ≠ 41) (h3 : k ≠ 42) : (solM ms n).1 k = ms.1 k := by
  unfold solM
  rw [postM_s h1 h3, pI_n1 h2]
theorem solM_36 {ms : MS} {n : Nat} (hn : ms.1 36 = nI n) : (solM ms n).1 36 = nI (postN n) := by
  unfold solM
  exact postM_36 (by rw [pI_n1 (by decide)]; exact hn)
theorem cameM_k {ms : MS} {n pl k j : Nat} (h1 : k ≠ 31) (h2 : k ≠ 33) (h3 : k ≠ 35) (h4 : k ≠ 37) : (cameM ms n pl).2.1 k j = ms.2.1 k j := by
  unfold cameM
  split
  · split
    · split
      · rw [dlvM_k h1 h2 h3]
      · rw [solM_k h4, losM_k h1]
    · split
      · rw [solM_k h4]; unfold onM; rw [postM_k h4]
      · rw [losM_k h1]
  · rfl
theorem cameM_s {ms : MS} {n pl k : Nat} (h1 : k ≠ 36) (h2 : k ≠ 41) (h3 : k ≠ 42) : (cameM ms n pl).1 k = ms.1 k := by
  unfold cameM
  split
  · split
    · split
      · rw [dlvM_1]
      · rw [solM_s h1 h2 h3, losM_1]
    · split
      · rw [solM_s h1 h2 h3]; unfold onM; rw [postM_s h1 h3]
      · rw [losM_1]
  · rfl
theorem cameM_36 {ms : MS} {n pl : Nat} (hn : ms.1 36 = nI n) (h : n ≤ 200) : ∃ n', n' ≤ 200 ∧ (cameM ms n pl).1 36 = nI n' := by
  unfold cameM
  split
  · split
    · split
      · exact ⟨n, h, by rw [dlvM_1]; exact hn⟩
      · exact ⟨postN n, postN_le h, solM_36 (by rw [losM_1]; exact hn)⟩
    · split
      · exact ⟨postN (postN n), postN_le (postN_le h), solM_36 (by unfold onM; exact postM_36 hn)⟩
      · exact ⟨n, h, by rw [losM_1]; exact hn⟩
  · exact ⟨n, h, hn⟩
theorem setE_k {ms : MS} {sv e k j : Nat} (h : k < 7 ∨ 12 < k) : (setE ms sv e).2.1 k j = ms.2.1 k j := by
  unfold setE
  rw [aS_k (by omega), aS_k (by omega), aS_k (by omega), aS_k (by omega), aS_k (by omega), aS_k (by omega)]; rfl
theorem setE_1 {ms : MS} {sv e : Nat} : (setE ms sv e).1 = ms.1 := rfl
theorem regM_k {ms : MS} {sv k j : Nat} (h : k < 7 ∨ 12 < k) : (regM ms sv).2.1 k j = ms.2.1 k j := by
  unfold regM slotR
  split
  · split
    · rw [setE_k h]
    · rfl
  · rfl
theorem regM_s {ms : MS} {sv k : Nat} (h : k ≠ 39) : (regM ms sv).1 k = ms.1 k := by
  unfold regM slotR refM
  split
  · split
    · rfl
    · rw [pI_n1 h]
  · rw [pI_n1 h]
theorem repM_k {ms : MS} {n sv L k j : Nat} (h : k ≠ 37) : (repM ms n sv L).2.1 k j = ms.2.1 k j := by
  unfold repM
  split <;> rw [postM_k h]
theorem repM_s {ms : MS} {n sv L k : Nat} (h : k ≠ 36) (h2 : k ≠ 42) : (repM ms n sv L).1 k = ms.1 k := by
  unfold repM
  split <;> rw [postM_s h h2]
theorem repM_36 {ms : MS} {n sv L : Nat} (hn : ms.1 36 = nI n) : (repM ms n sv L).1 36 = nI (postN n) := by
  unfold repM
  split <;> exact postM_36 hn
theorem reqM_k {ms : MS} {n sv k j : Nat} (h : k ≠ 37) : (reqM ms n sv).2.1 k j = ms.2.1 k j := by
  unfold reqM
  split
  · split
    · rw [postM_k h]
    · split
      · rw [repM_k h]
      · rfl
  · rfl
theorem reqM_s {ms : MS} {n sv k : Nat} (h : k ≠ 36) (h2 : k ≠ 42) : (reqM ms n sv).1 k = ms.1 k := by
  unfold reqM
  split
  · split
    · rw [postM_s h h2]
    · split
      · rw [repM_s h h2]
      · rfl
  · rfl
theorem reqM_36 {ms : MS} {n sv : Nat} (hn : ms.1 36 = nI n) (h : n ≤ 200) : ∃ n', n' ≤ 200 ∧ (reqM ms n sv).1 36 = nI n' := by
  unfold reqM
  split
  · split
    · exact ⟨postN n, postN_le h, postM_36 hn⟩
    · split
      · exact ⟨postN n, postN_le h, repM_36 hn⟩
      · exact ⟨n, h, hn⟩
  · exact ⟨n, h, hn⟩
theorem rfrM_k {ms : MS} {n p k j : Nat} (h1 : k ≠ 31) (h2 : k ≠ 32) (h3 : k ≠ 34) (h4 : k ≠ 37) : (rfrM ms n p).2.1 k j = ms.2.1 k j := by
  unfold rfrM
  split
  · rw [aS_k h1, aS_k h3]
  · rw [askM_k h1 h2 h4, aS_k h3]
theorem rfrM_s {ms : MS} {n p k : Nat} (h1 : k ≠ 2) (h2 : k ≠ 36) (h3 : k ≠ 42) : (rfrM ms n p).1 k = ms.1 k := by
  unfold rfrM
  split
  · rfl
  · rw [askM_s h1 h2 h3]; rfl
theorem rfrM_36 {ms : MS} {n p : Nat} (hn : ms.1 36 = nI n) (h : n ≤ 200) : ∃ n', n' ≤ 200 ∧ (rfrM ms n p).1 36 = nI n' := by
  unfold rfrM
  split
  · exact ⟨n, h, hn⟩
  · exact ⟨postN n, postN_le h, askM_36 hn⟩
theorem hitM_k {ms : MS} {n s p k j : Nat} (h1 : k < 19 ∨ 24 < k) (h2 : k ≠ 31) (h3 : k ≠ 37) : (hitM ms n s p).2.1 k j = ms.2.1 k j := by
  unfold hitM
  split <;> rw [folM_k h2 h3, mnM_k h1]
theorem hitM_s {ms : MS} {n s p k : Nat} (h1 : k ≠ 25) (h2 : k ≠ 36) (h3 : k ≠ 42) : (hitM ms n s p).1 k = ms.1 k := by
  unfold hitM
  split <;> rw [folM_s h2 h3, mnM_s h1]
theorem hitM_36 {ms : MS} {n s p : Nat} (hn : ms.1 36 = nI n) (h : n ≤ 200) : ∃ n', n' ≤ 200 ∧ (hitM ms n s p).1 36 = nI n' := by
  unfold hitM
  split <;> exact folM_36 (by rw [mnM_s (by decide)]; exact hn) h
theorem rplM_k {ms : MS} {n s k j : Nat} {o : Option Nat} (h1 : k < 19 ∨ 24 < k) (h2 : k ≠ 31) (h3 : k ≠ 32) (h4 : k ≠ 34) (h5 : k ≠ 37) : (rplM ms n s o).2.1 k j = ms.2.1 k j := by
  unfold rplM
  split
  · rfl
  · split
    · split
      · rw [rfrM_k h2 h3 h4 h5]
      · rw [hitM_k h1 h2 h5]
    · rfl
theorem rplM_s {ms : MS} {n s k : Nat} {o : Option Nat} (h1 : k ≠ 2) (h2 : k ≠ 25) (h3 : k ≠ 36) (h4 : k ≠ 40) (h5 : k ≠ 42) : (rplM ms n s o).1 k = ms.1 k := by
  unfold rplM ignM
  split
  · rw [pI_n1 h4]
  · split
    · split
      · rw [rfrM_s h1 h3 h5]
      · rw [hitM_s h2 h3 h5]
    · rw [pI_n1 h4]
theorem rplM_36 {ms : MS} {n s : Nat} {o : Option Nat} (hn : ms.1 36 = nI n) (h : n ≤ 200) : ∃ n', n' ≤ 200 ∧ (rplM ms n s o).1 36 = nI n' := by
  unfold rplM ignM
  split
  · exact ⟨n, h, by rw [pI_n1 (by decide)]; exact hn⟩
  · split
    · split
      · exact rfrM_36 hn h
      · exact hitM_36 hn h
    · exact ⟨n, h, by rw [pI_n1 (by decide)]; exact hn⟩
/-- what a carried message can't touch -/
def offA (k : Nat) : Prop := k < 7 ∨ (12 < k ∧ k < 19) ∨ (24 < k ∧ k < 31) ∨ 37 < k
theorem arrM_k {ms : MS} {n np k j : Nat} (h : offA k) : (arrM ms n np).2.1 k j = ms.2.1 k j := by
  unfold offA at h
  unfold arrM
  split
  · split
    · rw [regM_k (by omega)]
    · rfl
  · split
    · split
      · rw [reqM_k (by omega)]
      · rfl
    · split
      · split
        · rw [rplM_k (by omega) (by omega) (by omega) (by omega) (by omega)]
        · rfl
      · split
        · rw [cameM_k (by omega) (by omega) (by omega) (by omega)]
        · split
          · rw [fgtM_k (by omega)]
          · rfl
theorem arrM_s {ms : MS} {n np k : Nat} (h1 : k ≠ 2) (h2 : k ≠ 25) (h3 : k ≠ 36) (h4 : k < 39) : (arrM ms n np).1 k = ms.1 k := by
  unfold arrM
  split
  · split
    · rw [regM_s (by omega)]
    · rfl
  · split
    · split
      · rw [reqM_s h3 (by omega)]
      · rfl
    · split
      · split
        · rw [rplM_s h1 h2 h3 (by omega) (by omega)]
        · rfl
      · split
        · rw [cameM_s h3 (by omega) (by omega)]
        · split
          · rw [fgtM_1]
          · rfl
theorem arrM_36 {ms : MS} {n np : Nat} (hn : ms.1 36 = nI n) (h : n ≤ 200) : ∃ n', n' ≤ 200 ∧ (arrM ms n np).1 36 = nI n' := by
  unfold arrM
  split
  · split
    · exact ⟨n, h, by rw [regM_s (by decide)]; exact hn⟩
    · exact ⟨n, h, hn⟩
  · split
    · split
      · exact reqM_36 hn h
      · exact ⟨n, h, hn⟩
    · split
      · split
        · exact rplM_36 hn h
        · exact ⟨n, h, hn⟩
      · split
        · exact cameM_36 hn h
        · split
          · exact ⟨n, h, by rw [fgtM_1]; exact hn⟩
          · exact ⟨n, h, hn⟩
theorem takeM_k {ms : MS} {n i k j : Nat} (h1 : k ≠ 37) (h2 : k ≠ 38) : (takeM ms n i).2.1 k j = ms.2.1 k j := by
  show (rW _ 37 _).2.1 k j = _
  rw [rW_i, if_neg h1, rW_i, if_neg h2]
theorem takeM_s {ms : MS} {n i k : Nat} (h : k ≠ 36) : (takeM ms n i).1 k = ms.1 k := by
  unfold takeM
  rw [pI_n1 h]; rfl
theorem takeM_36 {ms : MS} {n i : Nat} : (takeM ms n i).1 36 = nI (n - 1) := by
  unfold takeM
  rw [pI_s1]
theorem takeM_38 {ms : MS} {n i j : Nat} (hj : j < 8) : (takeM ms n i).2.1 38 j = ms.2.1 37 (8 * i + j) := by
  show (rW _ 37 _).2.1 38 j = _
  rw [rW_i, if_neg (by decide), rW_i, if_pos rfl, if_pos (by omega)]
theorem takeM_37 {ms : MS} {n i q j : Nat} (hj : j < 8) (hi : i < n) : (takeM ms n i).2.1 37 (8 * q + j) = ms.2.1 37 (8 * (if i ≤ q ∧ q < n - 1 then q + 1 else q) + j) := by
  show (rW _ 37 _).2.1 37 (8 * q + j) = _
  rw [rW_i, if_pos rfl]
  by_cases h : i ≤ q ∧ q < n - 1
  · rw [if_pos (show 8 * i ≤ 8 * q + j ∧ 8 * q + j < 8 * i + (8 * n - 8 - 8 * i) by omega), if_pos h]
    exact congrArg (ms.2.1 37) (show 8 * q + j + 8 = 8 * (q + 1) + j by omega)
  · rw [if_neg (show ¬(8 * i ≤ 8 * q + j ∧ 8 * q + j < 8 * i + (8 * n - 8 - 8 * i)) by omega), if_neg h]
theorem postM_37 {ms : MS} {n : Nat} {f : Nat → Int32} {q j : Nat} (hj : j < 8) : (postM ms n f).2.1 37 (8 * q + j) = if n ≠ 200 ∧ q = n then f j else ms.2.1 37 (8 * q + j) := by
  unfold postM
  by_cases h : n = 200
  · rw [if_pos h, if_neg (fun z => z.1 h)]; rfl
  · rw [if_neg h]
    show (rW _ 37 _).2.1 37 (8 * q + j) = _
    rw [rW_i, if_pos rfl]
    by_cases hq : q = n
    · rw [if_pos (by omega), if_pos ⟨h, hq⟩, show (8 * q + j) % 8 = j by omega]
    · rw [if_neg (by omega), if_neg (fun z => hq z.2)]
end
/-! from 43.tree -/
section
/-! THE TREE OF PARTS: who owns a prefix -/
def sub (b : Int32) (n : Nat) (b' : Int32) (n' : Nat) : Prop := n' ≤ n ∧ ag n' b b' = true
theorem sub_rf {b : Int32} {n : Nat} (h : n ≤ 32) : sub b n b n := ⟨Nat.le_refl n, ag_refl h⟩
theorem sub_tr {b b1 b2 : Int32} {n n1 n2 : Nat} (hn : n1 ≤ 32) (h : sub b n b1 n1) (h' : sub b1 n1 b2 n2) : sub b n b2 n2 := ⟨Nat.le_trans h'.1 h.1, ag_trans (by have := h'.1; omega) (ag_le hn h'.1 h.2) h'.2⟩
theorem sub_nest {b b1 b2 : Int32} {n n1 n2 : Nat} (hn2 : n2 ≤ 32) (h1 : sub b n b1 n1) (h2 : sub b n b2 n2) (h : n1 ≤ n2) : sub b2 n2 b1 n1 := ⟨h, ag_trans (by omega) (ag_symm (by omega) (ag_le hn2 h h2.2)) h1.2⟩
theorem mtB_iff {b b' : Int32} {n n' : Nat} : mtB b n b' n' = true ↔ sub b n b' n' ∨ sub b' n' b n := by
  unfold mtB sub
  simp only [Bool.or_eq_true, Bool.and_eq_true, decide_eq_true_eq]
theorem mtB_of {b b1 b2 : Int32} {n n1 n2 : Nat} (hn1 : n1 ≤ 32) (hn2 : n2 ≤ 32) (h1 : sub b n b1 n1) (h2 : sub b n b2 n2) : mtB b1 n1 b2 n2 = true := by
  rw [mtB_iff]
  by_cases h : n1 ≤ n2
  · exact Or.inr (sub_nest hn2 h1 h2 h)
  · exact Or.inl (sub_nest hn1 h2 h1 (by omega))
def pr (ms : MS) (i : Nat) : Prop := ¬ ms.2.1 3 i = 0
def pB (ms : MS) (i : Nat) : Int32 := ms.2.1 4 i
def pL (ms : MS) (i : Nat) : Nat := ln (ms.2.1 5 i)
/-- c is a child of p -/
def ch (ms : MS) (c p : Nat) : Prop := c < 8 ∧ ms.2.1 6 c = nI p
def Tr (ms : MS) : Prop := (pr ms 0 ∧ ms.2.1 4 0 = 0 ∧ ms.2.1 5 0 = 0) ∧ (∀ s, s < 8 → Ln (ms.2.1 5 s)) ∧ (∀ s, s < 8 → pr ms s → vb (pL ms s) (pB ms s) = true) ∧ (∀ s, s < 8 → ms.2.1 3 s = 0 → ms.2.1 6 s = -1) ∧
  (∀ c p, p < 8 → ch ms c p → pr ms c ∧ pr ms p ∧ pL ms p < pL ms c ∧ sub (pB ms c) (pL ms c) (pB ms p) (pL ms p)) ∧
  (∀ s b, s < 8 → b < 8 → s ≠ b → pr ms s → pr ms b → sub (pB ms s) (pL ms s) (pB ms b) (pL ms b) → ∃ c, ch ms c b ∧ sub (pB ms s) (pL ms s) (pB ms c) (pL ms c)) ∧
  (∀ c c' p, p < 8 → ch ms c p → ch ms c' p → c ≠ c' → mtB (pB ms c) (pL ms c) (pB ms c') (pL ms c') = false)
theorem Tr_congr {ms ms' : MS} (h : ∀ k j, 3 ≤ k → k ≤ 6 → ms'.2.1 k j = ms.2.1 k j) (T : Tr ms) : Tr ms' := by
  have e3 : ∀ i, ms'.2.1 3 i = ms.2.1 3 i := fun i => h 3 i (by omega) (by omega)
  have e4 : ∀ i, ms'.2.1 4 i = ms.2.1 4 i := fun i => h 4 i (by omega) (by omega)
  have e5 : ∀ i, ms'.2.1 5 i = ms.2.1 5 i := fun i => h 5 i (by omega) (by omega)
  have e6 : ∀ i, ms'.2.1 6 i = ms.2.1 6 i := fun i => h 6 i (by omega) (by omega)
  unfold Tr pr pB pL ch at *
  simp only [e3, e4, e5, e6]
  exact T
theorem pL_le {ms : MS} (T : Tr ms) {i : Nat} (h : i < 8) : pL ms i ≤ 32 := (Ln_nI (T.2.1 i h)).2
theorem pL_0 {ms : MS} (T : Tr ms) : pL ms 0 = 0 := by
  unfold pL
  rw [T.1.2.2]; rfl
/-- i owns the prefix -/
def owns (ms : MS) (b : Int32) (n i : Nat) : Prop := i < 8 ∧ pr ms i ∧ sub b n (pB ms i) (pL ms i) ∧ ∀ c, ch ms c i → mtB (pB ms c) (pL ms c) b n = false
theorem ownW_spec {ms : MS} (T : Tr ms) {b : Int32} {n : Nat} (hn : n ≤ 32) : ownW ms b n < 8 ∧ pr ms (ownW ms b n) ∧ sub b n (pB ms (ownW ms b n)) (pL ms (ownW ms b n)) ∧ ∀ i, i < 8 → pr ms i → sub b n (pB ms i) (pL ms i) → pL ms i ≤ pL ms (ownW ms b n) := by
  have := fo_inv (step := ownS ms b n) (c := 8) (i := 0) (s := 0) (fun i w => i ≤ 8 → w < 8 ∧ pr ms w ∧ sub b n (pB ms w) (pL ms w) ∧ ∀ j, j < i → pr ms j → sub b n (pB ms j) (pL ms j) → pL ms j ≤ pL ms w)
    (fun i w _ h2 ih _ => by
      obtain ⟨h3, h4, h5, h6⟩ := ih (by omega)
      have hi8 : i < 8 := by omega
      unfold ownS
      by_cases hc : (decide (¬ ms.2.1 3 i = 0) && (decide (ln (ms.2.1 5 i) ≤ n) && ag (ln (ms.2.1 5 i)) (ms.2.1 4 i) b)) = true
      · rw [if_pos hc]
        simp only [Bool.and_eq_true, decide_eq_true_eq] at hc
        have hs : sub b n (pB ms i) (pL ms i) := ⟨hc.2.1, ag_symm (pL_le T hi8) hc.2.2⟩
        by_cases hl : ms.2.1 5 i < ms.2.1 5 w
        · rw [if_pos hl]
          refine ⟨h3, h4, h5, fun j hj p1 p2 => ?_⟩
          by_cases e : j = i
          · subst e
            have := (Ln_lt (T.2.1 j hi8) (T.2.1 w h3)).mp hl
            unfold pL; omega
          · exact h6 j (by omega) p1 p2
        · rw [if_neg hl]
          refine ⟨hi8, hc.1, hs, fun j hj p1 p2 => ?_⟩
          by_cases e : j = i
          · subst e; exact Nat.le_refl _
          · have a1 := h6 j (by omega) p1 p2
            have a2 : ¬ ln (ms.2.1 5 i) < ln (ms.2.1 5 w) := fun z => hl ((Ln_lt (T.2.1 i hi8) (T.2.1 w h3)).mpr z)
            unfold pL at *; omega
      · rw [if_neg hc]
        refine ⟨h3, h4, h5, fun j hj p1 p2 => ?_⟩
        by_cases e : j = i
        · subst e
          exfalso
          apply hc
          simp only [Bool.and_eq_true, decide_eq_true_eq]
          exact ⟨p1, p2.1, ag_symm (pL_le T hi8) p2.2⟩
        · exact h6 j (by omega) p1 p2)
    (fun _ => ⟨by decide, T.1.1, ⟨by rw [pL_0 T]; omega, by rw [pL_0 T]; exact ag_0 _ _⟩, fun j hj => by omega⟩)
  exact this (by omega)
theorem ownE_iff {ms : MS} (T : Tr ms) {b : Int32} {n i : Nat} (hn : n ≤ 32) : ownE ms b n = some i ↔ owns ms b n i := by
  obtain ⟨w1, w2, w3, w4⟩ := ownW_spec T (b := b) hn
  have hE : ownE ms b n = match ff (ownX ms b n (ownW ms b n)) 0 8 with
    | none => some (ownW ms b n)
    | some _ => none := rfl
  generalize ownW ms b n = w at w1 w2 w3 w4 hE
  -- whoever owns it is w
  have huniq : ∀ i, owns ms b n i → i = w := by
    intro i hi
    obtain ⟨a1, a2, a3, a4⟩ := hi
    by_cases e : i = w
    · exact e
    · exfalso
      have hs : sub (pB ms w) (pL ms w) (pB ms i) (pL ms i) := sub_nest (pL_le T w1) a3 w3 (w4 i a1 a2 a3)
      obtain ⟨c, hc, hc2⟩ := T.2.2.2.2.2.1 w i w1 a1 (fun z => e z.symm) w2 a2 hs
      have hc3 : sub b n (pB ms c) (pL ms c) := sub_tr (pL_le T w1) w3 hc2
      have := a4 c hc
      rw [mtB_iff.mpr (Or.inr hc3)] at this
      cases this
  cases hf : ff (ownX ms b n w) 0 8 with
  | none =>
    rw [hf] at hE
    rw [hE]
    have hno : ∀ s, s < 8 → s ≠ w → pr ms s → ¬ sub (pB ms s) (pL ms s) b n := by
      intro s hs hsw hp hsub
      have := (ff_none.mp hf) s (by omega) (by omega)
      unfold ownX at this
      have ht : (!decide (s = w) && (decide (¬ ms.2.1 3 s = 0) && (decide (n ≤ ln (ms.2.1 5 s)) && ag n b (ms.2.1 4 s)))) = true := by
        simp only [Bool.and_eq_true, Bool.not_eq_true', decide_eq_false_iff_not, decide_eq_true_eq]
        exact ⟨hsw, hp, hsub.1, ag_symm hn hsub.2⟩
      rw [ht] at this
      cases this
    constructor
    · intro h
      rw [← Option.some.inj h]
      refine ⟨w1, w2, w3, fun c hc => ?_⟩
      obtain ⟨c1, c2, c3, c4⟩ := T.2.2.2.2.1 c w w1 hc
      by_cases hm : mtB (pB ms c) (pL ms c) b n = true
      · rcases mtB_iff.mp hm with h | h
        · exact absurd h (hno c hc.1 (fun z => by subst z; omega) c1)
        · have := w4 c hc.1 c1 h
          omega
      · exact Bool.eq_false_iff.mpr hm
    · intro h
      rw [huniq i h]
  | some s =>
    rw [hf] at hE
    rw [hE]
    constructor
    · intro h; cases h
    · intro h
      exfalso
      have ew := huniq i h
      subst ew
      obtain ⟨a1, a2, a3, a4⟩ := h
      obtain ⟨-, s1, s2, -⟩ := ff_some.mp hf
      unfold ownX at s2
      simp only [Bool.and_eq_true, Bool.not_eq_true', decide_eq_false_iff_not, decide_eq_true_eq] at s2
      obtain ⟨t1, t2, t3, t4⟩ := s2
      have hsP : sub (pB ms s) (pL ms s) b n := ⟨t3, ag_symm hn t4⟩
      have hsi : sub (pB ms s) (pL ms s) (pB ms i) (pL ms i) := sub_tr hn hsP a3
      obtain ⟨c, hc, hc2⟩ := T.2.2.2.2.2.1 s i (by omega) a1 t1 t2 a2 hsi
      have hm := mtB_of (pL_le T hc.1) hn hc2 hsP
      rw [a4 c hc] at hm
      cases hm
theorem owns_uniq {ms : MS} (T : Tr ms) {b : Int32} {n i j : Nat} (hn : n ≤ 32) (h : owns ms b n i) (h' : owns ms b n j) : i = j := Option.some.inj (((ownE_iff T hn).mpr h).symm.trans ((ownE_iff T hn).mpr h'))
/-- a delegation keeps the tree -/
theorem Tr_del {ms : MS} (T : Tr ms) {p c n : Nat} {b : Int32} (hp : p < 8) (hc : c < 8) (hc0 : ms.2.1 3 c = 0) (hn : n ≤ 32) (hv : vb n b = true) (ho : owns ms b n p) (hne : pL ms p ≠ n) {ms' : MS}
    (e3 : ∀ i, ms'.2.1 3 i = if i = c then 1 else ms.2.1 3 i) (e4 : ∀ i, ms'.2.1 4 i = if i = c then b else ms.2.1 4 i) (e5 : ∀ i, ms'.2.1 5 i = if i = c then nI n else ms.2.1 5 i) (e6 : ∀ i, ms'.2.1 6 i = if i = c then nI p else ms.2.1 6 i) : Tr ms' := by
  obtain ⟨-, o2, o3, o4⟩ := ho
  have hpc : p ≠ c := fun z => o2 (by rw [z]; exact hc0)
  have hc00 : c ≠ 0 := fun z => T.1.1 (by rw [← z]; exact hc0)
  have hlt : pL ms p < n := by
    have := o3.1
    omega
  have q : ∀ i, i ≠ c → (pr ms' i ↔ pr ms i) ∧ pB ms' i = pB ms i ∧ pL ms' i = pL ms i ∧ ∀ p', ch ms' i p' ↔ ch ms i p' := by
    intro i hi
    unfold pr pB pL ch
    rw [e3, e4, e5, e6, if_neg hi, if_neg hi, if_neg hi, if_neg hi]
    exact ⟨Iff.rfl, rfl, rfl, fun _ => Iff.rfl⟩
  have c1 : pr ms' c := by unfold pr; rw [e3, if_pos rfl]; decide
  have c2 : pB ms' c = b := by unfold pB; rw [e4, if_pos rfl]
  have c3 : pL ms' c = n := by unfold pL; rw [e5, if_pos rfl]; exact ln_nI hn
  have c4 : ∀ p', p' < 8 → (ch ms' c p' ↔ p' = p) := by
    intro p' hp'
    unfold ch
    rw [e6, if_pos rfl]
    exact ⟨fun h => ((nI_eq (by omega) (by omega)).mp h.2).symm, fun h => ⟨hc, by rw [h]⟩⟩
  -- c had no child, and was none
  have nch : ∀ i, ¬ ch ms i c := fun i h => (T.2.2.2.2.1 i c hc h).2.1 hc0
  have notc : ∀ p', p' < 8 → ¬ ch ms c p' := by
    intro p' hp' h
    have := T.2.2.2.1 c hc hc0
    rw [h.2] at this
    exact nI_ne_m1 (by omega) this
  -- nothing lies in the new part
  have hin : ∀ s, s < 8 → pr ms s → ¬ sub (pB ms s) (pL ms s) b n := by
    intro s hs hp' h
    have hsp : s ≠ p := fun z => by subst z; have := h.1; omega
    have h2 : sub (pB ms s) (pL ms s) (pB ms p) (pL ms p) := sub_tr hn h o3
    obtain ⟨d, hd, hd2⟩ := T.2.2.2.2.2.1 s p hs hp hsp hp' o2 h2
    have := mtB_of (pL_le T hd.1) hn hd2 h
    rw [o4 d hd] at this
    cases this
  refine ⟨⟨?_, ?_, ?_⟩, fun s hs => ?_, fun s hs h => ?_, fun s hs h => ?_, fun d p' hp' h => ?_, fun s b' hs hb' hsb h1 h2 h3 => ?_, fun d d' p' hp' h1 h2 h3 => ?_⟩
  · exact (q 0 (Ne.symm hc00)).1.mpr T.1.1
  · rw [e4, if_neg (Ne.symm hc00)]; exact T.1.2.1
  · rw [e5, if_neg (Ne.symm hc00)]; exact T.1.2.2
  · rw [e5]
    by_cases e : s = c
    · rw [if_pos e]; exact ⟨n, hn, rfl⟩
    · rw [if_neg e]; exact T.2.1 s hs
  · by_cases e : s = c
    · subst e; rw [c2, c3]; exact hv
    · rw [(q s e).2.1, (q s e).2.2.1]; exact T.2.2.1 s hs ((q s e).1.mp h)
  · by_cases e : s = c
    · subst e; exact absurd h c1
    · rw [e6, if_neg e]
      rw [e3, if_neg e] at h
      exact T.2.2.2.1 s hs h
  · by_cases e : d = c
    · subst e
      have ep := (c4 p' hp').mp h
      subst ep
      rw [c2, c3, (q p' hpc).2.1, (q p' hpc).2.2.1]
      exact ⟨c1, (q p' hpc).1.mpr o2, hlt, o3⟩
    · have h' := ((q d e).2.2.2 p').mp h
      have ep : p' ≠ c := fun z => nch d (by rw [← z]; exact h')
      obtain ⟨a1, a2, a3, a4⟩ := T.2.2.2.2.1 d p' hp' h'
      rw [(q d e).2.1, (q d e).2.2.1, (q p' ep).2.1, (q p' ep).2.2.1]
      exact ⟨(q d e).1.mpr a1, (q p' ep).1.mpr a2, a3, a4⟩
  · by_cases es : s = c
    · subst es
      have eb : b' ≠ s := Ne.symm hsb
      rw [c2, c3, (q b' eb).2.1, (q b' eb).2.2.1] at h3
      have hb2 := (q b' eb).1.mp h2
      by_cases ebp : b' = p
      · subst ebp
        exact ⟨s, (c4 b' hb').mpr rfl, by rw [c2, c3]; exact sub_rf hn⟩
      · -- both parts have the new one: one lies in the other
        have hle : pL ms b' ≤ pL ms p := by
          by_cases hl : pL ms b' ≤ pL ms p
          · exact hl
          · exfalso
            have h5 : sub (pB ms b') (pL ms b') (pB ms p) (pL ms p) := sub_nest (pL_le T hb') o3 h3 (by omega)
            obtain ⟨d, hd, hd2⟩ := T.2.2.2.2.2.1 b' p hb' hp ebp hb2 o2 h5
            have h6 : sub b n (pB ms d) (pL ms d) := sub_tr (pL_le T hb') h3 hd2
            have := o4 d hd
            rw [mtB_iff.mpr (Or.inr h6)] at this
            cases this
        have h5 : sub (pB ms p) (pL ms p) (pB ms b') (pL ms b') := sub_nest (pL_le T hp) h3 o3 hle
        obtain ⟨d, hd, hd2⟩ := T.2.2.2.2.2.1 p b' hp hb' (fun z => ebp z.symm) o2 hb2 h5
        have ed : d ≠ s := fun z => notc b' hb' (by rw [← z]; exact hd)
        refine ⟨d, ((q d ed).2.2.2 b').mpr hd, ?_⟩
        rw [c2, c3, (q d ed).2.1, (q d ed).2.2.1]
        exact sub_tr (pL_le T hp) o3 hd2
    · have hs2 := (q s es).1.mp h1
      rw [(q s es).2.1, (q s es).2.2.1] at h3
      by_cases eb : b' = c
      · subst eb
        rw [c2, c3] at h3
        exact absurd h3 (hin s hs hs2)
      · rw [(q b' eb).2.1, (q b' eb).2.2.1] at h3
        obtain ⟨d, hd, hd2⟩ := T.2.2.2.2.2.1 s b' hs hb' hsb hs2 ((q b' eb).1.mp h2) h3
        have ed : d ≠ c := fun z => notc b' hb' (by rw [← z]; exact hd)
        refine ⟨d, ((q d ed).2.2.2 b').mpr hd, ?_⟩
        rw [(q s es).2.1, (q s es).2.2.1, (q d ed).2.1, (q d ed).2.2.1]
        exact hd2
  · have key : ∀ d, ch ms d p → mtB (pB ms d) (pL ms d) b n = false := o4
    by_cases e1 : d = c
    · subst e1
      have ep := (c4 p' hp').mp h1
      subst ep
      have e2 : d' ≠ d := Ne.symm h3
      rw [c2, c3, (q d' e2).2.1, (q d' e2).2.2.1]
      have := key d' (((q d' e2).2.2.2 p').mp h2)
      by_cases hm : mtB b n (pB ms d') (pL ms d') = true
      · rw [mtB_iff.mpr ((mtB_iff.mp hm).symm)] at this
        cases this
      · exact Bool.eq_false_iff.mpr hm
    · by_cases e2 : d' = c
      · subst e2
        have ep := (c4 p' hp').mp h2
        subst ep
        rw [c2, c3, (q d e1).2.1, (q d e1).2.2.1]
        exact key d (((q d e1).2.2.2 p').mp h1)
      · rw [(q d e1).2.1, (q d e1).2.2.1, (q d' e2).2.1, (q d' e2).2.2.1]
        exact T.2.2.2.2.2.2 d d' p' hp' (((q d e1).2.2.2 p').mp h1) (((q d' e2).2.2.2 p').mp h2) h3
end
/-! from 50.catch -/
section
/-! THE LAW'S HELPERS: a call that may throw, caught in the helper's own frame; the helper's contract -/
section RowsC
variable {p : Program} {l : Launch} {e : Env} {R : Room} {s : State} {m : MethodId} {args : Array Value} {below : List Frame} {meth : Method} {c : Code} {H : Heap} {locs : List Loc} {cells slots : Nat} {Q : State → Prop}
variable {mc ms : Nat} {free : Addr → Prop} {A0 A1 : Nat → Prop} {H0 : Heap} {a : Array Value} {pc : Nat} {ls : Array Slot} {st0 rest : List Value}
theorem vx_catch {own name : String} {E : String} {ce : Cell} {q : Addr} (hown : s.vm.findClass own = some m.cls) (pre : List ExceptionTableEntry) (x : ExceptionTableEntry) (suf : List ExceptionTableEntry) (hsplit : c.exceptionTable.toList = pre ++ x :: suf)
    (hpass : ∀ z ∈ pre, covers z pc = false ∨ (z.catchType ≠ 0 ∧ ∃ nm : String, (Cond.classLink own z.catchType nm).before args s = true ∧ va_Nc E nm s)) (hx : covers x pc = true) (h0 : x.catchType ≠ 0)
    (hlink : (Cond.classLink own x.catchType name).before args s = true) (hcast : (Cond.castable E name).before args s = true) (hcell : H[q]? = some ce) (hv : ce.vm = .none) (hcl : s.vm.findClass E = some ce.cls)
    (kk : W p l e R s m args below meth c H locs cells slots Q (F0 m x.handlerPc ls [.ref q])) : vx_W p l e R s m args below meth c H locs cells slots Q (F0 m pc ls rest) q := by
  intro T hT X
  have hpl : e.platform.magicAccessors = ({} : Platform).magicAccessors := by rw [X.admits.platform]
  obtain ⟨c3, c4, hc3, hc4, hasg⟩ := Cond.castable_spec hcast
  cases Option.some.inj (hc3.symm.trans hcl)
  obtain ⟨c5, hc5, hcl5⟩ := Cond.classLink_spec hown hlink e.platform hpl
  cases Option.some.inj (hc4.symm.trans hc5)
  obtain ⟨vm', X', st⟩ := Stand.thenCaughtThrough X q (g := F0 m pc ls rest) rfl (Steps.refl _) (by rw [hT]; exact hcell) (by rw [hv]; rfl) (by obtain ⟨k9, h9, -⟩ := Vm.findClass_spec hcl; exact ⟨k9, h9⟩) pre x suf hsplit
    (fun z hz => by
      rcases hpass z hz with h | ⟨hz0, nm, hl1, hn1⟩
      · exact Or.inl h
      · obtain ⟨c6, hc6, hcl6⟩ := Cond.classLink_spec hown hl1 e.platform hpl
        obtain ⟨a8, b8, h1, h2, h3⟩ := hn1
        cases Option.some.inj (h1.symm.trans hcl)
        cases Option.some.inj (h2.symm.trans hc6)
        exact Or.inr ⟨hz0, _, hcl6, h3⟩) hx (Or.inr ⟨h0, c4, hcl5, hasg⟩)
  obtain ⟨t, a1, b1⟩ := kk (T.setVm vm') hT X'
  exact ⟨t, st.trans a1, b1⟩
end RowsC
/-- what a helper leaves: its code, the heap; behind a throw the two counts have moved -/
def h_hp {α : Type} (cd : Nat → Option Int32) (wr : α → HS → Option HS) (r : Except Nat α) (σ1 : HS) (c : Int32) (σ2 : HS) : Prop := match r with
  | .ok v => c = 0 ∧ wr v σ1 = some σ2
  | .error k => cd k = some c ∧ ∃ z w, h_sz σ1 ≤ z ∧ z ≤ h_sz σ1 + 1 ∧ w ≤ h_sl σ1 + 6 ∧ σ2 = h_bump σ1 z w
def h_EY (bs : Nat) (U : State) : Prop := h_EX bs U ∧ va_Nc (h_exn 1) (h_exn 2) U
theorem h_EY.same {bs : Nat} {u U : State} (hv : U.vm = u.vm) (hh : U.heap = u.heap) (h : h_EY bs u) : h_EY bs U := ⟨h_EX.same hv hh h.1, va_Nc.moved (by rw [hv]; exact Vm.Alike.refl _) h.2⟩
theorem h_EY.on {bs : Nat} {s U : State} {locs : List Loc} (hW : s.WarmedH U.vm) (hS : va_S (fun q => bs ≤ q) s.heap U.heap locs) (h : h_EY bs s) : h_EY bs U := ⟨h_EX.on hW hS h.1, va_Nc.moved hW.alike h.2⟩
def h_PcY (D : va_G) (dA : Nat → ClassId) (bs : Nat) (σ : HS) (av : List Value) : Array Value → State → Prop := va_Pc av (fun U => hG D dA bs σ U.heap ∧ h_K D dA U ∧ bs ≤ U.heap.size ∧ h_EY bs U)
theorem h_blindY {D : va_G} {dA : Nat → ClassId} {bs : Nat} {σ : HS} {av : List Value} : FrameBlind (h_PcY D dA bs σ av) := fun a U g mk q => ⟨q.1, q.2.1, h_K.moved (u := U) (U := U.calling g mk a) (Vm.Alike.refl U.vm) q.2.2.1, q.2.2.2.1, h_EY.same (u := U) (U := U.calling g mk a) rfl rfl q.2.2.2.2⟩
def h_QH (D : va_G) (dA : Nat → ClassId) (bs : Nat) (P : Int32 → HS → Prop) (σ : HS) : Array Value → State → Outcome → State → Prop := fun a st o t => ∃ x σ2, P x σ2 ∧ h_Q D dA bs (some (.int x)) σ σ2 a st o t
def MetH (l : Launch) (y : MethodName) (cc : ByteArray) (maxL : Nat) (hh : List (Nat × Nat × Nat × Nat)) (F L : Nat) (D : va_G) (dA : Nat → ClassId) (bs : Nat) (av : List Value) (P : Int32 → HS → Prop) (σ : HS) : Prop :=
  Met l y (Cond.codeWith y cc maxL (some .int) hh :: h_ws) (h_rm F L σ) (h_PcY D dA bs σ av) (h_QH D dA bs P σ) (h_cz σ - h_sz σ) (h_ck σ - h_sl σ) (fun q => bs ≤ q)
theorem h_goodInW {y : MethodName} {cc : ByteArray} {maxL : Nat} {ret : Option FieldType} {hh : List (Nat × Nat × Nat × Nat)} (h : Cond.codeWith y cc maxL ret hh ∈ h_ws) : GoodIn h_ws (Cond.codeWith y cc maxL ret hh :: h_ws) := by
  intro w hw
  rcases List.mem_cons.mp hw with e | e
  · rw [e]; exact ⟨h, good_of_word (h_ws_good _ h)⟩
  · exact ⟨e, good_of_word (h_ws_good _ e)⟩
/-- the words of a helper's call -/
def h_MH (own : String) (idx : Nat) (y : MethodName) (bytes : ByteArray) (maxL : Nat) (hh : List (Nat × Nat × Nat × Nat)) (n : Nat) : Prop := h_MY y n ∧ Cond.methodLink own idx y ∈ h_ws ∧ Cond.static y ∈ h_ws ∧ Cond.initialized y.cls ∈ h_ws ∧ Cond.codeWith y bytes maxL (some .int) hh ∈ h_ws
section HH
variable {p : Program} {l : Launch} {e : Env} {R : Room} {s : State} {m : MethodId} {args : Array Value} {below : List Frame} {meth : Method} {c : Code} {D : va_G} {dA : Nat → ClassId} {bs nL : Nat} {Q : State → Prop} {cc : ByteArray} {own : String} {σ σ' : HS} {pc : Nat} {lv : List (Nat × Value)} {rest st0 : List Value}
theorem h_preX {H : Heap} {locs : List Loc} {ls : Array Slot} {av : List Value} (C : h_C p m c cc nL s args own D dA) (hE : h_EX bs s) (I : h_I R s D dA bs nL σ lv H locs ls) : ∀ U : State, U.heap = H → s.WarmedH U.vm → h_PcX D dA bs σ av av.toArray U := by
  intro U hU hW
  refine ⟨rfl, by rw [hU]; exact I.1, h_K.moved hW.alike C.2, ?_, h_EX.on (locs := locs) hW (by rw [hU]; exact I.2.1) hE⟩
  rw [hU]
  exact Nat.le_trans I.2.2.2.2.2 I.2.1.1
theorem h_preY {H : Heap} {locs : List Loc} {ls : Array Slot} {av : List Value} (C : h_C p m c cc nL s args own D dA) (hE : h_EY bs s) (I : h_I R s D dA bs nL σ lv H locs ls) : ∀ U : State, U.heap = H → s.WarmedH U.vm → h_PcY D dA bs σ av av.toArray U := by
  intro U hU hW
  refine ⟨rfl, by rw [hU]; exact I.1, h_K.moved hW.alike C.2, ?_, h_EY.on (locs := locs) hW (by rw [hU]; exact I.2.1) hE⟩
  rw [hU]
  exact Nat.le_trans I.2.2.2.2.2 I.2.1.1
theorem h_I_next {H : Heap} {locs L : List Loc} {ls : Array Slot} {σ2 : HS} {st₀ t T' : State} (I : h_I R s D dA bs nL σ lv H locs ls) (h0 : st₀.heap = H) (e1 : T'.heap = t.heap) (hg' : hG D dA bs σ2 t.heap) (hF' : va_F (fun q => bs ≤ q) st₀ t) (hcz : h_cz σ2 = h_cz σ) (hck : h_ck σ2 = h_ck σ) (hL : ∀ q ∈ L, bs ≤ q.base) : h_I R s D dA bs nL σ2 lv T'.heap (locs ++ L) ls := by
  rw [← e1] at hg'
  have hz : st₀.heap.size ≤ t.heap.size := hF'.1
  have hk := hF'.2
  rw [h0] at hz hk
  refine ⟨hg', ⟨Nat.le_trans I.2.1.1 (by rw [e1]; exact hz), fun q h1 h2 => ?_, fun q hq => ?_⟩, I.2.2.1, by rw [hcz]; exact I.2.2.2.1, by rw [hck]; exact I.2.2.2.2.1, I.2.2.2.2.2⟩
  · rw [e1, hk q (Nat.lt_of_lt_of_le h1 I.2.1.1) h2]
    exact I.2.1.2.1 q h1 h2
  · rcases List.mem_append.mp hq with h | h
    · exact I.2.1.2.2 q h
    · exact hL q h
theorem V_cX (C : h_C p m c cc nL s args own D dA) {idx t maxL n F L a : Nat} {y : MethodName} {bytes : ByteArray} {ret : Option FieldType} {res : Except Nat (Option Value)} {As : List Value} {r : Option Nat} (ml : h_MV own idx t y bytes maxL ret n) (hM : MetX l y bytes maxL ret F L D dA bs (va_rf r :: As) res σ σ') (hE : h_EX bs s) (hr : h_rcv σ r t = some a) (hn : As.length = n) (hst : st0 = As.reverse ++ va_rf r :: rest) (hW : (rest.map fun v => v.category).sum ≤ 8) (hF : F + 1 ≤ R.frames) (hL : 8 + (maxL + 11) + L ≤ R.locals) (d : decode cc pc = .ok (.invokevirtual idx, 3))
    (kok : ∀ rv, res = .ok rv → V p l e R s m args below meth c D dA bs nL Q σ' (pc + 3) lv (rv.toList ++ rest))
    (kex : ∀ k, res = .error k → ∃ (pre : List ExceptionTableEntry) (x : ExceptionTableEntry) (suf : List ExceptionTableEntry) (name : String), c.exceptionTable.toList = pre ++ x :: suf ∧ (∀ z ∈ pre, covers z pc = false ∨ (z.catchType ≠ 0 ∧ ∃ nm : String, (Cond.classLink own z.catchType nm).before args s = true ∧ va_Nc (h_exn k) nm s)) ∧ covers x pc = true ∧ x.catchType ≠ 0 ∧ (Cond.classLink own x.catchType name).before args s = true ∧ (Cond.castable (h_exn k) name).before args s = true ∧
      ∀ z w q, h_sz σ' ≤ z → z ≤ h_sz σ' + 1 → w ≤ h_sl σ' + 6 → V p l e R s m args below meth c D dA bs nL Q (h_bump σ' z w) x.handlerPc lv [va_rf (some q)]) : V p l e R s m args below meth c D dA bs nL Q σ pc lv st0 := by
  obtain ⟨⟨T, N, hc⟩, hy, w1, w2, w3, w4⟩ := ml
  obtain ⟨rfl, hta⟩ := h_rcv_some hr
  have hts := C.1.2.2.2.2
  intro H locs ls I T0 hT X
  have hge : slotSum s.heap ≤ slotSum H := by rw [← hT]; exact h_sumge X
  have hrun : vx_Run p l e R s m args below meth c H locs (H.size - s.heap.size) (slotSum H - slotSum s.heap) (h_cz σ - h_sz σ) (h_ck σ - h_sl σ) (F0 m pc ls st0) rest (h_QX D dA bs res σ σ' (Value.ref a :: As).toArray) (h_XC D dA bs res σ σ') (fun q => bs ≤ q) := by
    refine vx_runV (C := y.cls) (bytes := bytes) (maxL := maxL) (ret := ret) (n := n) (b := a) C.1 hM ⟨callB_of n hts (h_goodIn w4) rfl rfl rfl (hts _ hc.2.2.2.2.2.1) (hts _ w1) hy ⟨hF, hL⟩, hts _ w2, hts _ w3⟩ ⟨h_blindX, ?_, h_preX C hE I⟩ rfl hn I.2.2.1.1.1 hst (lv_room hW) d (h_fit I hge)
    exact va_recv C.2.1 (h_ob I.1 hc hta) hc.2.2.1 (q0 := 0) rfl
  rcases hrun T0 hT X with ⟨v, st₀, t, T', L', h0, X', hL', e1, e2, hq, st⟩ | ⟨q, st₀, t, T', L', E, ce, h0, X', hL', e1, e2, hq, hce, hcv, hcl, st⟩
  · cases res with
    | error k => exact hq.elim
    | ok rv =>
      obtain ⟨ho, hg', hF', hcz, hck⟩ := hq
      cases ho
      obtain ⟨t2, a1, b1⟩ := W.tight (kok v rfl T'.heap _ ls (h_I_next I h0 e1 hg' hF' hcz hck hL')) T' rfl X'
      exact ⟨t2, st t2 a1, b1⟩
  · cases res with
    | ok rv => exact hq.elim
    | error k =>
      obtain ⟨rfl, b1, b2, b3, hg', hF', hcz, hck⟩ := hq
      obtain ⟨pre, x, suf, name, x1, x2, x3, x4, x5, x6, kk⟩ := kex k rfl
      have I' := h_I_next I h0 e1 hg' hF' hcz hck hL'
      have K := vx_catch (l := l) (R := R) (Q := Q) (e := e) (p := p) (below := below) (meth := meth) (locs := locs ++ L') (cells := H.size - s.heap.size + (h_cz σ - h_sz σ)) (slots := slotSum H - slotSum s.heap + (h_ck σ - h_sl σ)) (pc := pc) (ls := ls) (rest := rest) (H := T'.heap) C.1.2.2.2.1 pre x suf x1 x2 x3 x4 x5 x6 (by rw [e1]; exact hce) hcv hcl (W.tight (kk _ _ q b3 b1 b2 T'.heap _ ls I'))
      obtain ⟨t2, a1, c1⟩ := K T' rfl X'
      exact ⟨t2, st.trans a1, c1⟩
/-- the call of a helper -/
theorem V_cH (C : h_C p m c cc nL s args own D dA) {idx maxL n F L : Nat} {y : MethodName} {bytes : ByteArray} {hh : List (Nat × Nat × Nat × Nat)} {P : Int32 → HS → Prop} {As : List Value} (ml : h_MH own idx y bytes maxL hh n) (hM : MetH l y bytes maxL hh F L D dA bs As P σ) (hE : h_EY bs s) (hn : As.length = n) (hst : st0 = As.reverse ++ rest) (hW : (rest.map fun v => v.category).sum ≤ 8) (hF : F + 1 ≤ R.frames) (hL : 8 + (maxL + 11) + L ≤ R.locals) (d : decode cc pc = .ok (.invokestatic idx, 3))
    (kk : ∀ x σ2, P x σ2 → V p l e R s m args below meth c D dA bs nL Q σ2 (pc + 3) lv (.int x :: rest)) : V p l e R s m args below meth c D dA bs nL Q σ pc lv st0 := by
  obtain ⟨hy, w1, w2, w3, w4⟩ := ml
  have hts := C.1.2.2.2.2
  intro H locs ls I T0 hT X
  have hge : slotSum s.heap ≤ slotSum H := by rw [← hT]; exact h_sumge X
  have hgd : GoodIn h_ws (va_wsS own idx y (Cond.codeWith y bytes maxL (some .int) hh :: h_ws)) := by
    intro w hw
    rcases List.mem_append.mp hw with h | h
    · simp only [List.mem_cons, List.mem_nil_iff, or_false] at h
      rcases h with rfl | rfl | rfl
      · exact ⟨w1, good_of_word (h_ws_good _ w1)⟩
      · exact ⟨w2, good_of_word (h_ws_good _ w2)⟩
      · exact ⟨w3, good_of_word (h_ws_good _ w3)⟩
    · exact h_goodInW w4 w h
  have hrun := vx_runSW (p := p) (e := e) (R := R) (below := below) (meth := meth) (H := H) (locs := locs) (cells := H.size - s.heap.size) (slots := slotSum H - slotSum s.heap) (g := F0 m pc ls st0) (rest := rest) (n := n) C.1 hM (vx_cwSW (hh := hh) n hts hgd rfl rfl rfl hy ⟨hF, hL⟩) ⟨h_blindY, h_preY C hE I⟩ rfl hn I.2.2.1.1.1 hst (lv_room hW) d (h_fit I hge)
  obtain ⟨v, st₀, t, T', L', h0, X', hL', e1, e2, ⟨x, σ2, hP, ho, hg', hF', hcz, hck⟩, st⟩ := hrun T0 hT X
  cases ho
  obtain ⟨t2, a1, b1⟩ := W.tight (kk x σ2 hP T'.heap _ ls (h_I_next I h0 e1 hg' hF' hcz hck hL')) T' rfl X'
  exact ⟨t2, st t2 a1, b1⟩
theorem V_hret {σ0 σ2 : HS} {x : Int32} {P : Int32 → HS → Prop} (hP : P x σ2) (h : V p l e R s m args below meth c D dA bs nL (MQ below (h_Q D dA bs (some (.int x)) σ0 σ2) args s R.cells R.slots (fun q => bs ≤ q)) σ pc lv st0) : V p l e R s m args below meth c D dA bs nL (MQ below (h_QH D dA bs P σ0) args s R.cells R.slots (fun q => bs ≤ q)) σ pc lv st0 := fun H locs ls I T hT X => by
  obtain ⟨t, a1, o, b1, b2, b3, b4⟩ := h H locs ls I T hT X
  exact ⟨t, a1, o, b1, b2, ⟨x, σ2, hP, b3⟩, b4⟩
end HH
theorem MetH.of {l : Launch} {y : MethodName} {cc : ByteArray} {maxL : Nat} {hh : List (Nat × Nat × Nat × Nat)} {F L : Nat} {D : va_G} {dA : Nat → ClassId} {bs : Nat} {av : List Value} {P : Int32 → HS → Prop} {σ : HS} (hy : plainName y.cls = true) (hav : ∀ v ∈ av, v.category = 1) (hlen : av.length ≤ maxL)
    (body : ∀ (p : Program) (e : Env) (R : Room) (s : State) (m : MethodId) (args : Array Value) (below : List Frame) (meth : Method) (c : Code), h_C p m c cc maxL s args y.cls D dA → h_B R s meth σ (some .int) F L → h_EY bs s → c.exceptionTable.toList = tableOf hh →
      V p l e R s m args below meth c D dA bs maxL (MQ below (h_QH D dA bs P σ) args s R.cells R.slots (fun q => bs ≤ q)) σ 0 (h_args 0 av) []) : MetH l y cc maxL hh F L D dA bs av P σ := by
  refine va_MetW (cc := cc) (maxL := maxL) (ret := some .int) (hh := hh) hy rfl ?_
  intro p e s m args below meth c s₁ B hml hv
  obtain ⟨rfl, hg, hK, hb, hE⟩ := hv
  have hts := atoms_spec (ws := Cond.codeWith y cc maxL (some .int) hh :: h_ws) B.pre
  have htb := vx_table (x := y) B (hts _ List.mem_cons_self)
  have hown : s.vm.findClass y.cls = some m.cls := findClass_of_methodNamed B.named
  have hz : s.heap.size = h_sz σ := hg.1
  have hs : slotSum s.heap = h_sl σ := hg.2.1
  have h3 : h_sz σ ≤ h_cz σ := hg.2.2.1
  have h4 : h_sl σ ≤ h_ck σ := hg.2.2.2.1
  have hl := lv_entry av (n := maxL) (by rw [h_sl_len av hav]; exact hlen)
  rw [lg_entry_eq]
  generalize (lg_sl av ++ List.replicate (maxL - (lg_sl av).length) Slot.unset).toArray = ls at hl ⊢
  have c1 : s.heap.size + (headSpec (Cond.codeWith y cc maxL (some .int) hh :: h_ws) (h_rm F L σ)).room.cells = h_cz σ := by
    show s.heap.size + (h_cz σ - h_sz σ) = h_cz σ
    omega
  have c2 : slotSum s.heap + (headSpec (Cond.codeWith y cc maxL (some .int) hh :: h_ws) (h_rm F L σ)).room.slots = h_ck σ := by
    show slotSum s.heap + (h_ck σ - h_sl σ) = h_ck σ
    omega
  have hV := body p e (headSpec (Cond.codeWith y cc maxL (some .int) hh :: h_ws) (h_rm F L σ)).room s m av.toArray below meth c ⟨⟨B.exec, B.bytes, hml, hown, fun w hw => hts w (List.mem_cons_of_mem _ hw)⟩, hK⟩ ⟨B.returns, B.notSynchronized, c1, c2, rfl, rfl⟩ hE htb
  refine W.tight (hV s.heap [] ls ⟨hg, va_S.rf, ⟨by rw [← h_args_eq av 0 hav]; exact hl, h_args_c1 av 0 hav⟩, c1, c2, hb⟩)
end
