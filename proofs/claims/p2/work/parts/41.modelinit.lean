/-! THE REFERENCE'S CONSTRUCTOR -/
def kA (m k : Nat) : Nat := m + 1 + (if k ≤ 24 then k - 3 else if k ≤ 27 then k - 4 else if k ≤ 35 then k - 5 else k - 6)
/-- j of its arrays are there, w places in them -/
def NI (σ0 σ : HS) (m j w : Nat) : Prop := h_tg σ m = 11 ∧ h_sz σ = m + 1 + j ∧ h_sl σ = h_sl σ0 + w ∧ h_cz σ = h_cz σ0 ∧ h_ck σ = h_ck σ0 ∧ (∀ k, k < 43 → k_tag k ≠ 0 → kA m k < m + 1 + j → h_rv σ m k = some (kA m k) ∧ h_tg σ (kA m k) = k_tag k ∧ h_ln σ (kA m k) = k_len k) ∧
  (∀ a, m ≤ a → ∀ i, h_iv σ a i = (if a = m ∧ i = 2 then 1 else 0) ∧ h_lv σ a i = 0) ∧ (∀ a, m + 1 + j ≤ a → h_tg σ a = h_tg σ0 a) ∧ ∀ a, a < m → h_tg σ a = h_tg σ0 a ∧ h_ln σ a = h_ln σ0 a ∧ ∀ i, h_iv σ a i = h_iv σ0 a i ∧ h_rv σ a i = h_rv σ0 a i ∧ h_lv σ a i = h_lv σ0 a i
theorem kA_inj {m k k' : Nat} (hk : k < 43) (hk' : k' < 43) (h1 : k_tag k ≠ 0) (h2 : k_tag k' ≠ 0) (h : kA m k = kA m k') : k = k' := by
  have : ∀ k, k < 43 → ∀ k', k' < 43 → k_tag k ≠ 0 → k_tag k' ≠ 0 → (if k ≤ 24 then k - 3 else if k ≤ 27 then k - 4 else if k ≤ 35 then k - 5 else k - 6) = (if k' ≤ 24 then k' - 3 else if k' ≤ 27 then k' - 4 else if k' ≤ 35 then k' - 5 else k' - 6) → k = k' := by decide +kernel
  refine this k hk k' hk' h1 h2 ?_
  unfold kA at h
  omega
theorem k_tag_lt {k : Nat} (h : k_tag k ≠ 0) : k < 43 := by
  by_cases hk : k < 43
  · exact hk
  · exfalso
    apply h
    unfold k_tag
    rw [List.getD_eq_getElem?_getD, List.getElem?_eq_none (by simp only [List.length_cons, List.length_nil]; omega)]
    rfl
theorem NI_step {σ0 σ : HS} {m j w k n t : Nat} {len : Int32} (I : NI σ0 σ m j w) (hk : k < 43) (hkA : kA m k = m + 1 + j) (ht : k_tag k = t) (ht0 : t ≠ 0) (hn : k_len k = n) (hl : len = nI n) (hn2 : n ≤ 60000000) (hz : m + 1 + j + 1 ≤ h_cz σ0) (hs : h_sl σ0 + (w + n) ≤ h_ck σ0) :
    ∃ σ1 σ2, h_mkA σ t len = some (some (m + 1 + j), σ1) ∧ h_pR σ1 (some m) 11 k (some (m + 1 + j)) = some σ2 ∧ NI σ0 σ2 m (j + 1) (w + n) := by
  obtain ⟨i1, i2, i3, i4, i5, i6, i7, i9, i8⟩ := I
  subst hl
  have e1 : h_mkA σ t (nI n) = some (some (m + 1 + j), h_push σ t n n) := by
    unfold h_mkA
    rw [nI_clamp (by omega), if_pos ⟨nI_pos (by omega), hn2, by rw [i2, i4]; exact hz, by rw [i3, i5]; omega⟩, i2]
  have hm : h_tg (h_push σ t n n) m = 11 := by
    show va_up (h_tg σ) (h_sz σ) t m = 11
    rw [va_up_ne _ _ (by rw [i2]; omega)]; exact i1
  refine ⟨_, h_setR (h_push σ t n n) m k (some (m + 1 + j)), e1, pR_s hm, ?_⟩
  have tgE : ∀ a, h_tg (h_setR (h_push σ t n n) m k (some (m + 1 + j))) a = if a = m + 1 + j then t else h_tg σ a := by
    intro a
    show va_up (h_tg σ) (h_sz σ) t a = _
    rw [i2]; rfl
  have lnE : ∀ a, h_ln (h_setR (h_push σ t n n) m k (some (m + 1 + j))) a = if a = m + 1 + j then n else h_ln σ a := by
    intro a
    show va_up (h_ln σ) (h_sz σ) n a = _
    rw [i2]; rfl
  have ivE : ∀ a i, h_iv (h_setR (h_push σ t n n) m k (some (m + 1 + j))) a i = if a = m + 1 + j then 0 else h_iv σ a i := by
    intro a i
    show h_upA (h_iv σ) (h_sz σ) (fun _ => 0) a i = _
    rw [i2]; rfl
  have lvE : ∀ a i, h_lv (h_setR (h_push σ t n n) m k (some (m + 1 + j))) a i = if a = m + 1 + j then 0 else h_lv σ a i := by
    intro a i
    show h_upA (h_lv σ) (h_sz σ) (fun _ => 0) a i = _
    rw [i2]; rfl
  have rvE : ∀ a i, h_rv (h_setR (h_push σ t n n) m k (some (m + 1 + j))) a i = if a = m ∧ i = k then some (m + 1 + j) else if a = m + 1 + j then none else h_rv σ a i := by
    intro a i
    show h_up2 (h_upA (h_rv σ) (h_sz σ) (fun _ => none)) m k (some (m + 1 + j)) a i = _
    rw [i2]; rfl
  refine ⟨by rw [tgE, if_neg (by omega)]; exact i1, ?_, ?_, i4, i5, fun k' hk' ht' hlt => ?_, fun a ha i => ?_, fun a ha => by rw [tgE, if_neg (by omega)]; exact i9 a (by omega), fun a ha => ?_⟩
  · show h_sz σ + 1 = _
    rw [i2]; omega
  · show h_sl σ + n = _
    rw [i3]; omega
  · by_cases hkk : k' = k
    · subst hkk
      rw [tgE, lnE, rvE, hkA, if_pos ⟨rfl, rfl⟩, if_pos rfl, if_pos rfl]
      exact ⟨rfl, ht.symm, hn.symm⟩
    · have hne : kA m k' ≠ m + 1 + j := fun e => hkk (kA_inj hk' hk ht' (by rw [ht]; exact ht0) (e.trans hkA.symm))
      obtain ⟨a1, a2, a3⟩ := i6 k' hk' ht' (by omega)
      rw [tgE, lnE, rvE, if_neg (fun z => hkk z.2), if_neg (by omega), if_neg hne, if_neg hne]
      exact ⟨a1, a2, a3⟩
  · rw [ivE, lvE]
    by_cases ea : a = m + 1 + j
    · rw [if_pos ea, if_pos ea, if_neg (by omega)]; exact ⟨rfl, rfl⟩
    · rw [if_neg ea, if_neg ea]; exact i7 a ha i
  · obtain ⟨b1, b2, b3⟩ := i8 a ha
    refine ⟨by rw [tgE, if_neg (by omega)]; exact b1, by rw [lnE, if_neg (by omega)]; exact b2, fun i => ?_⟩
    rw [ivE, lvE, rvE, if_neg (by omega), if_neg (by omega), if_neg (by omega), if_neg (by omega)]
    exact b3 i
def ms00 : MS := (fun k => if k = 2 then 1 else 0, fun _ _ => 0, fun _ => 0)
theorem NI_MV {σ0 σ : HS} {m w : Nat} (I : NI σ0 σ m 33 w) : MV σ m (kA m) ms00 := by
  obtain ⟨i1, i2, i3, i4, i5, i6, i7, i9, i8⟩ := I
  have hlt : ∀ k, k_tag k ≠ 0 → m < kA m k ∧ kA m k < m + 1 + 33 := by
    intro k hk
    have h43 := k_tag_lt hk
    unfold kA
    have : ∀ k, k < 43 → (if k ≤ 24 then k - 3 else if k ≤ 27 then k - 4 else if k ≤ 35 then k - 5 else k - 6) < 37 := by decide +kernel
    have h2 : ∀ k, k < 43 → k_tag k ≠ 0 → (if k ≤ 24 then k - 3 else if k ≤ 27 then k - 4 else if k ≤ 35 then k - 5 else k - 6) < 33 := by decide +kernel
    have := h2 k h43 hk
    omega
  refine ⟨i1, fun k hk => i6 k (k_tag_lt hk) hk (hlt k hk).2, fun k k' h1 h2 e => kA_inj (k_tag_lt h1) (k_tag_lt h2) h1 h2 e, fun k hk => ?_, fun k hk j => ?_, fun j => ?_⟩
  · rw [(i7 m (Nat.le_refl m) k).1]
    show _ = if k = 2 then (1 : Int32) else 0
    by_cases h : k = 2
    · rw [if_pos ⟨rfl, h⟩, if_pos h]
    · rw [if_neg (fun z => h z.2), if_neg h]
  · have := hlt k hk
    rw [(i7 (kA m k) (by omega) j).1, if_neg (by omega)]; rfl
  · have := hlt 13 (by decide)
    rw [(i7 (kA m 13) (by omega) j).2]; rfl
section INI
variable {σ0 : HS} {m : Nat} {A : Nat → Nat}
theorem ini_s {σ : HS} {ms : MS} {k t i : Nat} {v : Int32} (V : MV σ m A ms) (hk : k_tag k ≠ 0) (ht : k_tag k = t) (hi : i < k_len k) : h_gR σ (some m) 11 k = some (some (A k)) ∧ h_sI σ (some (A k)) t (nI i) v = some (h_setI σ (A k) i v) := by
  obtain ⟨a1, a2, a3⟩ := V.2.1 k hk
  refine ⟨by rw [gR_s V.1, a1], sI_s (n := k_len k) (by rw [a2]; exact ht) a3 hi (k_len_lt k)⟩
theorem ini_347 : ∀ (c n i : Nat) (σ : HS) (ms : MS), MV σ m A ms → MF σ0 σ m A → i + c = 16 → c < n → ∃ σ', g_X10_init_347 n σ (some m) (nI i) = some ((), σ') ∧ MV σ' m A (fo (fun i q => aS q 26 i (-1)) i c ms) ∧ MF σ0 σ' m A
  | 0, n, i, σ, ms, V, F, h1, h2 => by
    obtain ⟨n', rfl⟩ : ∃ n', n = n' + 1 := ⟨n - 1, by omega⟩
    refine ⟨σ, ?_, V, F⟩
    rw [g_X10_init_347, show i = 16 by omega, show (16 : Int32) = nI 16 from rfl, if_pos (Int32.le_refl _)]
  | c + 1, n, i, σ, ms, V, F, h1, h2 => by
    obtain ⟨n', rfl⟩ : ∃ n', n = n' + 1 := ⟨n - 1, by omega⟩
    obtain ⟨e1, e2⟩ := ini_s (v := -1) V (k := 26) (t := 100) (i := i) (by decide) (by decide) (show i < 16 by omega)
    obtain ⟨σ', r1, r2, r3⟩ := ini_347 c n' (i + 1) _ _ (MV_sI (k := 26) (j := i) (v := -1) V (by decide)) (MF_I F (Or.inr ⟨26, by decide, rfl⟩)) (by omega) (by omega)
    refine ⟨σ', ?_, r2, r3⟩
    rw [g_X10_init_347, if_neg (show ¬ (16 : Int32) ≤ nI i from nI_ge (b := 16) (by omega) (by omega)), e1, h_b1_s, e2, h_b1_s, nI_1]
    exact r1
theorem ini_324 : ∀ (c n i : Nat) (σ : HS) (ms : MS), MV σ m A ms → MF σ0 σ m A → i + c = 64 → c < n → ∃ σ', g_X10_init_324 n σ (some m) (nI i) = some ((), σ') ∧ MV σ' m A (fo (fun i q => aS q 26 i (-1)) 0 16 (fo (fun i q => lS q i (-3000000000)) i c ms)) ∧ MF σ0 σ' m A
  | 0, n, i, σ, ms, V, F, h1, h2 => by
    obtain ⟨n', rfl⟩ : ∃ n', n = n' + 1 := ⟨n - 1, by omega⟩
    obtain ⟨σ', r1, r2, r3⟩ := ini_347 (σ0 := σ0) 16 h_hN 0 σ ms V F (by omega) (h_hN_lt (by omega))
    refine ⟨σ', ?_, r2, r3⟩
    rw [g_X10_init_324, show i = 64 by omega, show (64 : Int32) = nI 64 from rfl, if_pos (Int32.le_refl _)]
    exact r1
  | c + 1, n, i, σ, ms, V, F, h1, h2 => by
    obtain ⟨n', rfl⟩ : ∃ n', n = n' + 1 := ⟨n - 1, by omega⟩
    obtain ⟨a1, a2, a3⟩ := V.2.1 13 (by decide)
    have e1 : h_gR σ (some m) 11 13 = some (some (A 13)) := by rw [gR_s V.1, a1]
    have e2 : h_sL σ (some (A 13)) 101 (nI i) (-3000000000) = some (h_setL σ (A 13) i (-3000000000)) := sL_s (n := 64) a2 a3 (by omega) (by omega)
    obtain ⟨σ', r1, r2, r3⟩ := ini_324 c n' (i + 1) _ _ (MV_sL (j := i) (v := -3000000000) V) (MF_L F ⟨13, by decide, rfl⟩) (by omega) (by omega)
    refine ⟨σ', ?_, r2, r3⟩
    rw [g_X10_init_324, if_neg (show ¬ (64 : Int32) ≤ nI i from nI_ge (b := 64) (by omega) (by omega)), e1, h_b1_s, e2, h_b1_s, nI_1]
    exact r1
theorem ini_296 : ∀ (c n i : Nat) (σ : HS) (ms : MS), MV σ m A ms → MF σ0 σ m A → i + c = 8 → c < n → ∃ σ', g_X10_init_296 n σ (some m) (nI i) = some ((), σ') ∧ MV σ' m A (fo (fun i q => aS q 26 i (-1)) 0 16 (fo (fun i q => lS q i (-3000000000)) 0 64 (fo (fun i q => aS (aS q 6 i (-1)) 14 i (-1)) i c ms))) ∧ MF σ0 σ' m A
  | 0, n, i, σ, ms, V, F, h1, h2 => by
    obtain ⟨n', rfl⟩ : ∃ n', n = n' + 1 := ⟨n - 1, by omega⟩
    obtain ⟨σ', r1, r2, r3⟩ := ini_324 (σ0 := σ0) 64 h_hN 0 σ ms V F (by omega) (h_hN_lt (by omega))
    refine ⟨σ', ?_, r2, r3⟩
    rw [g_X10_init_296, show i = 8 by omega, show (8 : Int32) = nI 8 from rfl, if_pos (Int32.le_refl _)]
    exact r1
  | c + 1, n, i, σ, ms, V, F, h1, h2 => by
    obtain ⟨n', rfl⟩ : ∃ n', n = n' + 1 := ⟨n - 1, by omega⟩
    obtain ⟨e1, e2⟩ := ini_s (v := -1) V (k := 6) (t := 100) (i := i) (by decide) (by decide) (show i < 8 by omega)
    have V1 := MV_sI (k := 6) (j := i) (v := -1) V (by decide)
    obtain ⟨e3, e4⟩ := ini_s (v := -1) V1 (k := 14) (t := 100) (i := i) (by decide) (by decide) (show i < 8 by omega)
    obtain ⟨σ', r1, r2, r3⟩ := ini_296 c n' (i + 1) _ _ (MV_sI (k := 14) (j := i) (v := -1) V1 (by decide)) (MF_I (MF_I F (Or.inr ⟨6, by decide, rfl⟩)) (Or.inr ⟨14, by decide, rfl⟩)) (by omega) (by omega)
    refine ⟨σ', ?_, r2, r3⟩
    rw [g_X10_init_296, if_neg (show ¬ (8 : Int32) ≤ nI i from nI_ge (b := 8) (by omega) (by omega)), e1, h_b1_s, e2, h_b1_s, e3, h_b1_s, e4, h_b1_s, nI_1]
    exact r1
end INI
/-- the numbers of a new one -/
def ms0 : MS := fo (fun i q => aS q 26 i (-1)) 0 16 (fo (fun i q => lS q i (-3000000000)) 0 64 (fo (fun i q => aS (aS q 6 i (-1)) 14 i (-1)) 0 8 (aS ms00 3 0 1)))

/-- the constructor: from a fresh object m at the heap's end -/
theorem model_init {σ0 : HS} {m : Nat} (hz : h_sz σ0 = m + 1) (ht : h_tg σ0 m = 11) (hv : ∀ a, m ≤ a → ∀ i, h_iv σ0 a i = 0 ∧ h_lv σ0 a i = 0) (hc : m + 34 ≤ h_cz σ0) (hk : h_sl σ0 + 4295 ≤ h_ck σ0) :
    ∃ σ, f_X10_init σ0 (some m) = some ((), σ) ∧ MV σ m (kA m) ms0 ∧ h_sz σ = m + 34 ∧ h_sl σ = h_sl σ0 + 4295 ∧ h_cz σ = h_cz σ0 ∧ h_ck σ = h_ck σ0 ∧ (∀ a, m + 34 ≤ a → h_tg σ a = h_tg σ0 a) ∧ ∀ a, a < m → h_tg σ a = h_tg σ0 a ∧ h_ln σ a = h_ln σ0 a ∧ ∀ i, h_iv σ a i = h_iv σ0 a i ∧ h_rv σ a i = h_rv σ0 a i ∧ h_lv σ a i = h_lv σ0 a i := by
  unfold f_X10_init
  rw [h_b1_s, pI_s ht, h_b1_s]
  have I0 : NI σ0 (h_setI σ0 m 2 1) m 0 0 := by
    refine ⟨ht, hz, rfl, rfl, rfl, fun k hk2 ht2 hlt => absurd hlt (by unfold kA; omega), fun a ha i => ⟨?_, (hv a ha i).2⟩, fun _ _ => rfl, fun a ha => ⟨rfl, rfl, fun i => ⟨?_, rfl, rfl⟩⟩⟩
    · show h_up2 (h_iv σ0) m 2 1 a i = _
      unfold h_up2
      rw [(hv a ha i).1]
    · show h_up2 (h_iv σ0) m 2 1 a i = _
      unfold h_up2
      rw [if_neg (by omega)]
  obtain ⟨a1, b1, u1, v1, I1⟩ := NI_step I0 (k := 3) (n := 8) (t := 102) (len := 8) (by decide) rfl (by decide) (by decide) (by decide) rfl (by decide) (by omega) (by omega)
  replace I1 : NI σ0 b1 m 1 8 := I1
  rw [u1, h_bd_s, v1, h_b1_s]
  obtain ⟨a2, b2, u2, v2, I2⟩ := NI_step I1 (k := 4) (n := 8) (t := 100) (len := 8) (by decide) rfl (by decide) (by decide) (by decide) rfl (by decide) (by omega) (by omega)
  replace I2 : NI σ0 b2 m 2 16 := I2
  rw [u2, h_bd_s, v2, h_b1_s]
  obtain ⟨a3, b3, u3, v3, I3⟩ := NI_step I2 (k := 5) (n := 8) (t := 100) (len := 8) (by decide) rfl (by decide) (by decide) (by decide) rfl (by decide) (by omega) (by omega)
  replace I3 : NI σ0 b3 m 3 24 := I3
  rw [u3, h_bd_s, v3, h_b1_s]
  obtain ⟨a4, b4, u4, v4, I4⟩ := NI_step I3 (k := 6) (n := 8) (t := 100) (len := 8) (by decide) rfl (by decide) (by decide) (by decide) rfl (by decide) (by omega) (by omega)
  replace I4 : NI σ0 b4 m 4 32 := I4
  rw [u4, h_bd_s, v4, h_b1_s]
  obtain ⟨a5, b5, u5, v5, I5⟩ := NI_step I4 (k := 7) (n := 128) (t := 100) (len := 128) (by decide) rfl (by decide) (by decide) (by decide) rfl (by decide) (by omega) (by omega)
  replace I5 : NI σ0 b5 m 5 160 := I5
  rw [u5, h_bd_s, v5, h_b1_s]
  obtain ⟨a6, b6, u6, v6, I6⟩ := NI_step I5 (k := 8) (n := 128) (t := 100) (len := 128) (by decide) rfl (by decide) (by decide) (by decide) rfl (by decide) (by omega) (by omega)
  replace I6 : NI σ0 b6 m 6 288 := I6
  rw [u6, h_bd_s, v6, h_b1_s]
  obtain ⟨a7, b7, u7, v7, I7⟩ := NI_step I6 (k := 9) (n := 128) (t := 100) (len := 128) (by decide) rfl (by decide) (by decide) (by decide) rfl (by decide) (by omega) (by omega)
  replace I7 : NI σ0 b7 m 7 416 := I7
  rw [u7, h_bd_s, v7, h_b1_s]
  obtain ⟨a8, b8, u8, v8, I8⟩ := NI_step I7 (k := 10) (n := 128) (t := 100) (len := 128) (by decide) rfl (by decide) (by decide) (by decide) rfl (by decide) (by omega) (by omega)
  replace I8 : NI σ0 b8 m 8 544 := I8
  rw [u8, h_bd_s, v8, h_b1_s]
  obtain ⟨a9, b9, u9, v9, I9⟩ := NI_step I8 (k := 11) (n := 128) (t := 100) (len := 128) (by decide) rfl (by decide) (by decide) (by decide) rfl (by decide) (by omega) (by omega)
  replace I9 : NI σ0 b9 m 9 672 := I9
  rw [u9, h_bd_s, v9, h_b1_s]
  obtain ⟨a10, b10, u10, v10, I10⟩ := NI_step I9 (k := 12) (n := 128) (t := 100) (len := 128) (by decide) rfl (by decide) (by decide) (by decide) rfl (by decide) (by omega) (by omega)
  replace I10 : NI σ0 b10 m 10 800 := I10
  rw [u10, h_bd_s, v10, h_b1_s]
  obtain ⟨a11, b11, u11, v11, I11⟩ := NI_step I10 (k := 13) (n := 64) (t := 101) (len := 64) (by decide) rfl (by decide) (by decide) (by decide) rfl (by decide) (by omega) (by omega)
  replace I11 : NI σ0 b11 m 11 864 := I11
  rw [u11, h_bd_s, v11, h_b1_s]
  obtain ⟨a12, b12, u12, v12, I12⟩ := NI_step I11 (k := 14) (n := 8) (t := 100) (len := 8) (by decide) rfl (by decide) (by decide) (by decide) rfl (by decide) (by omega) (by omega)
  replace I12 : NI σ0 b12 m 12 872 := I12
  rw [u12, h_bd_s, v12, h_b1_s]
  obtain ⟨a13, b13, u13, v13, I13⟩ := NI_step I12 (k := 15) (n := 8) (t := 100) (len := 8) (by decide) rfl (by decide) (by decide) (by decide) rfl (by decide) (by omega) (by omega)
  replace I13 : NI σ0 b13 m 13 880 := I13
  rw [u13, h_bd_s, v13, h_b1_s]
  obtain ⟨a14, b14, u14, v14, I14⟩ := NI_step I13 (k := 16) (n := 32) (t := 100) (len := 32) (by decide) rfl (by decide) (by decide) (by decide) rfl (by decide) (by omega) (by omega)
  replace I14 : NI σ0 b14 m 14 912 := I14
  rw [u14, h_bd_s, v14, h_b1_s]
  obtain ⟨a15, b15, u15, v15, I15⟩ := NI_step I14 (k := 17) (n := 32) (t := 100) (len := 32) (by decide) rfl (by decide) (by decide) (by decide) rfl (by decide) (by omega) (by omega)
  replace I15 : NI σ0 b15 m 15 944 := I15
  rw [u15, h_bd_s, v15, h_b1_s]
  obtain ⟨a16, b16, u16, v16, I16⟩ := NI_step I15 (k := 18) (n := 8) (t := 100) (len := 8) (by decide) rfl (by decide) (by decide) (by decide) rfl (by decide) (by omega) (by omega)
  replace I16 : NI σ0 b16 m 16 952 := I16
  rw [u16, h_bd_s, v16, h_b1_s]
  obtain ⟨a17, b17, u17, v17, I17⟩ := NI_step I16 (k := 19) (n := 48) (t := 100) (len := 48) (by decide) rfl (by decide) (by decide) (by decide) rfl (by decide) (by omega) (by omega)
  replace I17 : NI σ0 b17 m 17 1000 := I17
  rw [u17, h_bd_s, v17, h_b1_s]
  obtain ⟨a18, b18, u18, v18, I18⟩ := NI_step I17 (k := 20) (n := 48) (t := 100) (len := 48) (by decide) rfl (by decide) (by decide) (by decide) rfl (by decide) (by omega) (by omega)
  replace I18 : NI σ0 b18 m 18 1048 := I18
  rw [u18, h_bd_s, v18, h_b1_s]
  obtain ⟨a19, b19, u19, v19, I19⟩ := NI_step I18 (k := 21) (n := 48) (t := 100) (len := 48) (by decide) rfl (by decide) (by decide) (by decide) rfl (by decide) (by omega) (by omega)
  replace I19 : NI σ0 b19 m 19 1096 := I19
  rw [u19, h_bd_s, v19, h_b1_s]
  obtain ⟨a20, b20, u20, v20, I20⟩ := NI_step I19 (k := 22) (n := 48) (t := 100) (len := 48) (by decide) rfl (by decide) (by decide) (by decide) rfl (by decide) (by omega) (by omega)
  replace I20 : NI σ0 b20 m 20 1144 := I20
  rw [u20, h_bd_s, v20, h_b1_s]
  obtain ⟨a21, b21, u21, v21, I21⟩ := NI_step I20 (k := 23) (n := 48) (t := 100) (len := 48) (by decide) rfl (by decide) (by decide) (by decide) rfl (by decide) (by omega) (by omega)
  replace I21 : NI σ0 b21 m 21 1192 := I21
  rw [u21, h_bd_s, v21, h_b1_s]
  obtain ⟨a22, b22, u22, v22, I22⟩ := NI_step I21 (k := 24) (n := 48) (t := 100) (len := 48) (by decide) rfl (by decide) (by decide) (by decide) rfl (by decide) (by omega) (by omega)
  replace I22 : NI σ0 b22 m 22 1240 := I22
  rw [u22, h_bd_s, v22, h_b1_s]
  obtain ⟨a23, b23, u23, v23, I23⟩ := NI_step I22 (k := 26) (n := 16) (t := 100) (len := 16) (by decide) rfl (by decide) (by decide) (by decide) rfl (by decide) (by omega) (by omega)
  replace I23 : NI σ0 b23 m 23 1256 := I23
  rw [u23, h_bd_s, v23, h_b1_s]
  obtain ⟨a24, b24, u24, v24, I24⟩ := NI_step I23 (k := 27) (n := 16) (t := 100) (len := 16) (by decide) rfl (by decide) (by decide) (by decide) rfl (by decide) (by omega) (by omega)
  replace I24 : NI σ0 b24 m 24 1272 := I24
  rw [u24, h_bd_s, v24, h_b1_s]
  obtain ⟨a25, b25, u25, v25, I25⟩ := NI_step I24 (k := 29) (n := 201) (t := 100) (len := 201) (by decide) rfl (by decide) (by decide) (by decide) rfl (by decide) (by omega) (by omega)
  replace I25 : NI σ0 b25 m 25 1473 := I25
  rw [u25, h_bd_s, v25, h_b1_s]
  obtain ⟨a26, b26, u26, v26, I26⟩ := NI_step I25 (k := 30) (n := 201) (t := 100) (len := 201) (by decide) rfl (by decide) (by decide) (by decide) rfl (by decide) (by omega) (by omega)
  replace I26 : NI σ0 b26 m 26 1674 := I26
  rw [u26, h_bd_s, v26, h_b1_s]
  obtain ⟨a27, b27, u27, v27, I27⟩ := NI_step I26 (k := 31) (n := 201) (t := 100) (len := 201) (by decide) rfl (by decide) (by decide) (by decide) rfl (by decide) (by omega) (by omega)
  replace I27 : NI σ0 b27 m 27 1875 := I27
  rw [u27, h_bd_s, v27, h_b1_s]
  obtain ⟨a28, b28, u28, v28, I28⟩ := NI_step I27 (k := 32) (n := 201) (t := 100) (len := 201) (by decide) rfl (by decide) (by decide) (by decide) rfl (by decide) (by omega) (by omega)
  replace I28 : NI σ0 b28 m 28 2076 := I28
  rw [u28, h_bd_s, v28, h_b1_s]
  obtain ⟨a29, b29, u29, v29, I29⟩ := NI_step I28 (k := 33) (n := 201) (t := 100) (len := 201) (by decide) rfl (by decide) (by decide) (by decide) rfl (by decide) (by omega) (by omega)
  replace I29 : NI σ0 b29 m 29 2277 := I29
  rw [u29, h_bd_s, v29, h_b1_s]
  obtain ⟨a30, b30, u30, v30, I30⟩ := NI_step I29 (k := 34) (n := 201) (t := 100) (len := 201) (by decide) rfl (by decide) (by decide) (by decide) rfl (by decide) (by omega) (by omega)
  replace I30 : NI σ0 b30 m 30 2478 := I30
  rw [u30, h_bd_s, v30, h_b1_s]
  obtain ⟨a31, b31, u31, v31, I31⟩ := NI_step I30 (k := 35) (n := 201) (t := 100) (len := 201) (by decide) rfl (by decide) (by decide) (by decide) rfl (by decide) (by omega) (by omega)
  replace I31 : NI σ0 b31 m 31 2679 := I31
  rw [u31, h_bd_s, v31, h_b1_s]
  obtain ⟨a32, b32, u32, v32, I32⟩ := NI_step I31 (k := 37) (n := 1608) (t := 100) (len := 1608) (by decide) rfl (by decide) (by decide) (by decide) rfl (by decide) (by omega) (by omega)
  replace I32 : NI σ0 b32 m 32 4287 := I32
  rw [u32, h_bd_s, v32, h_b1_s]
  obtain ⟨a33, b33, u33, v33, I33⟩ := NI_step I32 (k := 38) (n := 8) (t := 100) (len := 8) (by decide) rfl (by decide) (by decide) (by decide) rfl (by decide) (by omega) (by omega)
  replace I33 : NI σ0 b33 m 33 4295 := I33
  rw [u33, h_bd_s, v33, h_b1_s]
  have V := NI_MV I33
  obtain ⟨e1, e2⟩ := ini_s (v := 1) V (k := 3) (t := 102) (i := 0) (by decide) (by decide) (by decide)
  have e2' : h_sI b33 (some (kA m 3)) 102 0 1 = some (h_setI b33 (kA m 3) 0 1) := e2
  rw [e1, h_b1_s, e2', h_b1_s]
  have F0 : MF b33 (h_setI b33 (kA m 3) 0 1) m (kA m) := MF_I MF.rf (Or.inr ⟨3, by decide, rfl⟩)
  obtain ⟨σ', r1, r2, r3⟩ := ini_296 (σ0 := b33) 8 h_hN 0 _ _ (MV_sI (k := 3) (j := 0) (v := 1) V (by decide)) F0 (by omega) (h_hN_lt (by omega))
  obtain ⟨i1, i2, i3, i4, i5, i6, i7, i9, i8⟩ := I33
  obtain ⟨f1, f2, f3, f4, f5, f6, f7, f8⟩ := r3
  refine ⟨σ', r1, r2, by rw [f4, i2], by rw [f5, i3], by rw [f6, i4], by rw [f7, i5], fun a ha => by rw [f1]; exact i9 a (by omega), fun a ha => ?_⟩
  obtain ⟨g1, g2, g3⟩ := i8 a ha
  refine ⟨by rw [f1]; exact g1, by rw [f2]; exact g2, fun i => ?_⟩
  have h9 := f8 a (by omega) (fun k _ => by unfold kA; omega) i
  rw [h9.1, h9.2, f3]
  exact g3 i
