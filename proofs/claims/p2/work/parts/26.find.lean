/-! LOOPS OF THE REFERENCE OVER NUMBERS: the first of a range, a fold over a range -/
def ff (P : Nat → Bool) : Nat → Nat → Option Nat
  | _, 0 => none
  | i, c + 1 => if P i = true then some i else ff P (i + 1) c
def o2i (o : Option Nat) : Int32 := match o with
  | none => -1
  | some i => nI i
theorem ff_none {P : Nat → Bool} : ∀ {c i : Nat}, ff P i c = none ↔ ∀ j, i ≤ j → j < i + c → P j = false
  | 0, i => by simp [ff]; intro j h1 h2; omega
  | c + 1, i => by
    unfold ff
    by_cases h : P i = true
    · rw [if_pos h]
      constructor
      · intro z; cases z
      · intro z; rw [z i (Nat.le_refl i) (by omega)] at h; cases h
    · rw [if_neg h, ff_none]
      constructor
      · intro z j h1 h2
        by_cases e : j = i
        · rw [e]; simpa using h
        · exact z j (by omega) (by omega)
      · intro z j h1 h2
        exact z j (by omega) (by omega)
theorem ff_some {P : Nat → Bool} : ∀ {c i j : Nat}, ff P i c = some j ↔ i ≤ j ∧ j < i + c ∧ P j = true ∧ ∀ k, i ≤ k → k < j → P k = false
  | 0, i, j => by simp [ff]; intro h1 h2; omega
  | c + 1, i, j => by
    unfold ff
    by_cases h : P i = true
    · rw [if_pos h]
      constructor
      · intro z
        cases z
        exact ⟨Nat.le_refl i, by omega, h, fun k h1 h2 => by omega⟩
      · intro z
        by_cases e : j = i
        · rw [e]
        · have := z.2.2.2 i (Nat.le_refl i) (by omega)
          rw [this] at h; cases h
    · rw [if_neg h, ff_some]
      constructor
      · intro z
        refine ⟨by omega, by omega, z.2.2.1, fun k h1 h2 => ?_⟩
        by_cases e : k = i
        · rw [e]; simpa using h
        · exact z.2.2.2 k (by omega) h2
      · intro z
        have hne : j ≠ i := fun e => h (by rw [← e]; exact z.2.2.1)
        exact ⟨by omega, by omega, z.2.2.1, fun k h1 h2 => z.2.2.2 k (by omega) h2⟩
theorem ff_congr {P P' : Nat → Bool} : ∀ {c i : Nat}, (∀ j, i ≤ j → j < i + c → P j = P' j) → ff P i c = ff P' i c
  | 0, i, _ => rfl
  | c + 1, i, h => by
    unfold ff
    rw [h i (Nat.le_refl i) (by omega), ff_congr (fun j h1 h2 => h j (by omega) (by omega))]
/-- a loop that ends at the first place where P holds -/
theorem lp_find {β : Type} (g : Nat → Int32 → Option β) (e : Nat) (P : Nat → Bool) (F : Nat → Option β) (d : Option β) (hend : ∀ n, g (n + 1) (nI e) = d) (hstep : ∀ n i, i < e → g (n + 1) (nI i) = if P i = true then F i else g n (nI (i + 1))) : ∀ c n i, i + c = e → c < n → g n (nI i) = match ff P i c with
    | none => d
    | some j => F j := by
  intro c
  induction c with
  | zero =>
    intro n i h1 h2
    obtain ⟨n', rfl⟩ : ∃ n', n = n' + 1 := ⟨n - 1, by omega⟩
    rw [show i = e by omega, hend]; rfl
  | succ c ih =>
    intro n i h1 h2
    obtain ⟨n', rfl⟩ : ∃ n', n = n' + 1 := ⟨n - 1, by omega⟩
    rw [hstep n' i (by omega)]
    unfold ff
    by_cases h : P i = true
    · rw [if_pos h, if_pos h]
    · rw [if_neg h, if_neg h]
      exact ih n' (i + 1) (by omega) (by omega)
def fo {S : Type} (step : Nat → S → S) : Nat → Nat → S → S
  | _, 0, s => s
  | i, c + 1, s => fo step (i + 1) c (step i s)
/-- a loop that goes through a range -/
theorem lp_fold {β S : Type} (g : Nat → S → Int32 → Option β) (e : Nat) (step : Nat → S → S) (fin : S → Option β) (I : Nat → S → Prop) (hI : ∀ i s, i < e → I i s → I (i + 1) (step i s)) (hend : ∀ n s, I e s → g (n + 1) s (nI e) = fin s) (hstep : ∀ n i s, i < e → I i s → g (n + 1) s (nI i) = g n (step i s) (nI (i + 1))) : ∀ c n i s, I i s → i + c = e → c < n → g n s (nI i) = fin (fo step i c s) := by
  intro c
  induction c with
  | zero =>
    intro n i s hs h1 h2
    obtain ⟨n', rfl⟩ : ∃ n', n = n' + 1 := ⟨n - 1, by omega⟩
    have hi : i = e := by omega
    subst hi
    exact hend n' s hs
  | succ c ih =>
    intro n i s hs h1 h2
    obtain ⟨n', rfl⟩ : ∃ n', n = n' + 1 := ⟨n - 1, by omega⟩
    rw [hstep n' i s (by omega) hs]
    exact ih n' (i + 1) (step i s) (hI i s (by omega) hs) (by omega) (by omega)
theorem fo_inv {S : Type} {step : Nat → S → S} (I : Nat → S → Prop) : ∀ {c i : Nat} {s : S}, (∀ j s, i ≤ j → j < i + c → I j s → I (j + 1) (step j s)) → I i s → I (i + c) (fo step i c s)
  | 0, i, s, _, h => h
  | c + 1, i, s, hs, h => by
    have := fo_inv (c := c) (i := i + 1) (s := step i s) I (fun j s h1 h2 => hs j s (by omega) (by omega)) (hs i s (Nat.le_refl i) (by omega) h)
    rw [show i + (c + 1) = i + 1 + c by omega]
    exact this
theorem h_hN_lt {c : Nat} (h : c < 2000) : c < h_hN := h
theorem k_in_nI {k i : Nat} (h : i < k_len k) (hk : k_len k < 2 ^ 31) : k_in k (nI i) = true := by
  have := nI_in h hk
  unfold k_in
  simp only [Bool.not_eq_true', Bool.or_eq_false_iff, decide_eq_false_iff_not]
  exact ⟨fun z => this (Or.inl z), fun z => this (Or.inr z)⟩
theorem k_len_lt (k : Nat) : k_len k < 2 ^ 31 := by
  by_cases h : k < 43
  · have : ∀ k, k < 43 → k_len k < 2 ^ 31 := by decide +kernel
    exact this k h
  · have : k_len k = 0 := by
      unfold k_len
      rw [List.getD_eq_getElem?_getD, List.getElem?_eq_none (by simp only [List.length_cons, List.length_nil]; omega)]
      rfl
    rw [this]; decide
theorem k_aI_nI {ms : MS} {k i : Nat} (h : i < k_len k) : k_aI ms k (nI i) = some (ms.2.1 k i) := by
  have hl := k_len_lt k
  unfold k_aI
  rw [if_pos (k_in_nI h hl), nI_clamp (by omega)]
theorem k_aL_nI {ms : MS} {i : Nat} (h : i < 64) : k_aL ms (nI i) = some (ms.2.2 i) := by
  unfold k_aL
  rw [if_pos (k_in_nI (k := 13) h (k_len_lt 13)), nI_clamp (by omega)]
theorem k_sI_nI {ms : MS} {k i : Nat} {v : Int32} (h : i < k_len k) : k_sI ms k (nI i) v = some (ms.1, h_up2 ms.2.1 k i v, ms.2.2) := by
  have hl := k_len_lt k
  unfold k_sI
  rw [if_pos (k_in_nI h hl), nI_clamp (by omega)]
theorem k_sL_nI {ms : MS} {i : Nat} {v : Int64} (h : i < 64) : k_sL ms (nI i) v = some (ms.1, ms.2.1, va_up ms.2.2 i v) := by
  unfold k_sL
  rw [if_pos (k_in_nI (k := 13) h (k_len_lt 13)), nI_clamp (by omega)]
/-- a length of a prefix -/
def Ln (x : Int32) : Prop := ∃ n : Nat, n ≤ 32 ∧ x = nI n
def ln (x : Int32) : Nat := x.toNatClampNeg
theorem Ln_nI {x : Int32} (h : Ln x) : x = nI (ln x) ∧ ln x ≤ 32 := by
  obtain ⟨n, h1, rfl⟩ := h
  have : ln (nI n) = n := nI_clamp (by omega)
  rw [this]; exact ⟨rfl, h1⟩
theorem p_begin_L (ms : MS) (a b : Int32) {x : Int32} (h : Ln x) : p_X10_begin ms a b x = some (b2i (ag (ln x) a b), ms) := by
  obtain ⟨h1, h2⟩ := Ln_nI h
  rw [h1, p_begin_eq ms a b h2, ← h1]
theorem p_holds_L (ms : MS) (b ob : Int32) {x y : Int32} (h : Ln x) (h' : Ln y) : p_X10_holds ms b x ob y = some (b2i (decide (ln x ≤ ln y) && ag (ln x) b ob), ms) := by
  obtain ⟨h1, h2⟩ := Ln_nI h
  obtain ⟨h3, h4⟩ := Ln_nI h'
  rw [h1, h3, p_holds_eq ms b ob h2 h4, ← h1, ← h3]
theorem p_siteAt_eq (ms : MS) (pl : Int32) : p_X10_siteAt ms pl = some (o2i (ff (fun s => decide (ms.2.1 14 s = pl)) 0 8), ms) := by
  unfold p_X10_siteAt
  have key := lp_find (fun n k => pg_X10_siteAt_2 n ms pl k) 8 (fun s => decide (ms.2.1 14 s = pl)) (fun j => some (nI j, ms)) (some (-1, ms))
    (fun n => by show pg_X10_siteAt_2 (n + 1) ms pl (nI 8) = _; rw [pg_X10_siteAt_2, if_pos (by decide)])
    (fun n i hi => by
      show pg_X10_siteAt_2 (n + 1) ms pl (nI i) = _
      rw [pg_X10_siteAt_2, if_neg (show ¬ (8 : Int32) ≤ nI i from nI_ge (b := 8) hi (by omega)), k_aI_nI (show i < k_len 14 from hi)]
      show (if ms.2.1 14 i = pl then some (nI i, ms) else pg_X10_siteAt_2 n ms pl (nI i + 1)) = _
      rw [nI_1]
      by_cases h : ms.2.1 14 i = pl
      · rw [if_pos h, if_pos (decide_eq_true h)]
      · rw [if_neg h, if_neg (by simpa using h)]) 8 h_hN 0 rfl (h_hN_lt (by omega))
  rw [show (0 : Int32) = nI 0 from rfl]
  refine key.trans ?_
  cases ff (fun s => decide (ms.2.1 14 s = pl)) 0 8 <;> rfl
