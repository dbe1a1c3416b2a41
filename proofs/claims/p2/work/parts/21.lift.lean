/-! THE REFERENCE'S STATE AS NUMBERS: its int fields, its int arrays, its longs -/
abbrev MS : Type := (Nat → Int32) × (Nat → Nat → Int32) × (Nat → Int64)
def k_tag (k : Nat) : Nat := ([0, 0, 0, 102, 100, 100, 100, 100, 100, 100, 100, 100, 100, 101, 100, 100, 100, 100, 100, 100, 100, 100, 100, 100, 100, 0, 100, 100, 0, 100, 100, 100, 100, 100, 100, 100, 0, 100, 100, 0, 0, 0, 0] : List Nat).getD k 0
def k_len (k : Nat) : Nat := ([0, 0, 0, 8, 8, 8, 8, 128, 128, 128, 128, 128, 128, 64, 8, 8, 32, 32, 8, 48, 48, 48, 48, 48, 48, 0, 16, 16, 0, 201, 201, 201, 201, 201, 201, 201, 0, 1608, 8, 0, 0, 0, 0] : List Nat).getD k 0
def k_pI (ms : MS) (k : Nat) (v : Int32) : MS := (va_up ms.1 k v, ms.2)
def k_in (k : Nat) (i : Int32) : Bool := !(decide (i < 0) || decide (k_len k ≤ i.toNatClampNeg))
def k_aI (ms : MS) (k : Nat) (i : Int32) : Option Int32 := if k_in k i = true then some (ms.2.1 k i.toNatClampNeg) else none
def k_aL (ms : MS) (i : Int32) : Option Int64 := if k_in 13 i = true then some (ms.2.2 i.toNatClampNeg) else none
def k_sI (ms : MS) (k : Nat) (i v : Int32) : Option MS := if k_in k i = true then some (ms.1, h_up2 ms.2.1 k i.toNatClampNeg v, ms.2.2) else none
def k_sL (ms : MS) (i : Int32) (v : Int64) : Option MS := if k_in 13 i = true then some (ms.1, ms.2.1, va_up ms.2.2 i.toNatClampNeg v) else none
def k_lt {α β : Type} (a : α) (f : α → β) : β := f a
def k_bd {α β : Type} (o : Option (α × MS)) (k : α → MS → Option β) : Option β := match o with
  | none => none
  | some q => k q.1 q.2
/-- the object m of σ, with its arrays at A, holds ms -/
def MV (σ : HS) (m : Nat) (A : Nat → Nat) (ms : MS) : Prop := h_tg σ m = 11 ∧ (∀ k, k_tag k ≠ 0 → h_rv σ m k = some (A k) ∧ h_tg σ (A k) = k_tag k ∧ h_ln σ (A k) = k_len k) ∧ (∀ k k', k_tag k ≠ 0 → k_tag k' ≠ 0 → A k = A k' → k = k') ∧
  (∀ k, k_tag k = 0 → h_iv σ m k = ms.1 k) ∧ (∀ k, k_tag k ≠ 0 → ∀ j, h_iv σ (A k) j = ms.2.1 k j) ∧ ∀ j, h_lv σ (A 13) j = ms.2.2 j
/-- σ is σ0 but for what m and its arrays hold -/
def MF (σ0 σ : HS) (m : Nat) (A : Nat → Nat) : Prop := h_tg σ = h_tg σ0 ∧ h_ln σ = h_ln σ0 ∧ h_rv σ = h_rv σ0 ∧ h_sz σ = h_sz σ0 ∧ h_sl σ = h_sl σ0 ∧ h_cz σ = h_cz σ0 ∧ h_ck σ = h_ck σ0 ∧ ∀ a, a ≠ m → (∀ k, k_tag k ≠ 0 → a ≠ A k) → ∀ j, h_iv σ a j = h_iv σ0 a j ∧ h_lv σ a j = h_lv σ0 a j
theorem MF.rf {σ : HS} {m : Nat} {A : Nat → Nat} : MF σ σ m A := ⟨rfl, rfl, rfl, rfl, rfl, rfl, rfl, fun _ _ _ _ => ⟨rfl, rfl⟩⟩
theorem MF.tr {σ0 σ1 σ2 : HS} {m : Nat} {A : Nat → Nat} (h : MF σ0 σ1 m A) (h' : MF σ1 σ2 m A) : MF σ0 σ2 m A := by
  obtain ⟨a1, a2, a3, a4, a5, a6, a7, a8⟩ := h
  obtain ⟨b1, b2, b3, b4, b5, b6, b7, b8⟩ := h'
  exact ⟨b1.trans a1, b2.trans a2, b3.trans a3, b4.trans a4, b5.trans a5, b6.trans a6, b7.trans a7, fun a h1 h2 j => ⟨(b8 a h1 h2 j).1.trans (a8 a h1 h2 j).1, (b8 a h1 h2 j).2.trans (a8 a h1 h2 j).2⟩⟩
/-- what the heap's function answers is what the numbers' function answers -/
def Rl {α : Type} (σ0 : HS) (m : Nat) (A : Nat → Nat) (o1 : Option (α × HS)) (o2 : Option (α × MS)) : Prop := ∀ r ms', o2 = some (r, ms') → ∃ σ', o1 = some (r, σ') ∧ MV σ' m A ms' ∧ MF σ0 σ' m A
section RL
variable {α β : Type} {σ0 σ : HS} {m : Nat} {A : Nat → Nat} {ms : MS}
theorem MV.ne {k : Nat} (h : MV σ m A ms) (hk : k_tag k ≠ 0) (h11 : k_tag k ≠ 11) : A k ≠ m := fun e => h11 (by rw [← (h.2.1 k hk).2.1, e]; exact h.1)
theorem k_tag11 (k : Nat) : k_tag k ≠ 11 := by
  by_cases h : k < 43
  · revert k; decide
  · have : k_tag k = 0 := by
      unfold k_tag
      rw [List.getD_eq_getElem?_getD, List.getElem?_eq_none (by simp only [List.length_cons, List.length_nil]; omega)]
      rfl
    rw [this]; decide
theorem Rl_ret {v : α} (hV : MV σ m A ms) (hF : MF σ0 σ m A) : Rl σ0 m A (some (v, σ)) (some (v, ms)) := by
  intro r ms' h
  cases h
  exact ⟨σ, rfl, hV, hF⟩
theorem Rl_none {o : Option (α × HS)} : Rl σ0 m A o none := fun _ _ h => nomatch h
theorem Rl_ite {c : Prop} [Decidable c] {a b : Option (α × HS)} {a' b' : Option (α × MS)} (h1 : c → Rl σ0 m A a a') (h2 : ¬ c → Rl σ0 m A b b') : Rl σ0 m A (if c then a else b) (if c then a' else b') := by
  by_cases h : c
  · rw [if_pos h, if_pos h]; exact h1 h
  · rw [if_neg h, if_neg h]; exact h2 h
theorem Rl_b1 {o : Option β} {F : β → Option (α × HS)} {G : β → Option (α × MS)} (h : ∀ x, o = some x → Rl σ0 m A (F x) (G x)) : Rl σ0 m A (h_b1 o F) (h_b1 o G) := by
  cases o with
  | none => exact Rl_none
  | some x => exact h x rfl
theorem Rl_gI {k : Nat} {F : Int32 → Option (α × HS)} {o : Option (α × MS)} (hV : MV σ m A ms) (hk : k_tag k = 0) (h : Rl σ0 m A (F (ms.1 k)) o) : Rl σ0 m A (h_b1 (h_gI σ (some m) 11 k) F) o := by
  have e : h_gI σ (some m) 11 k = some (ms.1 k) := by
    show (if h_tg σ m = 11 then some (h_iv σ m k) else none) = _
    rw [if_pos hV.1, hV.2.2.2.1 k hk]
  rw [e]; exact h
theorem Rl_gR {k : Nat} {F : Option Nat → Option (α × HS)} {o : Option (α × MS)} (hV : MV σ m A ms) (hk : k_tag k ≠ 0) (h : Rl σ0 m A (F (some (A k))) o) : Rl σ0 m A (h_b1 (h_gR σ (some m) 11 k) F) o := by
  have e : h_gR σ (some m) 11 k = some (some (A k)) := by
    show (if h_tg σ m = 11 then some (h_rv σ m k) else none) = _
    rw [if_pos hV.1, (hV.2.1 k hk).1]
  rw [e]; exact h
theorem k_ok {k t : Nat} {i : Int32} (hV : MV σ m A ms) (hk : k_tag k ≠ 0) (ht : k_tag k = t) : h_ok σ (A k) t i = k_in k i := by
  obtain ⟨-, h2, h3⟩ := hV.2.1 k hk
  simp [h_ok, k_in, h2, h3, ht]
theorem Rl_aI {k t : Nat} {i : Int32} {F : Int32 → Option (α × HS)} {G : Int32 → Option (α × MS)} (hV : MV σ m A ms) (hk : k_tag k ≠ 0) (ht : k_tag k = t) (h : ∀ x, Rl σ0 m A (F x) (G x)) : Rl σ0 m A (h_b1 (h_aI σ (some (A k)) t i) F) (h_b1 (k_aI ms k i) G) := by
  have e : h_aI σ (some (A k)) t i = k_aI ms k i := by
    show (if h_ok σ (A k) t i = true then some (h_iv σ (A k) i.toNatClampNeg) else none) = _
    rw [k_ok hV hk ht, hV.2.2.2.2.1 k hk]; rfl
  rw [e]; exact Rl_b1 (fun x _ => h x)
theorem Rl_aL {i : Int32} {F : Int64 → Option (α × HS)} {G : Int64 → Option (α × MS)} (hV : MV σ m A ms) (h : ∀ x, Rl σ0 m A (F x) (G x)) : Rl σ0 m A (h_b1 (h_aL σ (some (A 13)) 101 i) F) (h_b1 (k_aL ms i) G) := by
  have e : h_aL σ (some (A 13)) 101 i = k_aL ms i := by
    show (if h_ok σ (A 13) 101 i = true then some (h_lv σ (A 13) i.toNatClampNeg) else none) = _
    rw [k_ok hV (by decide) (by decide), hV.2.2.2.2.2]; rfl
  rw [e]; exact Rl_b1 (fun x _ => h x)
theorem Rl_rcv {F : Nat → Option (α × HS)} {o : Option (α × MS)} (hV : MV σ m A ms) (h : Rl σ0 m A (F m) o) : Rl σ0 m A (h_b1 (h_rcv σ (some m) 11) F) o := by
  have e : h_rcv σ (some m) 11 = some m := by
    show (if h_tg σ m = 11 then some m else none) = _
    rw [if_pos hV.1]
  rw [e]; exact h
theorem MV_pI {k : Nat} {v : Int32} (hV : MV σ m A ms) (hk : k_tag k = 0) : MV (h_setI σ m k v) m A (k_pI ms k v) := by
  obtain ⟨v1, v2, v3, v4, v5, v6⟩ := hV
  have hne : ∀ k', k_tag k' ≠ 0 → A k' ≠ m := fun k' hk' => MV.ne ⟨v1, v2, v3, v4, v5, v6⟩ hk' (k_tag11 k')
  refine ⟨v1, v2, v3, fun k' hk' => ?_, fun k' hk' j => ?_, v6⟩
  · by_cases e : k' = k
    · subst e; simp [h_setI, h_iv, h_up2, k_pI, va_up]
    · have := v4 k' hk'
      simpa [h_setI, h_iv, h_up2, k_pI, va_up, e] using this
  · have := v5 k' hk' j
    simpa [h_setI, h_iv, h_up2, k_pI, hne k' hk'] using this
theorem MF_I {a j : Nat} {v : Int32} (hF : MF σ0 σ m A) (ha : a = m ∨ ∃ k, k_tag k ≠ 0 ∧ a = A k) : MF σ0 (h_setI σ a j v) m A := by
  obtain ⟨a1, a2, a3, a4, a5, a6, a7, a8⟩ := hF
  refine ⟨a1, a2, a3, a4, a5, a6, a7, fun b h1 h2 j' => ?_⟩
  have hb : b ≠ a := by
    rcases ha with e | ⟨k, hk, e⟩
    · rw [e]; exact h1
    · rw [e]; exact h2 k hk
  have := a8 b h1 h2 j'
  exact ⟨by simpa [h_setI, h_iv, h_up2, hb] using this.1, this.2⟩
theorem MF_L {a j : Nat} {v : Int64} (hF : MF σ0 σ m A) (ha : ∃ k, k_tag k ≠ 0 ∧ a = A k) : MF σ0 (h_setL σ a j v) m A := by
  obtain ⟨a1, a2, a3, a4, a5, a6, a7, a8⟩ := hF
  refine ⟨a1, a2, a3, a4, a5, a6, a7, fun b h1 h2 j' => ?_⟩
  have hb : b ≠ a := by
    obtain ⟨k, hk, e⟩ := ha
    rw [e]; exact h2 k hk
  have := a8 b h1 h2 j'
  exact ⟨this.1, by simpa [h_setL, h_lv, h_up2, hb] using this.2⟩
theorem Rl_pI {k : Nat} {v : Int32} {F : HS → Option (α × HS)} {G : MS → Option (α × MS)} (hV : MV σ m A ms) (hF : MF σ0 σ m A) (hk : k_tag k = 0) (h : ∀ σ1 ms1, MV σ1 m A ms1 → MF σ0 σ1 m A → Rl σ0 m A (F σ1) (G ms1)) : Rl σ0 m A (h_b1 (h_pI σ (some m) 11 k v) F) (k_lt (k_pI ms k v) G) := by
  have e : h_pI σ (some m) 11 k v = some (h_setI σ m k v) := by
    show (if h_tg σ m = 11 then some (h_setI σ m k v) else none) = _
    rw [if_pos hV.1]
  rw [e]
  exact h _ _ (MV_pI hV hk) (MF_I hF (Or.inl rfl))
theorem MV_sI {k : Nat} {j : Nat} {v : Int32} (hV : MV σ m A ms) (hk : k_tag k ≠ 0) : MV (h_setI σ (A k) j v) m A (ms.1, h_up2 ms.2.1 k j v, ms.2.2) := by
  obtain ⟨v1, v2, v3, v4, v5, v6⟩ := hV
  have hne : A k ≠ m := MV.ne ⟨v1, v2, v3, v4, v5, v6⟩ hk (k_tag11 k)
  refine ⟨v1, v2, v3, fun k' hk' => ?_, fun k' hk' j' => ?_, v6⟩
  · have := v4 k' hk'
    simpa [h_setI, h_iv, h_up2, Ne.symm hne] using this
  · have := v5 k' hk' j'
    by_cases e : k' = k
    · subst e
      by_cases ej : j' = j
      · subst ej; simp [h_setI, h_iv, h_up2]
      · simpa [h_setI, h_iv, h_up2, ej] using this
    · have hA : A k' ≠ A k := fun z => e (v3 k' k hk' hk z)
      simpa [h_setI, h_iv, h_up2, e, hA] using this
theorem MV_sL {j : Nat} {v : Int64} (hV : MV σ m A ms) : MV (h_setL σ (A 13) j v) m A (ms.1, ms.2.1, va_up ms.2.2 j v) := by
  obtain ⟨v1, v2, v3, v4, v5, v6⟩ := hV
  refine ⟨v1, v2, v3, v4, v5, fun j' => ?_⟩
  have := v6 j'
  by_cases ej : j' = j
  · subst ej; simp [h_setL, h_lv, h_up2, va_up]
  · simpa [h_setL, h_lv, h_up2, va_up, ej] using this
theorem Rl_sI {k t : Nat} {i v : Int32} {F : HS → Option (α × HS)} {G : MS → Option (α × MS)} (hV : MV σ m A ms) (hF : MF σ0 σ m A) (hk : k_tag k ≠ 0) (ht : k_tag k = t) (h : ∀ σ1 ms1, MV σ1 m A ms1 → MF σ0 σ1 m A → Rl σ0 m A (F σ1) (G ms1)) : Rl σ0 m A (h_b1 (h_sI σ (some (A k)) t i v) F) (h_b1 (k_sI ms k i v) G) := by
  have e : h_sI σ (some (A k)) t i v = if k_in k i = true then some (h_setI σ (A k) i.toNatClampNeg v) else none := by
    show (if h_ok σ (A k) t i = true then some (h_setI σ (A k) i.toNatClampNeg v) else none) = _
    rw [k_ok hV hk ht]
  rw [e]
  unfold k_sI
  by_cases hi : k_in k i = true
  · rw [if_pos hi, if_pos hi]
    exact h _ _ (MV_sI hV hk) (MF_I hF (Or.inr ⟨k, hk, rfl⟩))
  · rw [if_neg hi, if_neg hi]
    exact Rl_none
theorem Rl_sL {i : Int32} {v : Int64} {F : HS → Option (α × HS)} {G : MS → Option (α × MS)} (hV : MV σ m A ms) (hF : MF σ0 σ m A) (h : ∀ σ1 ms1, MV σ1 m A ms1 → MF σ0 σ1 m A → Rl σ0 m A (F σ1) (G ms1)) : Rl σ0 m A (h_b1 (h_sL σ (some (A 13)) 101 i v) F) (h_b1 (k_sL ms i v) G) := by
  have e : h_sL σ (some (A 13)) 101 i v = if k_in 13 i = true then some (h_setL σ (A 13) i.toNatClampNeg v) else none := by
    show (if h_ok σ (A 13) 101 i = true then some (h_setL σ (A 13) i.toNatClampNeg v) else none) = _
    rw [k_ok hV (by decide) (by decide)]
  rw [e]
  unfold k_sL
  by_cases hi : k_in 13 i = true
  · rw [if_pos hi, if_pos hi]
    exact h _ _ (MV_sL hV) (MF_L hF ⟨13, by decide, rfl⟩)
  · rw [if_neg hi, if_neg hi]
    exact Rl_none
theorem Rl_bd {o1 : Option (β × HS)} {o2 : Option (β × MS)} {F : β → HS → Option (α × HS)} {G : β → MS → Option (α × MS)} (hF : MF σ0 σ m A) (hq : Rl σ m A o1 o2) (h : ∀ r σ1 ms1, MV σ1 m A ms1 → MF σ0 σ1 m A → Rl σ0 m A (F r σ1) (G r ms1)) : Rl σ0 m A (h_bd o1 F) (k_bd o2 G) := by
  cases o2 with
  | none => exact Rl_none
  | some q =>
    obtain ⟨σ1, e1, hV1, hF1⟩ := hq q.1 q.2 rfl
    rw [e1]
    exact h q.1 σ1 q.2 hV1 (hF.tr hF1)
end RL
