/-! from 21.lift -/
section
/-! THE REFERENCE'S STATE AS NUMBERS: its int fields, its int arrays, its longs -/
abbrev MS : Type := (Nat → Int32) × (Nat → Nat → Int32) × (Nat → Int64)
def k_tag (k : Nat) : Nat := ([0, 0, 0, 102, 100, 100, 100, 100, 100, 100, 100, 100, 100, 101, 100, 100, 100, 100, 100, 100, 100, 100, 100, 100, 100, 0, 100, 100, 0, 100, 100, 100, 100, 100, 100, 100, 0, 100, 100, 0, 0, 0, 0] : List Nat).getD k 0
def k_len (k : Nat) : Nat := ([0, 0, 0, 8, 8, 8, 8, 128, 128, 128, 128, 128, 128, 64, 8, 8, 32, 32, 8, 48, 48, 48, 48, 48, 48, 0, 16, 16, 0, 201, 201, 201, 201, 201, 201, 201, 0, 1608, 8, 0, 0, 0, 0] : List Nat).getD k 0
def k_pI (ms : MS) (k : Nat) (v : Int32) : MS := (va_up ms.1 k v, ms.2)
def k_in (k : Nat) (i : Int32) : Bool := !(decide (i < 0) || decide (k_len k ≤ i.toNatClampNeg))
def k_aI (ms : MS) (k : Nat) (i : Int32) : Option Int32 := if k_in k i = true then some (ms.2.1 k i.toNatClampNeg) else none
def k_aL (ms : MS) (i : Int32) : Option Int64 := if k_in 13 i = true then some (ms.2.2 i.toNatClampNeg) else none
def k_sI (ms : MS) (k : Nat) (i v : Int32) : Option MS := if k_in k i = true then some (ms.1, h_up2 ms.2.1 k i.toNatClampNeg v, ms.2.2) else none
def k_sL (ms : MS) (i : Int32) (v : Int64) : Option MS := if k_in 13 i = true then some (ms.1, ms.2.1, va_up ms.2.2 i.toNatClampNeg v) else none
def k_lt {α β : Type} (a : α) (f : α → β) : β := f a
def k_bd {α β : Type} (o : Option (α × MS)) (k : α → MS → Option β) : Option β := match o with
  | none => none
  | some q => k q.1 q.2
/-- the object m of σ, with its arrays at A, holds ms -/
def MV (σ : HS) (m : Nat) (A : Nat → Nat) (ms : MS) : Prop := h_tg σ m = 11 ∧ (∀ k, k_tag k ≠ 0 → h_rv σ m k = some (A k) ∧ h_tg σ (A k) = k_tag k ∧ h_ln σ (A k) = k_len k) ∧ (∀ k k', k_tag k ≠ 0 → k_tag k' ≠ 0 → A k = A k' → k = k') ∧
  (∀ k, k_tag k = 0 → h_iv σ m k = ms.1 k) ∧ (∀ k, k_tag k ≠ 0 → ∀ j, h_iv σ (A k) j = ms.2.1 k j) ∧ ∀ j, h_lv σ (A 13) j = ms.2.2 j
/-- σ is σ0 but for what m and its arrays hold -/
def MF (σ0 σ : HS) (m : Nat) (A : Nat → Nat) : Prop := h_tg σ = h_tg σ0 ∧ h_ln σ = h_ln σ0 ∧ h_rv σ = h_rv σ0 ∧ h_sz σ = h_sz σ0 ∧ h_sl σ = h_sl σ0 ∧ h_cz σ = h_cz σ0 ∧ h_ck σ = h_ck σ0 ∧ ∀ a, a ≠ m → (∀ k, k_tag k ≠ 0 → a ≠ A k) → ∀ j, h_iv σ a j = h_iv σ0 a j ∧ h_lv σ a j = h_lv σ0 a j
theorem MF.rf {σ : HS} {m : Nat} {A : Nat → Nat} : MF σ σ m A := ⟨rfl, rfl, rfl, rfl, rfl, rfl, rfl, fun _ _ _ _ => ⟨rfl, rfl⟩⟩
theorem MF.tr {σ0 σ1 σ2 : HS} {m : Nat} {A : Nat → Nat} (h : MF σ0 σ1 m A) (h' : MF σ1 σ2 m A) : MF σ0 σ2 m A := by
  obtain ⟨a1, a2, a3, a4, a5, a6, a7, a8⟩ := h
  obtain ⟨b1, b2, b3, b4, b5, b6, b7, b8⟩ := h'
  exact ⟨b1.trans a1, b2.trans a2, b3.trans a3, b4.trans a4, b5.trans a5, b6.trans a6, b7.trans a7, fun a h1 h2 j => ⟨(b8 a h1 h2 j).1.trans (a8 a h1 h2 j).1, (b8 a h1 h2 j).2.trans (a8 a h1 h2 j).2⟩⟩
/-- what the heap's function answers is what the numbers' function answers -/
def Rl {α : Type} (σ0 : HS) (m : Nat) (A : Nat → Nat) (o1 : Option (α × HS)) (o2 : Option (α × MS)) : Prop := ∀ r ms', o2 = some (r, ms') → ∃ σ', o1 = some (r, σ') ∧ MV σ' m A ms' ∧ MF σ0 σ' m A
section RL
variable {α β : Type} {σ0 σ : HS} {m : Nat} {A : Nat → Nat} {ms : MS}
theorem MV.ne {k : Nat} (h : MV σ m A ms) (hk : k_tag k ≠ 0) (h11 : k_tag k ≠ 11) : A k ≠ m := fun e => h11 (by rw [← (h.2.1 k hk).2.1, e]; exact h.1)
theorem k_tag11 (k : Nat) : k_tag k ≠ 11 := by
  by_cases h : k < 43
  · revert k; decide
  · have : k_tag k = 0 := by
      unfold k_tag
      rw [List.getD_eq_getElem?_getD, List.getElem?_eq_none (by simp only [List.length_cons, List.length_nil]; omega)]
      rfl
    rw [this]; decide
theorem Rl_ret {v : α} (hV : MV σ m A ms) (hF : MF σ0 σ m A) : Rl σ0 m A (some (v, σ)) (some (v, ms)) := by
  intro r ms' h
  cases h
  exact ⟨σ, rfl, hV, hF⟩
theorem Rl_none {o : Option (α × HS)} : Rl σ0 m A o none := fun _ _ h => nomatch h
theorem Rl_ite {c : Prop} [Decidable c] {a b : Option (α × HS)} {a' b' : Option (α × MS)} (h1 : c → Rl σ0 m A a a') (h2 : ¬ c → Rl σ0 m A b b') : Rl σ0 m A (if c then a else b) (if c then a' else b') := by
  by_cases h : c
  · rw [if_pos h, if_pos h]; exact h1 h
  · rw [if_neg h, if_neg h]; exact h2 h
theorem Rl_b1 {o : Option β} {F : β → Option (α × HS)} {G : β → Option (α × MS)} (h : ∀ x, o = some x → Rl σ0 m A (F x) (G x)) : Rl σ0 m A (h_b1 o F) (h_b1 o G) := by
  cases o with
  | none => exact Rl_none
  | some x => exact h x rfl
theorem Rl_gI {k : Nat} {F : Int32 → Option (α × HS)} {o : Option (α × MS)} (hV : MV σ m A ms) (hk : k_tag k = 0) (h : Rl σ0 m A (F (ms.1 k)) o) : Rl σ0 m A (h_b1 (h_gI σ (some m) 11 k) F) o := by
  have e : h_gI σ (some m) 11 k = some (ms.1 k) := by
    show (if h_tg σ m = 11 then some (h_iv σ m k) else none) = _
    rw [if_pos hV.1, hV.2.2.2.1 k hk]
  rw [e]; exact h
theorem Rl_gR {k : Nat} {F : Option Nat → Option (α × HS)} {o : Option (α × MS)} (hV : MV σ m A ms) (hk : k_tag k ≠ 0) (h : Rl σ0 m A (F (some (A k))) o) : Rl σ0 m A (h_b1 (h_gR σ (some m) 11 k) F) o := by
  have e : h_gR σ (some m) 11 k = some (some (A k)) := by
    show (if h_tg σ m = 11 then some (h_rv σ m k) else none) = _
    rw [if_pos hV.1, (hV.2.1 k hk).1]
  rw [e]; exact h
theorem k_ok {k t : Nat} {i : Int32} (hV : MV σ m A ms) (hk : k_tag k ≠ 0) (ht : k_tag k = t) : h_ok σ (A k) t i = k_in k i := by
  obtain ⟨-, h2, h3⟩ := hV.2.1 k hk
  simp [h_ok, k_in, h2, h3, ht]
theorem Rl_aI {k t : Nat} {i : Int32} {F : Int32 → Option (α × HS)} {G : Int32 → Option (α × MS)} (hV : MV σ m A ms) (hk : k_tag k ≠ 0) (ht : k_tag k = t) (h : ∀ x, Rl σ0 m A (F x) (G x)) : Rl σ0 m A (h_b1 (h_aI σ (some (A k)) t i) F) (h_b1 (k_aI ms k i) G) := by
  have e : h_aI σ (some (A k)) t i = k_aI ms k i := by
    show (if h_ok σ (A k) t i = true then some (h_iv σ (A k) i.toNatClampNeg) else none) = _
    rw [k_ok hV hk ht, hV.2.2.2.2.1 k hk]; rfl
  rw [e]; exact Rl_b1 (fun x _ => h x)
theorem Rl_aL {i : Int32} {F : Int64 → Option (α × HS)} {G : Int64 → Option (α × MS)} (hV : MV σ m A ms) (h : ∀ x, Rl σ0 m A (F x) (G x)) : Rl σ0 m A (h_b1 (h_aL σ (some (A 13)) 101 i) F) (h_b1 (k_aL ms i) G) := by
  have e : h_aL σ (some (A 13)) 101 i = k_aL ms i := by
    show (if h_ok σ (A 13) 101 i = true then some (h_lv σ (A 13) i.toNatClampNeg) else none) = _
    rw [k_ok hV (by decide) (by decide), hV.2.2.2.2.2]; rfl
  rw [e]; exact Rl_b1 (fun x _ => h x)
theorem Rl_rcv {F : Nat → Option (α × HS)} {o : Option (α × MS)} (hV : MV σ m A ms) (h : Rl σ0 m A (F m) o) : Rl σ0 m A (h_b1 (h_rcv σ (some m) 11) F) o := by
  have e : h_rcv σ (some m) 11 = some m := by
    show (if h_tg σ m = 11 then some m else none) = _
    rw [if_pos hV.1]
  rw [e]; exact h
theorem MV_pI {k : Nat} {v : Int32} (hV : MV σ m A ms) (hk : k_tag k = 0) : MV (h_setI σ m k v) m A (k_pI ms k v) := by
  obtain ⟨v1, v2, v3, v4, v5, v6⟩ := hV
  have hne : ∀ k', k_tag k' ≠ 0 → A k' ≠ m := fun k' hk' => MV.ne ⟨v1, v2, v3, v4, v5, v6⟩ hk' (k_tag11 k')
  refine ⟨v1, v2, v3, fun k' hk' => ?_, fun k' hk' j => ?_, v6⟩
  · by_cases e : k' = k
    · subst e; simp [h_setI, h_iv, h_up2, k_pI, va_up]
    · have := v4 k' hk'
      simpa [h_setI, h_iv, h_up2, k_pI, va_up, e] using this
  · have := v5 k' hk' j
    simpa [h_setI, h_iv, h_up2, k_pI, hne k' hk'] using this
theorem MF_I {a j : Nat} {v : Int32} (hF : MF σ0 σ m A) (ha : a = m ∨ ∃ k, k_tag k ≠ 0 ∧ a = A k) : MF σ0 (h_setI σ a j v) m A := by
  obtain ⟨a1, a2, a3, a4, a5, a6, a7, a8⟩ := hF
  refine ⟨a1, a2, a3, a4, a5, a6, a7, fun b h1 h2 j' => ?_⟩
  have hb : b ≠ a := by
    rcases ha with e | ⟨k, hk, e⟩
    · rw [e]; exact h1
    · rw [e]; exact h2 k hk
  have := a8 b h1 h2 j'
  exact ⟨by simpa [h_setI, h_iv, h_up2, hb] using this.1, this.2⟩
theorem MF_L {a j : Nat} {v : Int64} (hF : MF σ0 σ m A) (ha : ∃ k, k_tag k ≠ 0 ∧ a = A k) : MF σ0 (h_setL σ a j v) m A := by
  obtain ⟨a1, a2, a3, a4, a5, a6, a7, a8⟩ := hF
  refine ⟨a1, a2, a3, a4, a5, a6, a7, fun b h1 h2 j' => ?_⟩
  have hb : b ≠ a := by
    obtain ⟨k, hk, e⟩ := ha
    rw [e]; exact h2 k hk
  have := a8 b h1 h2 j'
  exact ⟨this.1, by simpa [h_setL, h_lv, h_up2, hb] using this.2⟩
theorem Rl_pI {k : Nat} {v : Int32} {F : HS → Option (α × HS)} {G : MS → Option (α × MS)} (hV : MV σ m A ms) (hF : MF σ0 σ m A) (hk : k_tag k = 0) (h : ∀ σ1 ms1, MV σ1 m A ms1 → MF σ0 σ1 m A → Rl σ0 m A (F σ1) (G ms1)) : Rl σ0 m A (h_b1 (h_pI σ (some m) 11 k v) F) (k_lt (k_pI ms k v) G) := by
  have e : h_pI σ (some m) 11 k v = some (h_setI σ m k v) := by
    show (if h_tg σ m = 11 then some (h_setI σ m k v) else none) = _
    rw [if_pos hV.1]
  rw [e]
  exact h _ _ (MV_pI hV hk) (MF_I hF (Or.inl rfl))
theorem MV_sI {k : Nat} {j : Nat} {v : Int32} (hV : MV σ m A ms) (hk : k_tag k ≠ 0) : MV (h_setI σ (A k) j v) m A (ms.1, h_up2 ms.2.1 k j v, ms.2.2) := by
  obtain ⟨v1, v2, v3, v4, v5, v6⟩ := hV
  have hne : A k ≠ m := MV.ne ⟨v1, v2, v3, v4, v5, v6⟩ hk (k_tag11 k)
  refine ⟨v1, v2, v3, fun k' hk' => ?_, fun k' hk' j' => ?_, v6⟩
  · have := v4 k' hk'
    simpa [h_setI, h_iv, h_up2, Ne.symm hne] using this
  · have := v5 k' hk' j'
    by_cases e : k' = k
    · subst e
      by_cases ej : j' = j
      · subst ej; simp [h_setI, h_iv, h_up2]
      · simpa [h_setI, h_iv, h_up2, ej] using this
    · have hA : A k' ≠ A k := fun z => e (v3 k' k hk' hk z)
      simpa [h_setI, h_iv, h_up2, e, hA] using this
theorem MV_sL {j : Nat} {v : Int64} (hV : MV σ m A ms) : MV (h_setL σ (A 13) j v) m A (ms.1, ms.2.1, va_up ms.2.2 j v) := by
  obtain ⟨v1, v2, v3, v4, v5, v6⟩ := hV
  refine ⟨v1, v2, v3, v4, v5, fun j' => ?_⟩
  have := v6 j'
  by_cases ej : j' = j
  · subst ej; simp [h_setL, h_lv, h_up2, va_up]
  · simpa [h_setL, h_lv, h_up2, va_up, ej] using this
theorem Rl_sI {k t : Nat} {i v : Int32} {F : HS → Option (α × HS)} {G : MS → Option (α × MS)} (hV : MV σ m A ms) (hF : MF σ0 σ m A) (hk : k_tag k ≠ 0) (ht : k_tag k = t) (h : ∀ σ1 ms1, MV σ1 m A ms1 → MF σ0 σ1 m A → Rl σ0 m A (F σ1) (G ms1)) : Rl σ0 m A (h_b1 (h_sI σ (some (A k)) t i v) F) (h_b1 (k_sI ms k i v) G) := by
  have e : h_sI σ (some (A k)) t i v = if k_in k i = true then some (h_setI σ (A k) i.toNatClampNeg v) else none := by
    show (if h_ok σ (A k) t i = true then some (h_setI σ (A k) i.toNatClampNeg v) else none) = _
    rw [k_ok hV hk ht]
  rw [e]
  unfold k_sI
  by_cases hi : k_in k i = true
  · rw [if_pos hi, if_pos hi]
    exact h _ _ (MV_sI hV hk) (MF_I hF (Or.inr ⟨k, hk, rfl⟩))
  · rw [if_neg hi, if_neg hi]
    exact Rl_none
theorem Rl_sL {i : Int32} {v : Int64} {F : HS → Option (α × HS)} {G : MS → Option (α × MS)} (hV : MV σ m A ms) (hF : MF σ0 σ m A) (h : ∀ σ1 ms1, MV σ1 m A ms1 → MF σ0 σ1 m A → Rl σ0 m A (F σ1) (G ms1)) : Rl σ0 m A (h_b1 (h_sL σ (some (A 13)) 101 i v) F) (h_b1 (k_sL ms i v) G) := by
  have e : h_sL σ (some (A 13)) 101 i v = if k_in 13 i = true then some (h_setL σ (A 13) i.toNatClampNeg v) else none := by
    show (if h_ok σ (A 13) 101 i = true then some (h_setL σ (A 13) i.toNatClampNeg v) else none) = _
    rw [k_ok hV (by decide) (by decide)]
  rw [e]
  unfold k_sL
  by_cases hi : k_in 13 i = true
  · rw [if_pos hi, if_pos hi]
    exact h _ _ (MV_sL hV) (MF_L hF ⟨13, by decide, rfl⟩)
  · rw [if_neg hi, if_neg hi]
    exact Rl_none
theorem Rl_bd {o1 : Option (β × HS)} {o2 : Option (β × MS)} {F : β → HS → Option (α × HS)} {G : β → MS → Option (α × MS)} (hF : MF σ0 σ m A) (hq : Rl σ m A o1 o2) (h : ∀ r σ1 ms1, MV σ1 m A ms1 → MF σ0 σ1 m A → Rl σ0 m A (F r σ1) (G r ms1)) : Rl σ0 m A (h_bd o1 F) (k_bd o2 G) := by
  cases o2 with
  | none => exact Rl_none
  | some q =>
    obtain ⟨σ1, e1, hV1, hF1⟩ := hq q.1 q.2 rfl
    rw [e1]
    exact h q.1 σ1 q.2 hV1 (hF.tr hF1)
end RL
end
/-! from 22.num01 -/
section
/-! X10_in -/
def p_X10_in (ms : MS) (a0 : Int32) (a1 : Int32) (a2 : Int32) : Option (Int32 × MS) :=
  if a0 < a1 then
    some (0, ms)
  else
    if a2 < a0 then
      some (0, ms)
    else
      some (1, ms)
set_option maxHeartbeats 4000000 in
set_option maxRecDepth 100000 in
theorem q_X10_in {σ : HS} {m : Nat} {A : Nat → Nat} {ms : MS} (hV : MV σ m A ms) (a0 : Int32) (a1 : Int32) (a2 : Int32) : Rl σ m A (f_X10_in σ a0 a1 a2) (p_X10_in ms a0 a1 a2) := by
  have hF : MF σ σ m A := MF.rf
  unfold f_X10_in p_X10_in
  refine Rl_ite (fun _ => ?_) (fun _ => ?_)
  · exact Rl_ret hV hF
  · refine Rl_ite (fun _ => ?_) (fun _ => ?_)
    · exact Rl_ret hV hF
    · exact Rl_ret hV hF
/-! X10_begin -/
def p_X10_begin (ms : MS) (a0 : Int32) (a1 : Int32) (a2 : Int32) : Option (Int32 × MS) :=
  if a2 = 0 then
    some (1, ms)
  else
    if (h_ushr (a0 ^^^ a1) (32 - a2)) = 0 then
      some (1, ms)
    else
      some (0, ms)
set_option maxHeartbeats 4000000 in
set_option maxRecDepth 100000 in
theorem q_X10_begin {σ : HS} {m : Nat} {A : Nat → Nat} {ms : MS} (hV : MV σ m A ms) (a0 : Int32) (a1 : Int32) (a2 : Int32) : Rl σ m A (f_X10_begin σ a0 a1 a2) (p_X10_begin ms a0 a1 a2) := by
  have hF : MF σ σ m A := MF.rf
  unfold f_X10_begin p_X10_begin
  refine Rl_ite (fun _ => ?_) (fun _ => ?_)
  · exact Rl_ret hV hF
  · refine Rl_ite (fun _ => ?_) (fun _ => ?_)
    · exact Rl_ret hV hF
    · exact Rl_ret hV hF
/-! X10_isPrefix -/
def p_X10_isPrefix (ms : MS) (a0 : Int32) (a1 : Int32) : Option (Int32 × MS) :=
  k_bd (p_X10_in ms a1 0 32) fun r1 q2 =>
  if r1 = 0 then
    some (0, q2)
  else
    if a1 = 0 then
      if a0 = 0 then
        some (1, q2)
      else
        some (0, q2)
    else
      if a1 = 32 then
        some (1, q2)
      else
        if (a0 <<< (a1 &&& 31)) = 0 then
          some (1, q2)
        else
          some (0, q2)
set_option maxHeartbeats 4000000 in
set_option maxRecDepth 100000 in
theorem q_X10_isPrefix {σ : HS} {m : Nat} {A : Nat → Nat} {ms : MS} (hV : MV σ m A ms) (a0 : Int32) (a1 : Int32) : Rl σ m A (f_X10_isPrefix σ a0 a1) (p_X10_isPrefix ms a0 a1) := by
  have hF : MF σ σ m A := MF.rf
  unfold f_X10_isPrefix p_X10_isPrefix
  refine Rl_bd hF (q_X10_in hV _ _ _) (fun r1 _ q2 hV hF => ?_)
  refine Rl_ite (fun _ => ?_) (fun _ => ?_)
  · exact Rl_ret hV hF
  · refine Rl_ite (fun _ => ?_) (fun _ => ?_)
    · refine Rl_ite (fun _ => ?_) (fun _ => ?_)
      · exact Rl_ret hV hF
      · exact Rl_ret hV hF
    · refine Rl_ite (fun _ => ?_) (fun _ => ?_)
      · exact Rl_ret hV hF
      · refine Rl_ite (fun _ => ?_) (fun _ => ?_)
        · exact Rl_ret hV hF
        · exact Rl_ret hV hF
/-! X10_holds -/
def p_X10_holds (ms : MS) (a0 : Int32) (a1 : Int32) (a2 : Int32) (a3 : Int32) : Option (Int32 × MS) :=
  if a3 < a1 then
    some (0, ms)
  else
    k_bd (p_X10_begin ms a0 a2 a1) fun r1 q2 =>
    if r1 = 0 then
      some (0, q2)
    else
      some (1, q2)
set_option maxHeartbeats 4000000 in
set_option maxRecDepth 100000 in
theorem q_X10_holds {σ : HS} {m : Nat} {A : Nat → Nat} {ms : MS} (hV : MV σ m A ms) (a0 : Int32) (a1 : Int32) (a2 : Int32) (a3 : Int32) : Rl σ m A (f_X10_holds σ a0 a1 a2 a3) (p_X10_holds ms a0 a1 a2 a3) := by
  have hF : MF σ σ m A := MF.rf
  unfold f_X10_holds p_X10_holds
  refine Rl_ite (fun _ => ?_) (fun _ => ?_)
  · exact Rl_ret hV hF
  · refine Rl_bd hF (q_X10_begin hV _ _ _) (fun r1 _ q2 hV hF => ?_)
    refine Rl_ite (fun _ => ?_) (fun _ => ?_)
    · exact Rl_ret hV hF
    · exact Rl_ret hV hF
/-! X10_isServerAt -/
def p_X10_isServerAt (ms : MS) (a1 : Int32) : Option (Int32 × MS) :=
  k_bd (p_X10_in ms a1 0 7) fun r1 q2 =>
  if r1 = 0 then
    some (0, q2)
  else
    h_b1 (k_aI q2 3 a1) fun x3 =>
    if x3 = 0 then
      some (0, q2)
    else
      some (1, q2)
set_option maxHeartbeats 4000000 in
set_option maxRecDepth 100000 in
theorem q_X10_isServerAt {σ : HS} {m : Nat} {A : Nat → Nat} {ms : MS} (hV : MV σ m A ms) (a1 : Int32) : Rl σ m A (f_X10_isServerAt σ (some m) a1) (p_X10_isServerAt ms a1) := by
  have hF : MF σ σ m A := MF.rf
  unfold f_X10_isServerAt p_X10_isServerAt
  refine Rl_bd hF (q_X10_in hV _ _ _) (fun r1 _ q2 hV hF => ?_)
  refine Rl_ite (fun _ => ?_) (fun _ => ?_)
  · exact Rl_ret hV hF
  · refine Rl_gR hV (by decide) ?_
    refine Rl_aI hV (by decide) (by decide) (fun x3 => ?_)
    refine Rl_ite (fun _ => ?_) (fun _ => ?_)
    · exact Rl_ret hV hF
    · exact Rl_ret hV hF
/-! X10_isSite -/
def p_X10_isSite (ms : MS) (a1 : Int32) : Option (Int32 × MS) :=
  k_bd (p_X10_in ms a1 0 7) fun r1 q2 =>
  if r1 = 0 then
    some (0, q2)
  else
    h_b1 (k_aI q2 14 a1) fun x3 =>
    if x3 = (-1) then
      some (0, q2)
    else
      some (1, q2)
set_option maxHeartbeats 4000000 in
set_option maxRecDepth 100000 in
theorem q_X10_isSite {σ : HS} {m : Nat} {A : Nat → Nat} {ms : MS} (hV : MV σ m A ms) (a1 : Int32) : Rl σ m A (f_X10_isSite σ (some m) a1) (p_X10_isSite ms a1) := by
  have hF : MF σ σ m A := MF.rf
  unfold f_X10_isSite p_X10_isSite
  refine Rl_bd hF (q_X10_in hV _ _ _) (fun r1 _ q2 hV hF => ?_)
  refine Rl_ite (fun _ => ?_) (fun _ => ?_)
  · exact Rl_ret hV hF
  · refine Rl_gR hV (by decide) ?_
    refine Rl_aI hV (by decide) (by decide) (fun x3 => ?_)
    refine Rl_ite (fun _ => ?_) (fun _ => ?_)
    · exact Rl_ret hV hF
    · exact Rl_ret hV hF
/-! X10_owner -/
def pg_X10_owner_72 : Nat → MS → Int32 → Int32 → Int32 → Int32 → Option (Int32 × MS)
  | 0, _, _, _, _, _ => none
  | n + 1, ms, l1, l2, l3, l4 =>
    if 8 ≤ l4 then
      some (l3, ms)
    else
      if l4 = l3 then
        pg_X10_owner_72 n ms l1 l2 l3 (l4 + 1)
      else
        h_b1 (k_aI ms 3 l4) fun x1 =>
        if x1 = 0 then
          pg_X10_owner_72 n ms l1 l2 l3 (l4 + 1)
        else
          h_b1 (k_aI ms 4 l4) fun x2 =>
          h_b1 (k_aI ms 5 l4) fun x3 =>
          k_bd (p_X10_holds ms l1 l2 x2 x3) fun r4 q5 =>
          if r4 = 0 then
            pg_X10_owner_72 n q5 l1 l2 l3 (l4 + 1)
          else
            some ((-1), q5)
def pg_X10_owner_5 : Nat → MS → Int32 → Int32 → Int32 → Int32 → Option (Int32 × MS)
  | 0, _, _, _, _, _ => none
  | n + 1, ms, l1, l2, l3, l4 =>
    if 8 ≤ l4 then
      pg_X10_owner_72 h_hN ms l1 l2 l3 0
    else
      h_b1 (k_aI ms 3 l4) fun x6 =>
      if x6 = 0 then
        pg_X10_owner_5 n ms l1 l2 l3 (l4 + 1)
      else
        h_b1 (k_aI ms 4 l4) fun x7 =>
        h_b1 (k_aI ms 5 l4) fun x8 =>
        k_bd (p_X10_holds ms x7 x8 l1 l2) fun r9 q10 =>
        if r9 = 0 then
          pg_X10_owner_5 n q10 l1 l2 l3 (l4 + 1)
        else
          h_b1 (k_aI q10 5 l4) fun x11 =>
          h_b1 (k_aI q10 5 l3) fun x12 =>
          if x11 < x12 then
            pg_X10_owner_5 n q10 l1 l2 l3 (l4 + 1)
          else
            pg_X10_owner_5 n q10 l1 l2 l4 (l4 + 1)
def p_X10_owner (ms : MS) (a1 : Int32) (a2 : Int32) : Option (Int32 × MS) :=
  pg_X10_owner_5 h_hN ms a1 a2 0 0
set_option maxHeartbeats 4000000 in
set_option maxRecDepth 100000 in
theorem qg_X10_owner_72 {σ0 : HS} {m : Nat} {A : Nat → Nat} : ∀ (n : Nat) (σ : HS) (ms : MS) (l1 : Int32) (l2 : Int32) (l3 : Int32) (l4 : Int32), MV σ m A ms → MF σ0 σ m A → Rl σ0 m A (g_X10_owner_72 n σ (some m) l1 l2 l3 l4) (pg_X10_owner_72 n ms l1 l2 l3 l4) := by
  intro n
  induction n with
  | zero =>
    intro σ ms l1 l2 l3 l4 hV hF
    rw [pg_X10_owner_72]
    exact Rl_none
  | succ n ih =>
    intro σ ms l1 l2 l3 l4 hV hF
    rw [pg_X10_owner_72, g_X10_owner_72]
    refine Rl_ite (fun _ => ?_) (fun _ => ?_)
    · exact Rl_ret hV hF
    · refine Rl_ite (fun _ => ?_) (fun _ => ?_)
      · exact ih _ ms l1 l2 l3 (l4 + 1) hV hF
      · refine Rl_gR hV (by decide) ?_
        refine Rl_aI hV (by decide) (by decide) (fun x1 => ?_)
        refine Rl_ite (fun _ => ?_) (fun _ => ?_)
        · exact ih _ ms l1 l2 l3 (l4 + 1) hV hF
        · refine Rl_gR hV (by decide) ?_
          refine Rl_aI hV (by decide) (by decide) (fun x2 => ?_)
          refine Rl_gR hV (by decide) ?_
          refine Rl_aI hV (by decide) (by decide) (fun x3 => ?_)
          refine Rl_bd hF (q_X10_holds hV _ _ _ _) (fun r4 _ q5 hV hF => ?_)
          refine Rl_ite (fun _ => ?_) (fun _ => ?_)
          · exact ih _ q5 l1 l2 l3 (l4 + 1) hV hF
          · exact Rl_ret hV hF
set_option maxHeartbeats 4000000 in
set_option maxRecDepth 100000 in
theorem qg_X10_owner_5 {σ0 : HS} {m : Nat} {A : Nat → Nat} : ∀ (n : Nat) (σ : HS) (ms : MS) (l1 : Int32) (l2 : Int32) (l3 : Int32) (l4 : Int32), MV σ m A ms → MF σ0 σ m A → Rl σ0 m A (g_X10_owner_5 n σ (some m) l1 l2 l3 l4) (pg_X10_owner_5 n ms l1 l2 l3 l4) := by
  intro n
  induction n with
  | zero =>
    intro σ ms l1 l2 l3 l4 hV hF
    rw [pg_X10_owner_5]
    exact Rl_none
  | succ n ih =>
    intro σ ms l1 l2 l3 l4 hV hF
    rw [pg_X10_owner_5, g_X10_owner_5]
    refine Rl_ite (fun _ => ?_) (fun _ => ?_)
    · exact qg_X10_owner_72 h_hN _ ms l1 l2 l3 0 hV hF
    · refine Rl_gR hV (by decide) ?_
      refine Rl_aI hV (by decide) (by decide) (fun x6 => ?_)
      refine Rl_ite (fun _ => ?_) (fun _ => ?_)
      · exact ih _ ms l1 l2 l3 (l4 + 1) hV hF
      · refine Rl_gR hV (by decide) ?_
        refine Rl_aI hV (by decide) (by decide) (fun x7 => ?_)
        refine Rl_gR hV (by decide) ?_
        refine Rl_aI hV (by decide) (by decide) (fun x8 => ?_)
        refine Rl_bd hF (q_X10_holds hV _ _ _ _) (fun r9 _ q10 hV hF => ?_)
        refine Rl_ite (fun _ => ?_) (fun _ => ?_)
        · exact ih _ q10 l1 l2 l3 (l4 + 1) hV hF
        · refine Rl_gR hV (by decide) ?_
          refine Rl_aI hV (by decide) (by decide) (fun x11 => ?_)
          refine Rl_gR hV (by decide) ?_
          refine Rl_aI hV (by decide) (by decide) (fun x12 => ?_)
          refine Rl_ite (fun _ => ?_) (fun _ => ?_)
          · exact ih _ q10 l1 l2 l3 (l4 + 1) hV hF
          · exact ih _ q10 l1 l2 l4 (l4 + 1) hV hF
set_option maxHeartbeats 4000000 in
set_option maxRecDepth 100000 in
theorem q_X10_owner {σ : HS} {m : Nat} {A : Nat → Nat} {ms : MS} (hV : MV σ m A ms) (a1 : Int32) (a2 : Int32) : Rl σ m A (f_X10_owner σ (some m) a1 a2) (p_X10_owner ms a1 a2) := by
  have hF : MF σ σ m A := MF.rf
  unfold f_X10_owner p_X10_owner
  exact qg_X10_owner_5 h_hN _ ms a1 a2 0 0 hV hF
/-! X10_delegate -/
def pj_X10_delegate_79 (ms : MS) (l1 : Int32) (l2 : Int32) (l3 : Int32) (l4 : Int32) : Option (Unit × MS) :=
  if (ms.1 0) ≤ 0 then
    h_b1 (k_sI ms 3 l2 1) fun q4 =>
    h_b1 (k_sI q4 4 l2 l3) fun q5 =>
    h_b1 (k_sI q5 5 l2 l4) fun q6 =>
    h_b1 (k_sI q6 6 l2 l1) fun q7 =>
    some ((), q7)
  else
    some ((), ms)
def pj_X10_delegate_74 (ms : MS) (l1 : Int32) (l2 : Int32) (l3 : Int32) (l4 : Int32) : Option (Unit × MS) :=
  k_lt (k_pI ms 0 1) fun q10 =>
  pj_X10_delegate_79 q10 l1 l2 l3 l4
def pj_X10_delegate_42 (ms : MS) (l1 : Int32) (l2 : Int32) (l3 : Int32) (l4 : Int32) (t0 : Int32) : Option (Unit × MS) :=
  k_lt (k_pI ms 0 t0) fun q3 =>
  if (q3.1 0) = 0 then
    k_bd (p_X10_owner q3 l3 l4) fun r8 q9 =>
    if r8 = l1 then
      h_b1 (k_aI q9 5 l1) fun x11 =>
      if x11 = l4 then
        pj_X10_delegate_74 q9 l1 l2 l3 l4
      else
        pj_X10_delegate_79 q9 l1 l2 l3 l4
    else
      pj_X10_delegate_74 q9 l1 l2 l3 l4
  else
    pj_X10_delegate_79 q3 l1 l2 l3 l4
def pj_X10_delegate_41 (ms : MS) (l1 : Int32) (l2 : Int32) (l3 : Int32) (l4 : Int32) : Option (Unit × MS) :=
  pj_X10_delegate_42 ms l1 l2 l3 l4 1
def p_X10_delegate (ms : MS) (a1 : Int32) (a2 : Int32) (a3 : Int32) (a4 : Int32) : Option (Unit × MS) :=
  k_bd (p_X10_isServerAt ms a1) fun r1 q2 =>
  if r1 = 0 then
    pj_X10_delegate_41 q2 a1 a2 a3 a4
  else
    k_bd (p_X10_in q2 a2 0 7) fun r12 q13 =>
    if r12 = 0 then
      pj_X10_delegate_41 q13 a1 a2 a3 a4
    else
      h_b1 (k_aI q13 3 a2) fun x14 =>
      if x14 = 0 then
        k_bd (p_X10_isPrefix q13 a3 a4) fun r15 q16 =>
        if r15 = 0 then
          pj_X10_delegate_41 q16 a1 a2 a3 a4
        else
          pj_X10_delegate_42 q16 a1 a2 a3 a4 0
      else
        pj_X10_delegate_41 q13 a1 a2 a3 a4
set_option maxHeartbeats 4000000 in
set_option maxRecDepth 100000 in
theorem qj_X10_delegate_79 {σ0 : HS} {m : Nat} {A : Nat → Nat} (σ : HS) (ms : MS) (l1 : Int32) (l2 : Int32) (l3 : Int32) (l4 : Int32) (hV : MV σ m A ms) (hF : MF σ0 σ m A) : Rl σ0 m A (j_X10_delegate_79 σ (some m) l1 l2 l3 l4) (pj_X10_delegate_79 ms l1 l2 l3 l4) := by
  unfold j_X10_delegate_79 pj_X10_delegate_79
  refine Rl_gI hV (by decide) ?_
  refine Rl_ite (fun _ => ?_) (fun _ => ?_)
  · refine Rl_gR hV (by decide) ?_
    refine Rl_sI hV hF (by decide) (by decide) (fun _ q4 hV hF => ?_)
    refine Rl_gR hV (by decide) ?_
    refine Rl_sI hV hF (by decide) (by decide) (fun _ q5 hV hF => ?_)
    refine Rl_gR hV (by decide) ?_
    refine Rl_sI hV hF (by decide) (by decide) (fun _ q6 hV hF => ?_)
    refine Rl_gR hV (by decide) ?_
    refine Rl_sI hV hF (by decide) (by decide) (fun _ q7 hV hF => ?_)
    exact Rl_ret hV hF
  · exact Rl_ret hV hF
set_option maxHeartbeats 4000000 in
set_option maxRecDepth 100000 in
theorem qj_X10_delegate_74 {σ0 : HS} {m : Nat} {A : Nat → Nat} (σ : HS) (ms : MS) (l1 : Int32) (l2 : Int32) (l3 : Int32) (l4 : Int32) (hV : MV σ m A ms) (hF : MF σ0 σ m A) : Rl σ0 m A (j_X10_delegate_74 σ (some m) l1 l2 l3 l4) (pj_X10_delegate_74 ms l1 l2 l3 l4) := by
  unfold j_X10_delegate_74 pj_X10_delegate_74
  refine Rl_pI hV hF (by decide) (fun _ q10 hV hF => ?_)
  exact qj_X10_delegate_79 _ q10 l1 l2 l3 l4 hV hF
set_option maxHeartbeats 4000000 in
set_option maxRecDepth 100000 in
theorem qj_X10_delegate_42 {σ0 : HS} {m : Nat} {A : Nat → Nat} (σ : HS) (ms : MS) (l1 : Int32) (l2 : Int32) (l3 : Int32) (l4 : Int32) (t0 : Int32) (hV : MV σ m A ms) (hF : MF σ0 σ m A) : Rl σ0 m A (j_X10_delegate_42 σ (some m) l1 l2 l3 l4 t0 (some m)) (pj_X10_delegate_42 ms l1 l2 l3 l4 t0) := by
  unfold j_X10_delegate_42 pj_X10_delegate_42
  refine Rl_pI hV hF (by decide) (fun _ q3 hV hF => ?_)
  refine Rl_gI hV (by decide) ?_
  refine Rl_ite (fun _ => ?_) (fun _ => ?_)
  · refine Rl_rcv hV ?_
    refine Rl_bd hF (q_X10_owner hV _ _) (fun r8 _ q9 hV hF => ?_)
    refine Rl_ite (fun _ => ?_) (fun _ => ?_)
    · refine Rl_gR hV (by decide) ?_
      refine Rl_aI hV (by decide) (by decide) (fun x11 => ?_)
      refine Rl_ite (fun _ => ?_) (fun _ => ?_)
      · exact qj_X10_delegate_74 _ q9 l1 l2 l3 l4 hV hF
      · exact qj_X10_delegate_79 _ q9 l1 l2 l3 l4 hV hF
    · exact qj_X10_delegate_74 _ q9 l1 l2 l3 l4 hV hF
  · exact qj_X10_delegate_79 _ q3 l1 l2 l3 l4 hV hF
set_option maxHeartbeats 4000000 in
set_option maxRecDepth 100000 in
theorem qj_X10_delegate_41 {σ0 : HS} {m : Nat} {A : Nat → Nat} (σ : HS) (ms : MS) (l1 : Int32) (l2 : Int32) (l3 : Int32) (l4 : Int32) (hV : MV σ m A ms) (hF : MF σ0 σ m A) : Rl σ0 m A (j_X10_delegate_41 σ (some m) l1 l2 l3 l4 (some m)) (pj_X10_delegate_41 ms l1 l2 l3 l4) := by
  unfold j_X10_delegate_41 pj_X10_delegate_41
  exact qj_X10_delegate_42 _ ms l1 l2 l3 l4 1 hV hF
set_option maxHeartbeats 4000000 in
set_option maxRecDepth 100000 in
theorem q_X10_delegate {σ : HS} {m : Nat} {A : Nat → Nat} {ms : MS} (hV : MV σ m A ms) (a1 : Int32) (a2 : Int32) (a3 : Int32) (a4 : Int32) : Rl σ m A (f_X10_delegate σ (some m) a1 a2 a3 a4) (p_X10_delegate ms a1 a2 a3 a4) := by
  have hF : MF σ σ m A := MF.rf
  unfold f_X10_delegate p_X10_delegate
  refine Rl_rcv hV ?_
  refine Rl_bd hF (q_X10_isServerAt hV _) (fun r1 _ q2 hV hF => ?_)
  refine Rl_ite (fun _ => ?_) (fun _ => ?_)
  · exact qj_X10_delegate_41 _ q2 a1 a2 a3 a4 hV hF
  · refine Rl_bd hF (q_X10_in hV _ _ _) (fun r12 _ q13 hV hF => ?_)
    refine Rl_ite (fun _ => ?_) (fun _ => ?_)
    · exact qj_X10_delegate_41 _ q13 a1 a2 a3 a4 hV hF
    · refine Rl_gR hV (by decide) ?_
      refine Rl_aI hV (by decide) (by decide) (fun x14 => ?_)
      refine Rl_ite (fun _ => ?_) (fun _ => ?_)
      · refine Rl_bd hF (q_X10_isPrefix hV _ _) (fun r15 _ q16 hV hF => ?_)
        refine Rl_ite (fun _ => ?_) (fun _ => ?_)
        · exact qj_X10_delegate_41 _ q16 a1 a2 a3 a4 hV hF
        · exact qj_X10_delegate_42 _ q16 a1 a2 a3 a4 0 hV hF
      · exact qj_X10_delegate_41 _ q13 a1 a2 a3 a4 hV hF
/-! X10_siteAt -/
def pg_X10_siteAt_2 : Nat → MS → Int32 → Int32 → Option (Int32 × MS)
  | 0, _, _, _ => none
  | n + 1, ms, l1, l2 =>
    if 8 ≤ l2 then
      some ((-1), ms)
    else
      h_b1 (k_aI ms 14 l2) fun x1 =>
      if x1 = l1 then
        some (l2, ms)
      else
        pg_X10_siteAt_2 n ms l1 (l2 + 1)
def p_X10_siteAt (ms : MS) (a1 : Int32) : Option (Int32 × MS) :=
  pg_X10_siteAt_2 h_hN ms a1 0
set_option maxHeartbeats 4000000 in
set_option maxRecDepth 100000 in
theorem qg_X10_siteAt_2 {σ0 : HS} {m : Nat} {A : Nat → Nat} : ∀ (n : Nat) (σ : HS) (ms : MS) (l1 : Int32) (l2 : Int32), MV σ m A ms → MF σ0 σ m A → Rl σ0 m A (g_X10_siteAt_2 n σ (some m) l1 l2) (pg_X10_siteAt_2 n ms l1 l2) := by
  intro n
  induction n with
  | zero =>
    intro σ ms l1 l2 hV hF
    rw [pg_X10_siteAt_2]
    exact Rl_none
  | succ n ih =>
    intro σ ms l1 l2 hV hF
    rw [pg_X10_siteAt_2, g_X10_siteAt_2]
    refine Rl_ite (fun _ => ?_) (fun _ => ?_)
    · exact Rl_ret hV hF
    · refine Rl_gR hV (by decide) ?_
      refine Rl_aI hV (by decide) (by decide) (fun x1 => ?_)
      refine Rl_ite (fun _ => ?_) (fun _ => ?_)
      · exact Rl_ret hV hF
      · exact ih _ ms l1 (l2 + 1) hV hF
set_option maxHeartbeats 4000000 in
set_option maxRecDepth 100000 in
theorem q_X10_siteAt {σ : HS} {m : Nat} {A : Nat → Nat} {ms : MS} (hV : MV σ m A ms) (a1 : Int32) : Rl σ m A (f_X10_siteAt σ (some m) a1) (p_X10_siteAt ms a1) := by
  have hF : MF σ σ m A := MF.rf
  unfold f_X10_siteAt p_X10_siteAt
  exact qg_X10_siteAt_2 h_hN _ ms a1 0 hV hF
/-! X10_site -/
def pj_X10_site_45 (ms : MS) (l1 : Int32) (l2 : Int32) (t0 : Int32) : Option (Unit × MS) :=
  k_lt (k_pI ms 0 t0) fun q3 =>
  if (q3.1 0) = 0 then
    h_b1 (k_sI q3 14 l1 l2) fun q4 =>
    some ((), q4)
  else
    some ((), q3)
def pj_X10_site_44 (ms : MS) (l1 : Int32) (l2 : Int32) : Option (Unit × MS) :=
  pj_X10_site_45 ms l1 l2 1
def p_X10_site (ms : MS) (a1 : Int32) (a2 : Int32) : Option (Unit × MS) :=
  k_bd (p_X10_in ms a1 0 7) fun r1 q2 =>
  if r1 = 0 then
    pj_X10_site_44 q2 a1 a2
  else
    h_b1 (k_aI q2 14 a1) fun x5 =>
    if x5 = (-1) then
      k_bd (p_X10_in q2 a2 0 15) fun r6 q7 =>
      if r6 = 0 then
        pj_X10_site_44 q7 a1 a2
      else
        k_bd (p_X10_siteAt q7 a2) fun r8 q9 =>
        if r8 = (-1) then
          pj_X10_site_45 q9 a1 a2 0
        else
          pj_X10_site_44 q9 a1 a2
    else
      pj_X10_site_44 q2 a1 a2
set_option maxHeartbeats 4000000 in
set_option maxRecDepth 100000 in
theorem qj_X10_site_45 {σ0 : HS} {m : Nat} {A : Nat → Nat} (σ : HS) (ms : MS) (l1 : Int32) (l2 : Int32) (t0 : Int32) (hV : MV σ m A ms) (hF : MF σ0 σ m A) : Rl σ0 m A (j_X10_site_45 σ (some m) l1 l2 t0 (some m)) (pj_X10_site_45 ms l1 l2 t0) := by
  unfold j_X10_site_45 pj_X10_site_45
  refine Rl_pI hV hF (by decide) (fun _ q3 hV hF => ?_)
  refine Rl_gI hV (by decide) ?_
  refine Rl_ite (fun _ => ?_) (fun _ => ?_)
  · refine Rl_gR hV (by decide) ?_
    refine Rl_sI hV hF (by decide) (by decide) (fun _ q4 hV hF => ?_)
    exact Rl_ret hV hF
  · exact Rl_ret hV hF
set_option maxHeartbeats 4000000 in
set_option maxRecDepth 100000 in
theorem qj_X10_site_44 {σ0 : HS} {m : Nat} {A : Nat → Nat} (σ : HS) (ms : MS) (l1 : Int32) (l2 : Int32) (hV : MV σ m A ms) (hF : MF σ0 σ m A) : Rl σ0 m A (j_X10_site_44 σ (some m) l1 l2 (some m)) (pj_X10_site_44 ms l1 l2) := by
  unfold j_X10_site_44 pj_X10_site_44
  exact qj_X10_site_45 _ ms l1 l2 1 hV hF
set_option maxHeartbeats 4000000 in
set_option maxRecDepth 100000 in
theorem q_X10_site {σ : HS} {m : Nat} {A : Nat → Nat} {ms : MS} (hV : MV σ m A ms) (a1 : Int32) (a2 : Int32) : Rl σ m A (f_X10_site σ (some m) a1 a2) (p_X10_site ms a1 a2) := by
  have hF : MF σ σ m A := MF.rf
  unfold f_X10_site p_X10_site
  refine Rl_bd hF (q_X10_in hV _ _ _) (fun r1 _ q2 hV hF => ?_)
  refine Rl_ite (fun _ => ?_) (fun _ => ?_)
  · exact qj_X10_site_44 _ q2 a1 a2 hV hF
  · refine Rl_gR hV (by decide) ?_
    refine Rl_aI hV (by decide) (by decide) (fun x5 => ?_)
    refine Rl_ite (fun _ => ?_) (fun _ => ?_)
    · refine Rl_bd hF (q_X10_in hV _ _ _) (fun r6 _ q7 hV hF => ?_)
      refine Rl_ite (fun _ => ?_) (fun _ => ?_)
      · exact qj_X10_site_44 _ q7 a1 a2 hV hF
      · refine Rl_rcv hV ?_
        refine Rl_bd hF (q_X10_siteAt hV _) (fun r8 _ q9 hV hF => ?_)
        refine Rl_ite (fun _ => ?_) (fun _ => ?_)
        · exact qj_X10_site_45 _ q9 a1 a2 0 hV hF
        · exact qj_X10_site_44 _ q9 a1 a2 hV hF
    · exact qj_X10_site_44 _ q2 a1 a2 hV hF
/-! X10_prefix -/
def pj_X10_prefix_111 (ms : MS) (l1 : Int32) (l2 : Int32) (l3 : Int32) : Option (Int32 × MS) :=
  if (ms.1 0) ≤ 0 then
    h_b1 (k_aI ms 15 l1) fun x4 =>
    h_b1 (k_sI ms 16 ((4 * l1) + x4) l2) fun q5 =>
    h_b1 (k_aI q5 15 l1) fun x6 =>
    h_b1 (k_sI q5 17 ((4 * l1) + x6) l3) fun q7 =>
    h_b1 (k_aI q7 15 l1) fun x8 =>
    h_b1 (k_sI q7 15 l1 (x8 + 1)) fun q9 =>
    h_b1 (k_aI q9 15 l1) fun x10 =>
    some ((x10 - 1), q9)
  else
    some (0, ms)
def pg_X10_prefix_48 : Nat → MS → Int32 → Int32 → Int32 → Int32 → Option (Int32 × MS)
  | 0, _, _, _, _, _ => none
  | n + 1, ms, l1, l2, l3, l4 =>
    if 32 ≤ l4 then
      pj_X10_prefix_111 ms l1 l2 l3
    else
      if (ms.1 0) = 0 then
        h_b1 (k_aI ms 15 (l4 / 4)) fun x11 =>
        if x11 ≤ (l4 - l4 / 4 * 4) then
          pg_X10_prefix_48 n ms l1 l2 l3 (l4 + 1)
        else
          h_b1 (k_aI ms 16 l4) fun x12 =>
          if x12 = l2 then
            h_b1 (k_aI ms 17 l4) fun x13 =>
            if x13 = l3 then
              k_lt (k_pI ms 0 1) fun q14 =>
              pg_X10_prefix_48 n q14 l1 l2 l3 (l4 + 1)
            else
              pg_X10_prefix_48 n ms l1 l2 l3 (l4 + 1)
          else
            pg_X10_prefix_48 n ms l1 l2 l3 (l4 + 1)
      else
        pj_X10_prefix_111 ms l1 l2 l3
def p_X10_prefix (ms : MS) (a1 : Int32) (a2 : Int32) (a3 : Int32) : Option (Int32 × MS) :=
  k_bd (p_X10_isSite ms a1) fun r1 q2 =>
  if r1 = 0 then
    k_lt (k_pI q2 0 1) fun q3 =>
    pg_X10_prefix_48 h_hN q3 a1 a2 a3 0
  else
    h_b1 (k_aI q2 15 a1) fun x15 =>
    if 4 ≤ x15 then
      k_lt (k_pI q2 0 1) fun q16 =>
      pg_X10_prefix_48 h_hN q16 a1 a2 a3 0
    else
      k_bd (p_X10_isPrefix q2 a2 a3) fun r17 q18 =>
      if r17 = 0 then
        k_lt (k_pI q18 0 1) fun q19 =>
        pg_X10_prefix_48 h_hN q19 a1 a2 a3 0
      else
        k_bd (p_X10_owner q18 a2 a3) fun r20 q21 =>
        if r20 = (-1) then
          k_lt (k_pI q21 0 1) fun q22 =>
          pg_X10_prefix_48 h_hN q22 a1 a2 a3 0
        else
          k_lt (k_pI q21 0 0) fun q23 =>
          pg_X10_prefix_48 h_hN q23 a1 a2 a3 0
set_option maxHeartbeats 4000000 in
set_option maxRecDepth 100000 in
theorem qj_X10_prefix_111 {σ0 : HS} {m : Nat} {A : Nat → Nat} (σ : HS) (ms : MS) (l1 : Int32) (l2 : Int32) (l3 : Int32) (hV : MV σ m A ms) (hF : MF σ0 σ m A) : Rl σ0 m A (j_X10_prefix_111 σ (some m) l1 l2 l3) (pj_X10_prefix_111 ms l1 l2 l3) := by
  unfold j_X10_prefix_111 pj_X10_prefix_111
  refine Rl_gI hV (by decide) ?_
  refine Rl_ite (fun _ => ?_) (fun _ => ?_)
  · refine Rl_gR hV (by decide) ?_
    refine Rl_gR hV (by decide) ?_
    refine Rl_aI hV (by decide) (by decide) (fun x4 => ?_)
    refine Rl_sI hV hF (by decide) (by decide) (fun _ q5 hV hF => ?_)
    refine Rl_gR hV (by decide) ?_
    refine Rl_gR hV (by decide) ?_
    refine Rl_aI hV (by decide) (by decide) (fun x6 => ?_)
    refine Rl_sI hV hF (by decide) (by decide) (fun _ q7 hV hF => ?_)
    refine Rl_gR hV (by decide) ?_
    refine Rl_aI hV (by decide) (by decide) (fun x8 => ?_)
    refine Rl_sI hV hF (by decide) (by decide) (fun _ q9 hV hF => ?_)
    refine Rl_gR hV (by decide) ?_
    refine Rl_aI hV (by decide) (by decide) (fun x10 => ?_)
    exact Rl_ret hV hF
  · exact Rl_ret hV hF
set_option maxHeartbeats 4000000 in
set_option maxRecDepth 100000 in
theorem qg_X10_prefix_48 {σ0 : HS} {m : Nat} {A : Nat → Nat} : ∀ (n : Nat) (σ : HS) (ms : MS) (l1 : Int32) (l2 : Int32) (l3 : Int32) (l4 : Int32), MV σ m A ms → MF σ0 σ m A → Rl σ0 m A (g_X10_prefix_48 n σ (some m) l1 l2 l3 l4) (pg_X10_prefix_48 n ms l1 l2 l3 l4) := by
  intro n
  induction n with
  | zero =>
    intro σ ms l1 l2 l3 l4 hV hF
    rw [pg_X10_prefix_48]
    exact Rl_none
  | succ n ih =>
    intro σ ms l1 l2 l3 l4 hV hF
    rw [pg_X10_prefix_48, g_X10_prefix_48]
    refine Rl_ite (fun _ => ?_) (fun _ => ?_)
    · exact qj_X10_prefix_111 _ ms l1 l2 l3 hV hF
    · refine Rl_gI hV (by decide) ?_
      refine Rl_ite (fun _ => ?_) (fun _ => ?_)
      · refine Rl_gR hV (by decide) ?_
        refine Rl_aI hV (by decide) (by decide) (fun x11 => ?_)
        refine Rl_ite (fun _ => ?_) (fun _ => ?_)
        · exact ih _ ms l1 l2 l3 (l4 + 1) hV hF
        · refine Rl_gR hV (by decide) ?_
          refine Rl_aI hV (by decide) (by decide) (fun x12 => ?_)
          refine Rl_ite (fun _ => ?_) (fun _ => ?_)
          · refine Rl_gR hV (by decide) ?_
            refine Rl_aI hV (by decide) (by decide) (fun x13 => ?_)
            refine Rl_ite (fun _ => ?_) (fun _ => ?_)
            · refine Rl_pI hV hF (by decide) (fun _ q14 hV hF => ?_)
              exact ih _ q14 l1 l2 l3 (l4 + 1) hV hF
            · exact ih _ ms l1 l2 l3 (l4 + 1) hV hF
          · exact ih _ ms l1 l2 l3 (l4 + 1) hV hF
      · exact qj_X10_prefix_111 _ ms l1 l2 l3 hV hF
set_option maxHeartbeats 4000000 in
set_option maxRecDepth 100000 in
theorem q_X10_prefix {σ : HS} {m : Nat} {A : Nat → Nat} {ms : MS} (hV : MV σ m A ms) (a1 : Int32) (a2 : Int32) (a3 : Int32) : Rl σ m A (f_X10_prefix σ (some m) a1 a2 a3) (p_X10_prefix ms a1 a2 a3) := by
  have hF : MF σ σ m A := MF.rf
  unfold f_X10_prefix p_X10_prefix
  refine Rl_rcv hV ?_
  refine Rl_bd hF (q_X10_isSite hV _) (fun r1 _ q2 hV hF => ?_)
  refine Rl_ite (fun _ => ?_) (fun _ => ?_)
  · refine Rl_pI hV hF (by decide) (fun _ q3 hV hF => ?_)
    exact qg_X10_prefix_48 h_hN _ q3 a1 a2 a3 0 hV hF
  · refine Rl_gR hV (by decide) ?_
    refine Rl_aI hV (by decide) (by decide) (fun x15 => ?_)
    refine Rl_ite (fun _ => ?_) (fun _ => ?_)
    · refine Rl_pI hV hF (by decide) (fun _ q16 hV hF => ?_)
      exact qg_X10_prefix_48 h_hN _ q16 a1 a2 a3 0 hV hF
    · refine Rl_bd hF (q_X10_isPrefix hV _ _) (fun r17 _ q18 hV hF => ?_)
      refine Rl_ite (fun _ => ?_) (fun _ => ?_)
      · refine Rl_pI hV hF (by decide) (fun _ q19 hV hF => ?_)
        exact qg_X10_prefix_48 h_hN _ q19 a1 a2 a3 0 hV hF
      · refine Rl_rcv hV ?_
        refine Rl_bd hF (q_X10_owner hV _ _) (fun r20 _ q21 hV hF => ?_)
        refine Rl_ite (fun _ => ?_) (fun _ => ?_)
        · refine Rl_pI hV hF (by decide) (fun _ q22 hV hF => ?_)
          exact qg_X10_prefix_48 h_hN _ q22 a1 a2 a3 0 hV hF
        · refine Rl_pI hV hF (by decide) (fun _ q23 hV hF => ?_)
          exact qg_X10_prefix_48 h_hN _ q23 a1 a2 a3 0 hV hF
/-! X10_move -/
def pj_X10_move_33 (ms : MS) (l1 : Int32) (l2 : Int32) (t0 : Int32) : Option (Unit × MS) :=
  k_lt (k_pI ms 0 t0) fun q3 =>
  if (q3.1 0) ≤ 0 then
    h_b1 (k_aI q3 14 l1) fun x4 =>
    h_b1 (k_sI q3 26 x4 l1) fun q5 =>
    h_b1 (k_aI q5 14 l1) fun x6 =>
    h_b1 (k_sI q5 27 x6 ((q5.1 1) + 30)) fun q7 =>
    h_b1 (k_sI q7 14 l1 l2) fun q8 =>
    some ((), q8)
  else
    some ((), q3)
def pj_X10_move_32 (ms : MS) (l1 : Int32) (l2 : Int32) : Option (Unit × MS) :=
  pj_X10_move_33 ms l1 l2 1
def p_X10_move (ms : MS) (a1 : Int32) (a2 : Int32) : Option (Unit × MS) :=
  k_bd (p_X10_isSite ms a1) fun r1 q2 =>
  if r1 = 0 then
    pj_X10_move_32 q2 a1 a2
  else
    k_bd (p_X10_in q2 a2 0 15) fun r9 q10 =>
    if r9 = 0 then
      pj_X10_move_32 q10 a1 a2
    else
      k_bd (p_X10_siteAt q10 a2) fun r11 q12 =>
      if r11 = (-1) then
        pj_X10_move_33 q12 a1 a2 0
      else
        pj_X10_move_32 q12 a1 a2
set_option maxHeartbeats 4000000 in
set_option maxRecDepth 100000 in
theorem qj_X10_move_33 {σ0 : HS} {m : Nat} {A : Nat → Nat} (σ : HS) (ms : MS) (l1 : Int32) (l2 : Int32) (t0 : Int32) (hV : MV σ m A ms) (hF : MF σ0 σ m A) : Rl σ0 m A (j_X10_move_33 σ (some m) l1 l2 t0 (some m)) (pj_X10_move_33 ms l1 l2 t0) := by
  unfold j_X10_move_33 pj_X10_move_33
  refine Rl_pI hV hF (by decide) (fun _ q3 hV hF => ?_)
  refine Rl_gI hV (by decide) ?_
  refine Rl_ite (fun _ => ?_) (fun _ => ?_)
  · refine Rl_gR hV (by decide) ?_
    refine Rl_gR hV (by decide) ?_
    refine Rl_aI hV (by decide) (by decide) (fun x4 => ?_)
    refine Rl_sI hV hF (by decide) (by decide) (fun _ q5 hV hF => ?_)
    refine Rl_gR hV (by decide) ?_
    refine Rl_gR hV (by decide) ?_
    refine Rl_aI hV (by decide) (by decide) (fun x6 => ?_)
    refine Rl_gI hV (by decide) ?_
    refine Rl_sI hV hF (by decide) (by decide) (fun _ q7 hV hF => ?_)
    refine Rl_gR hV (by decide) ?_
    refine Rl_sI hV hF (by decide) (by decide) (fun _ q8 hV hF => ?_)
    exact Rl_ret hV hF
  · exact Rl_ret hV hF
set_option maxHeartbeats 4000000 in
set_option maxRecDepth 100000 in
theorem qj_X10_move_32 {σ0 : HS} {m : Nat} {A : Nat → Nat} (σ : HS) (ms : MS) (l1 : Int32) (l2 : Int32) (hV : MV σ m A ms) (hF : MF σ0 σ m A) : Rl σ0 m A (j_X10_move_32 σ (some m) l1 l2 (some m)) (pj_X10_move_32 ms l1 l2) := by
  unfold j_X10_move_32 pj_X10_move_32
  exact qj_X10_move_33 _ ms l1 l2 1 hV hF
set_option maxHeartbeats 4000000 in
set_option maxRecDepth 100000 in
theorem q_X10_move {σ : HS} {m : Nat} {A : Nat → Nat} {ms : MS} (hV : MV σ m A ms) (a1 : Int32) (a2 : Int32) : Rl σ m A (f_X10_move σ (some m) a1 a2) (p_X10_move ms a1 a2) := by
  have hF : MF σ σ m A := MF.rf
  unfold f_X10_move p_X10_move
  refine Rl_rcv hV ?_
  refine Rl_bd hF (q_X10_isSite hV _) (fun r1 _ q2 hV hF => ?_)
  refine Rl_ite (fun _ => ?_) (fun _ => ?_)
  · exact qj_X10_move_32 _ q2 a1 a2 hV hF
  · refine Rl_bd hF (q_X10_in hV _ _ _) (fun r9 _ q10 hV hF => ?_)
    refine Rl_ite (fun _ => ?_) (fun _ => ?_)
    · exact qj_X10_move_32 _ q10 a1 a2 hV hF
    · refine Rl_rcv hV ?_
      refine Rl_bd hF (q_X10_siteAt hV _) (fun r11 _ q12 hV hF => ?_)
      refine Rl_ite (fun _ => ?_) (fun _ => ?_)
      · exact qj_X10_move_33 _ q12 a1 a2 0 hV hF
      · exact qj_X10_move_32 _ q12 a1 a2 hV hF
/-! X10_post -/
def p_X10_post (ms : MS) (a1 : Int32) (a2 : Int32) (a3 : Int32) (a4 : Int32) (a5 : Int32) (a6 : Int32) (a7 : Int32) : Option (Unit × MS) :=
  if (ms.1 36) = 200 then
    k_lt (k_pI ms 42 ((ms.1 42) + 1)) fun q10 =>
    some ((), q10)
  else
    h_b1 (k_sI ms 37 (8 * (ms.1 36)) a3) fun q1 =>
    h_b1 (k_sI q1 37 ((8 * (ms.1 36)) + 1) a4) fun q2 =>
    h_b1 (k_sI q2 37 ((8 * (ms.1 36)) + 2) a5) fun q3 =>
    h_b1 (k_sI q3 37 ((8 * (ms.1 36)) + 3) a6) fun q4 =>
    h_b1 (k_sI q4 37 ((8 * (ms.1 36)) + 4) a7) fun q5 =>
    h_b1 (k_sI q5 37 ((8 * (ms.1 36)) + 5) 0) fun q6 =>
    h_b1 (k_sI q6 37 ((8 * (ms.1 36)) + 6) a1) fun q7 =>
    h_b1 (k_sI q7 37 ((8 * (ms.1 36)) + 7) a2) fun q8 =>
    k_lt (k_pI q8 36 ((q8.1 36) + 1)) fun q9 =>
    some ((), q9)
set_option maxHeartbeats 4000000 in
set_option maxRecDepth 100000 in
theorem q_X10_post {σ : HS} {m : Nat} {A : Nat → Nat} {ms : MS} (hV : MV σ m A ms) (a1 : Int32) (a2 : Int32) (a3 : Int32) (a4 : Int32) (a5 : Int32) (a6 : Int32) (a7 : Int32) : Rl σ m A (f_X10_post σ (some m) a1 a2 a3 a4 a5 a6 a7) (p_X10_post ms a1 a2 a3 a4 a5 a6 a7) := by
  have hF : MF σ σ m A := MF.rf
  unfold f_X10_post p_X10_post
  refine Rl_gI hV (by decide) ?_
  refine Rl_ite (fun _ => ?_) (fun _ => ?_)
  · refine Rl_gI hV (by decide) ?_
    refine Rl_pI hV hF (by decide) (fun _ q10 hV hF => ?_)
    exact Rl_ret hV hF
  · refine Rl_gI hV (by decide) ?_
    refine Rl_gR hV (by decide) ?_
    refine Rl_sI hV hF (by decide) (by decide) (fun _ q1 hV hF => ?_)
    refine Rl_gR hV (by decide) ?_
    refine Rl_sI hV hF (by decide) (by decide) (fun _ q2 hV hF => ?_)
    refine Rl_gR hV (by decide) ?_
    refine Rl_sI hV hF (by decide) (by decide) (fun _ q3 hV hF => ?_)
    refine Rl_gR hV (by decide) ?_
    refine Rl_sI hV hF (by decide) (by decide) (fun _ q4 hV hF => ?_)
    refine Rl_gR hV (by decide) ?_
    refine Rl_sI hV hF (by decide) (by decide) (fun _ q5 hV hF => ?_)
    refine Rl_gR hV (by decide) ?_
    refine Rl_sI hV hF (by decide) (by decide) (fun _ q6 hV hF => ?_)
    refine Rl_gR hV (by decide) ?_
    refine Rl_sI hV hF (by decide) (by decide) (fun _ q7 hV hF => ?_)
    refine Rl_gR hV (by decide) ?_
    refine Rl_sI hV hF (by decide) (by decide) (fun _ q8 hV hF => ?_)
    refine Rl_gI hV (by decide) ?_
    refine Rl_pI hV hF (by decide) (fun _ q9 hV hF => ?_)
    exact Rl_ret hV hF
/-! X10_last -/
def p_X10_last (ms : MS) (a1 : Int32) (a2 : Int32) : Option (Unit × MS) :=
  if (ms.1 36) ≤ a2 then
    some ((), ms)
  else
    h_b1 (k_sI ms 37 ((8 * (ms.1 36)) - 3) a1) fun q1 =>
    some ((), q1)
set_option maxHeartbeats 4000000 in
set_option maxRecDepth 100000 in
theorem q_X10_last {σ : HS} {m : Nat} {A : Nat → Nat} {ms : MS} (hV : MV σ m A ms) (a1 : Int32) (a2 : Int32) : Rl σ m A (f_X10_last σ (some m) a1 a2) (p_X10_last ms a1 a2) := by
  have hF : MF σ σ m A := MF.rf
  unfold f_X10_last p_X10_last
  refine Rl_gI hV (by decide) ?_
  refine Rl_ite (fun _ => ?_) (fun _ => ?_)
  · exact Rl_ret hV hF
  · refine Rl_gR hV (by decide) ?_
    refine Rl_gI hV (by decide) ?_
    refine Rl_sI hV hF (by decide) (by decide) (fun _ q1 hV hF => ?_)
    exact Rl_ret hV hF
/-! X10_mix -/
def p_X10_mix (ms : MS) (a0 : Int32) (a1 : Int32) : Option (Int32 × MS) :=
  some ((((a0 ^^^ a1) * 16777619) ^^^ (h_ushr ((a0 ^^^ a1) * 16777619) 15)), ms)
set_option maxHeartbeats 4000000 in
set_option maxRecDepth 100000 in
theorem q_X10_mix {σ : HS} {m : Nat} {A : Nat → Nat} {ms : MS} (hV : MV σ m A ms) (a0 : Int32) (a1 : Int32) : Rl σ m A (f_X10_mix σ a0 a1) (p_X10_mix ms a0 a1) := by
  have hF : MF σ σ m A := MF.rf
  unfold f_X10_mix p_X10_mix
  exact Rl_ret hV hF
/-! X10_tag -/
def p_X10_tag (ms : MS) (a0 : Int32) (a1 : Int32) (a2 : Int32) (a3 : Int32) (a4 : Int32) : Option (Int32 × MS) :=
  k_bd (p_X10_mix ms ((a0 + 1) * 40503) a0) fun r1 q2 =>
  k_bd (p_X10_mix q2 r1 a1) fun r3 q4 =>
  k_bd (p_X10_mix q4 r3 a2) fun r5 q6 =>
  k_bd (p_X10_mix q6 r5 a3) fun r7 q8 =>
  k_bd (p_X10_mix q8 r7 a4) fun r9 q10 =>
  some (r9, q10)
set_option maxHeartbeats 4000000 in
set_option maxRecDepth 100000 in
theorem q_X10_tag {σ : HS} {m : Nat} {A : Nat → Nat} {ms : MS} (hV : MV σ m A ms) (a0 : Int32) (a1 : Int32) (a2 : Int32) (a3 : Int32) (a4 : Int32) : Rl σ m A (f_X10_tag σ a0 a1 a2 a3 a4) (p_X10_tag ms a0 a1 a2 a3 a4) := by
  have hF : MF σ σ m A := MF.rf
  unfold f_X10_tag p_X10_tag
  refine Rl_bd hF (q_X10_mix hV _ _) (fun r1 _ q2 hV hF => ?_)
  refine Rl_bd hF (q_X10_mix hV _ _) (fun r3 _ q4 hV hF => ?_)
  refine Rl_bd hF (q_X10_mix hV _ _) (fun r5 _ q6 hV hF => ?_)
  refine Rl_bd hF (q_X10_mix hV _ _) (fun r7 _ q8 hV hF => ?_)
  refine Rl_bd hF (q_X10_mix hV _ _) (fun r9 _ q10 hV hF => ?_)
  exact Rl_ret hV hF
/-! X10_register -/
def pg_X10_register_32 : Nat → MS → Int32 → Int32 → Int32 → Option (Int32 × MS)
  | 0, _, _, _, _ => none
  | n + 1, ms, l1, l2, l3 =>
    h_b1 (k_aI ms 15 l1) fun x4 =>
    if ((4 * l1) + x4) ≤ l3 then
      some (l2, ms)
    else
      h_b1 (k_aI ms 16 l3) fun x5 =>
      h_b1 (k_aI ms 17 l3) fun x6 =>
      k_bd (p_X10_owner ms x5 x6) fun r7 q8 =>
      if r7 = (-1) then
        pg_X10_register_32 n q8 l1 l2 (l3 + 1)
      else
        h_b1 (k_aI q8 18 l1) fun x9 =>
        h_b1 (k_sI q8 18 l1 (x9 + 1)) fun q10 =>
        h_b1 (k_aI q10 16 l3) fun x11 =>
        h_b1 (k_aI q10 17 l3) fun x12 =>
        h_b1 (k_aI q10 14 l1) fun x13 =>
        h_b1 (k_aI q10 18 l1) fun x14 =>
        k_bd (p_X10_post q10 0 r7 l1 x11 x12 x13 x14) fun _ q16 =>
        h_b1 (k_aI q16 16 l3) fun x17 =>
        h_b1 (k_aI q16 17 l3) fun x18 =>
        h_b1 (k_aI q16 14 l1) fun x19 =>
        h_b1 (k_aI q16 18 l1) fun x20 =>
        k_bd (p_X10_tag q16 l1 x17 x18 x19 x20) fun r21 q22 =>
        k_bd (p_X10_last q22 r21 (q10.1 36)) fun _ q24 =>
        pg_X10_register_32 n q24 l1 (l2 + 1) (l3 + 1)
def pj_X10_register_14 (ms : MS) (l1 : Int32) (t0 : Int32) : Option (Int32 × MS) :=
  k_lt (k_pI ms 0 t0) fun q3 =>
  if (q3.1 0) ≤ 0 then
    pg_X10_register_32 h_hN q3 l1 0 (4 * l1)
  else
    some (0, q3)
def p_X10_register (ms : MS) (a1 : Int32) : Option (Int32 × MS) :=
  k_bd (p_X10_isSite ms a1) fun r1 q2 =>
  if r1 = 0 then
    pj_X10_register_14 q2 a1 1
  else
    pj_X10_register_14 q2 a1 0
set_option maxHeartbeats 4000000 in
set_option maxRecDepth 100000 in
theorem qg_X10_register_32 {σ0 : HS} {m : Nat} {A : Nat → Nat} : ∀ (n : Nat) (σ : HS) (ms : MS) (l1 : Int32) (l2 : Int32) (l3 : Int32), MV σ m A ms → MF σ0 σ m A → Rl σ0 m A (g_X10_register_32 n σ (some m) l1 l2 l3) (pg_X10_register_32 n ms l1 l2 l3) := by
  intro n
  induction n with
  | zero =>
    intro σ ms l1 l2 l3 hV hF
    rw [pg_X10_register_32]
    exact Rl_none
  | succ n ih =>
    intro σ ms l1 l2 l3 hV hF
    rw [pg_X10_register_32, g_X10_register_32]
    refine Rl_gR hV (by decide) ?_
    refine Rl_aI hV (by decide) (by decide) (fun x4 => ?_)
    refine Rl_ite (fun _ => ?_) (fun _ => ?_)
    · exact Rl_ret hV hF
    · refine Rl_gR hV (by decide) ?_
      refine Rl_aI hV (by decide) (by decide) (fun x5 => ?_)
      refine Rl_gR hV (by decide) ?_
      refine Rl_aI hV (by decide) (by decide) (fun x6 => ?_)
      refine Rl_rcv hV ?_
      refine Rl_bd hF (q_X10_owner hV _ _) (fun r7 _ q8 hV hF => ?_)
      refine Rl_ite (fun _ => ?_) (fun _ => ?_)
      · exact ih _ q8 l1 l2 (l3 + 1) hV hF
      · refine Rl_gR hV (by decide) ?_
        refine Rl_aI hV (by decide) (by decide) (fun x9 => ?_)
        refine Rl_sI hV hF (by decide) (by decide) (fun _ q10 hV hF => ?_)
        refine Rl_gI hV (by decide) ?_
        refine Rl_gR hV (by decide) ?_
        refine Rl_aI hV (by decide) (by decide) (fun x11 => ?_)
        refine Rl_gR hV (by decide) ?_
        refine Rl_aI hV (by decide) (by decide) (fun x12 => ?_)
        refine Rl_gR hV (by decide) ?_
        refine Rl_aI hV (by decide) (by decide) (fun x13 => ?_)
        refine Rl_gR hV (by decide) ?_
        refine Rl_aI hV (by decide) (by decide) (fun x14 => ?_)
        refine Rl_rcv hV ?_
        refine Rl_bd hF (q_X10_post hV _ _ _ _ _ _ _) (fun r15 _ q16 hV hF => ?_)
        refine Rl_gR hV (by decide) ?_
        refine Rl_aI hV (by decide) (by decide) (fun x17 => ?_)
        refine Rl_gR hV (by decide) ?_
        refine Rl_aI hV (by decide) (by decide) (fun x18 => ?_)
        refine Rl_gR hV (by decide) ?_
        refine Rl_aI hV (by decide) (by decide) (fun x19 => ?_)
        refine Rl_gR hV (by decide) ?_
        refine Rl_aI hV (by decide) (by decide) (fun x20 => ?_)
        refine Rl_bd hF (q_X10_tag hV _ _ _ _ _) (fun r21 _ q22 hV hF => ?_)
        refine Rl_rcv hV ?_
        refine Rl_bd hF (q_X10_last hV _ _) (fun r23 _ q24 hV hF => ?_)
        exact ih _ q24 l1 (l2 + 1) (l3 + 1) hV hF
set_option maxHeartbeats 4000000 in
set_option maxRecDepth 100000 in
theorem qj_X10_register_14 {σ0 : HS} {m : Nat} {A : Nat → Nat} (σ : HS) (ms : MS) (l1 : Int32) (t0 : Int32) (hV : MV σ m A ms) (hF : MF σ0 σ m A) : Rl σ0 m A (j_X10_register_14 σ (some m) l1 t0 (some m)) (pj_X10_register_14 ms l1 t0) := by
  unfold j_X10_register_14 pj_X10_register_14
  refine Rl_pI hV hF (by decide) (fun _ q3 hV hF => ?_)
  refine Rl_gI hV (by decide) ?_
  refine Rl_ite (fun _ => ?_) (fun _ => ?_)
  · exact qg_X10_register_32 h_hN _ q3 l1 0 (4 * l1) hV hF
  · exact Rl_ret hV hF
set_option maxHeartbeats 4000000 in
set_option maxRecDepth 100000 in
theorem q_X10_register {σ : HS} {m : Nat} {A : Nat → Nat} {ms : MS} (hV : MV σ m A ms) (a1 : Int32) : Rl σ m A (f_X10_register σ (some m) a1) (p_X10_register ms a1) := by
  have hF : MF σ σ m A := MF.rf
  unfold f_X10_register p_X10_register
  refine Rl_rcv hV ?_
  refine Rl_bd hF (q_X10_isSite hV _) (fun r1 _ q2 hV hF => ?_)
  refine Rl_ite (fun _ => ?_) (fun _ => ?_)
  · exact qj_X10_register_14 _ q2 a1 1 hV hF
  · exact qj_X10_register_14 _ q2 a1 0 hV hF
/-! X10_take -/
def pg_X10_take_36 : Nat → MS → Int32 → Option (Unit × MS)
  | 0, _, _ => none
  | n + 1, ms, l2 =>
    if ((8 * (ms.1 36)) - 8) ≤ l2 then
      k_lt (k_pI ms 36 ((ms.1 36) - 1)) fun q1 =>
      some ((), q1)
    else
      h_b1 (k_aI ms 37 (l2 + 8)) fun x2 =>
      h_b1 (k_sI ms 37 l2 x2) fun q3 =>
      pg_X10_take_36 n q3 (l2 + 1)
def pg_X10_take_2 : Nat → MS → Int32 → Int32 → Option (Unit × MS)
  | 0, _, _, _ => none
  | n + 1, ms, l1, l2 =>
    if 8 ≤ l2 then
      pg_X10_take_36 h_hN ms (8 * l1)
    else
      h_b1 (k_aI ms 37 ((8 * l1) + l2)) fun x4 =>
      h_b1 (k_sI ms 38 l2 x4) fun q5 =>
      pg_X10_take_2 n q5 l1 (l2 + 1)
def p_X10_take (ms : MS) (a1 : Int32) : Option (Unit × MS) :=
  pg_X10_take_2 h_hN ms a1 0
set_option maxHeartbeats 4000000 in
set_option maxRecDepth 100000 in
theorem qg_X10_take_36 {σ0 : HS} {m : Nat} {A : Nat → Nat} : ∀ (n : Nat) (σ : HS) (ms : MS) (l2 : Int32), MV σ m A ms → MF σ0 σ m A → Rl σ0 m A (g_X10_take_36 n σ (some m) l2) (pg_X10_take_36 n ms l2) := by
  intro n
  induction n with
  | zero =>
    intro σ ms l2 hV hF
    rw [pg_X10_take_36]
    exact Rl_none
  | succ n ih =>
    intro σ ms l2 hV hF
    rw [pg_X10_take_36, g_X10_take_36]
    refine Rl_gI hV (by decide) ?_
    refine Rl_ite (fun _ => ?_) (fun _ => ?_)
    · refine Rl_gI hV (by decide) ?_
      refine Rl_pI hV hF (by decide) (fun _ q1 hV hF => ?_)
      exact Rl_ret hV hF
    · refine Rl_gR hV (by decide) ?_
      refine Rl_gR hV (by decide) ?_
      refine Rl_aI hV (by decide) (by decide) (fun x2 => ?_)
      refine Rl_sI hV hF (by decide) (by decide) (fun _ q3 hV hF => ?_)
      exact ih _ q3 (l2 + 1) hV hF
set_option maxHeartbeats 4000000 in
set_option maxRecDepth 100000 in
theorem qg_X10_take_2 {σ0 : HS} {m : Nat} {A : Nat → Nat} : ∀ (n : Nat) (σ : HS) (ms : MS) (l1 : Int32) (l2 : Int32), MV σ m A ms → MF σ0 σ m A → Rl σ0 m A (g_X10_take_2 n σ (some m) l1 l2) (pg_X10_take_2 n ms l1 l2) := by
  intro n
  induction n with
  | zero =>
    intro σ ms l1 l2 hV hF
    rw [pg_X10_take_2]
    exact Rl_none
  | succ n ih =>
    intro σ ms l1 l2 hV hF
    rw [pg_X10_take_2, g_X10_take_2]
    refine Rl_ite (fun _ => ?_) (fun _ => ?_)
    · exact qg_X10_take_36 h_hN _ ms (8 * l1) hV hF
    · refine Rl_gR hV (by decide) ?_
      refine Rl_gR hV (by decide) ?_
      refine Rl_aI hV (by decide) (by decide) (fun x4 => ?_)
      refine Rl_sI hV hF (by decide) (by decide) (fun _ q5 hV hF => ?_)
      exact ih _ q5 l1 (l2 + 1) hV hF
set_option maxHeartbeats 4000000 in
set_option maxRecDepth 100000 in
theorem q_X10_take {σ : HS} {m : Nat} {A : Nat → Nat} {ms : MS} (hV : MV σ m A ms) (a1 : Int32) : Rl σ m A (f_X10_take σ (some m) a1) (p_X10_take ms a1) := by
  have hF : MF σ σ m A := MF.rf
  unfold f_X10_take p_X10_take
  exact qg_X10_take_2 h_hN _ ms a1 0 hV hF
/-! X10_isMessage -/
def pj_X10_isMessage_20 (ms : MS)  (t0 : Int32) : Option (Int32 × MS) :=
  k_lt (k_pI ms 0 t0) fun q3 =>
  if (q3.1 0) = 0 then
    some (1, q3)
  else
    some (0, q3)
def p_X10_isMessage (ms : MS) (a1 : Int32) : Option (Int32 × MS) :=
  k_bd (p_X10_in ms a1 0 ((ms.1 36) - 1)) fun r1 q2 =>
  if r1 = 0 then
    pj_X10_isMessage_20 q2 1
  else
    pj_X10_isMessage_20 q2 0
set_option maxHeartbeats 4000000 in
set_option maxRecDepth 100000 in
theorem qj_X10_isMessage_20 {σ0 : HS} {m : Nat} {A : Nat → Nat} (σ : HS) (ms : MS)  (t0 : Int32) (hV : MV σ m A ms) (hF : MF σ0 σ m A) : Rl σ0 m A (j_X10_isMessage_20 σ (some m) t0 (some m)) (pj_X10_isMessage_20 ms t0) := by
  unfold j_X10_isMessage_20 pj_X10_isMessage_20
  refine Rl_pI hV hF (by decide) (fun _ q3 hV hF => ?_)
  refine Rl_gI hV (by decide) ?_
  refine Rl_ite (fun _ => ?_) (fun _ => ?_)
  · exact Rl_ret hV hF
  · exact Rl_ret hV hF
set_option maxHeartbeats 4000000 in
set_option maxRecDepth 100000 in
theorem q_X10_isMessage {σ : HS} {m : Nat} {A : Nat → Nat} {ms : MS} (hV : MV σ m A ms) (a1 : Int32) : Rl σ m A (f_X10_isMessage σ (some m) a1) (p_X10_isMessage ms a1) := by
  have hF : MF σ σ m A := MF.rf
  unfold f_X10_isMessage p_X10_isMessage
  refine Rl_gI hV (by decide) ?_
  refine Rl_bd hF (q_X10_in hV _ _ _) (fun r1 _ q2 hV hF => ?_)
  refine Rl_ite (fun _ => ?_) (fun _ => ?_)
  · exact qj_X10_isMessage_20 _ q2 1 hV hF
  · exact qj_X10_isMessage_20 _ q2 0 hV hF
/-! X10_deliver -/
def pj_X10_deliver_16 (ms : MS) (l1 : Int32) : Option (Unit × MS) :=
  h_b1 (k_aI ms 35 l1) fun x2 =>
  h_b1 (k_sI ms 35 l1 (x2 + 1)) fun q3 =>
  h_b1 (k_sI q3 31 l1 2) fun q4 =>
  some ((), q4)
def p_X10_deliver (ms : MS) (a1 : Int32) (a2 : Int32) : Option (Unit × MS) :=
  h_b1 (k_aI ms 35 a1) fun x1 =>
  if x1 = 0 then
    h_b1 (k_sI ms 33 a1 a2) fun q5 =>
    pj_X10_deliver_16 q5 a1
  else
    pj_X10_deliver_16 ms a1
set_option maxHeartbeats 4000000 in
set_option maxRecDepth 100000 in
theorem qj_X10_deliver_16 {σ0 : HS} {m : Nat} {A : Nat → Nat} (σ : HS) (ms : MS) (l1 : Int32) (hV : MV σ m A ms) (hF : MF σ0 σ m A) : Rl σ0 m A (j_X10_deliver_16 σ (some m) l1) (pj_X10_deliver_16 ms l1) := by
  unfold j_X10_deliver_16 pj_X10_deliver_16
  refine Rl_gR hV (by decide) ?_
  refine Rl_aI hV (by decide) (by decide) (fun x2 => ?_)
  refine Rl_sI hV hF (by decide) (by decide) (fun _ q3 hV hF => ?_)
  refine Rl_gR hV (by decide) ?_
  refine Rl_sI hV hF (by decide) (by decide) (fun _ q4 hV hF => ?_)
  exact Rl_ret hV hF
set_option maxHeartbeats 4000000 in
set_option maxRecDepth 100000 in
theorem q_X10_deliver {σ : HS} {m : Nat} {A : Nat → Nat} {ms : MS} (hV : MV σ m A ms) (a1 : Int32) (a2 : Int32) : Rl σ m A (f_X10_deliver σ (some m) a1 a2) (p_X10_deliver ms a1 a2) := by
  have hF : MF σ σ m A := MF.rf
  unfold f_X10_deliver p_X10_deliver
  refine Rl_gR hV (by decide) ?_
  refine Rl_aI hV (by decide) (by decide) (fun x1 => ?_)
  refine Rl_ite (fun _ => ?_) (fun _ => ?_)
  · refine Rl_gR hV (by decide) ?_
    refine Rl_sI hV hF (by decide) (by decide) (fun _ q5 hV hF => ?_)
    exact qj_X10_deliver_16 _ q5 a1 hV hF
  · exact qj_X10_deliver_16 _ ms a1 hV hF
/-! X10_hasEndpoint -/
def pg_X10_hasEndpoint_4 : Nat → MS → Int32 → Int32 → Int32 → Option (Int32 × MS)
  | 0, _, _, _, _ => none
  | n + 1, ms, l1, l2, l3 =>
    h_b1 (k_aI ms 15 l1) fun x1 =>
    if ((4 * l1) + x1) ≤ l3 then
      some (0, ms)
    else
      h_b1 (k_aI ms 16 l3) fun x2 =>
      h_b1 (k_aI ms 17 l3) fun x3 =>
      k_bd (p_X10_begin ms x2 l2 x3) fun r4 q5 =>
      if r4 = 0 then
        pg_X10_hasEndpoint_4 n q5 l1 l2 (l3 + 1)
      else
        some (1, q5)
def p_X10_hasEndpoint (ms : MS) (a1 : Int32) (a2 : Int32) : Option (Int32 × MS) :=
  pg_X10_hasEndpoint_4 h_hN ms a1 a2 (4 * a1)
set_option maxHeartbeats 4000000 in
set_option maxRecDepth 100000 in
theorem qg_X10_hasEndpoint_4 {σ0 : HS} {m : Nat} {A : Nat → Nat} : ∀ (n : Nat) (σ : HS) (ms : MS) (l1 : Int32) (l2 : Int32) (l3 : Int32), MV σ m A ms → MF σ0 σ m A → Rl σ0 m A (g_X10_hasEndpoint_4 n σ (some m) l1 l2 l3) (pg_X10_hasEndpoint_4 n ms l1 l2 l3) := by
  intro n
  induction n with
  | zero =>
    intro σ ms l1 l2 l3 hV hF
    rw [pg_X10_hasEndpoint_4]
    exact Rl_none
  | succ n ih =>
    intro σ ms l1 l2 l3 hV hF
    rw [pg_X10_hasEndpoint_4, g_X10_hasEndpoint_4]
    refine Rl_gR hV (by decide) ?_
    refine Rl_aI hV (by decide) (by decide) (fun x1 => ?_)
    refine Rl_ite (fun _ => ?_) (fun _ => ?_)
    · exact Rl_ret hV hF
    · refine Rl_gR hV (by decide) ?_
      refine Rl_aI hV (by decide) (by decide) (fun x2 => ?_)
      refine Rl_gR hV (by decide) ?_
      refine Rl_aI hV (by decide) (by decide) (fun x3 => ?_)
      refine Rl_bd hF (q_X10_begin hV _ _ _) (fun r4 _ q5 hV hF => ?_)
      refine Rl_ite (fun _ => ?_) (fun _ => ?_)
      · exact ih _ q5 l1 l2 (l3 + 1) hV hF
      · exact Rl_ret hV hF
set_option maxHeartbeats 4000000 in
set_option maxRecDepth 100000 in
theorem q_X10_hasEndpoint {σ : HS} {m : Nat} {A : Nat → Nat} {ms : MS} (hV : MV σ m A ms) (a1 : Int32) (a2 : Int32) : Rl σ m A (f_X10_hasEndpoint σ (some m) a1 a2) (p_X10_hasEndpoint ms a1 a2) := by
  have hF : MF σ σ m A := MF.rf
  unfold f_X10_hasEndpoint p_X10_hasEndpoint
  exact qg_X10_hasEndpoint_4 h_hN _ ms a1 a2 (4 * a1) hV hF
/-! X10_lose -/
def p_X10_lose (ms : MS) (a1 : Int32) : Option (Unit × MS) :=
  h_b1 (k_aI ms 31 a1) fun x1 =>
  if x1 = 1 then
    h_b1 (k_sI ms 31 a1 4) fun q2 =>
    some ((), q2)
  else
    some ((), ms)
set_option maxHeartbeats 4000000 in
set_option maxRecDepth 100000 in
theorem q_X10_lose {σ : HS} {m : Nat} {A : Nat → Nat} {ms : MS} (hV : MV σ m A ms) (a1 : Int32) : Rl σ m A (f_X10_lose σ (some m) a1) (p_X10_lose ms a1) := by
  have hF : MF σ σ m A := MF.rf
  unfold f_X10_lose p_X10_lose
  refine Rl_gR hV (by decide) ?_
  refine Rl_aI hV (by decide) (by decide) (fun x1 => ?_)
  refine Rl_ite (fun _ => ?_) (fun _ => ?_)
  · refine Rl_gR hV (by decide) ?_
    refine Rl_sI hV hF (by decide) (by decide) (fun _ q2 hV hF => ?_)
    exact Rl_ret hV hF
  · exact Rl_ret hV hF
/-! X10_came -/
def pj_X10_came_196 (ms : MS) (l1 : Int32) (l3 : Int32) : Option (Unit × MS) :=
  k_lt (k_pI ms 41 ((ms.1 41) + 1)) fun q11 =>
  h_b1 (k_aI q11 38 0) fun x12 =>
  k_bd (p_X10_post q11 4 x12 l3 l1 0 0 0) fun _ q14 =>
  some ((), q14)
def pj_X10_came_137 (ms : MS) (l1 : Int32) (l2 : Int32) (l3 : Int32) (l5 : Int32) : Option (Unit × MS) :=
  if l5 = 0 then
    pj_X10_came_196 ms l1 l3
  else
    h_b1 (k_aI ms 26 l1) fun x15 =>
    h_b1 (k_aI ms 14 x15) fun x16 =>
    h_b1 (k_aI ms 38 0) fun x17 =>
    h_b1 (k_aI ms 38 3) fun x18 =>
    h_b1 (k_aI ms 38 4) fun x19 =>
    k_bd (p_X10_post ms 3 x16 x17 l2 l3 x18 x19) fun _ q21 =>
    h_b1 (k_aI q21 38 5) fun x22 =>
    k_bd (p_X10_last q21 x22 (ms.1 36)) fun _ q24 =>
    pj_X10_came_196 q24 l1 l3
def pj_X10_came_125 (ms : MS) (l1 : Int32) (l2 : Int32) (l3 : Int32) (l4 : Int32) (l5 : Int32) : Option (Unit × MS) :=
  if l4 = (-1) then
    if l5 = 0 then
      some ((), ms)
    else
      pj_X10_came_137 ms l1 l2 l3 l5
  else
    pj_X10_came_137 ms l1 l2 l3 l5
def pj_X10_came_115 (ms : MS) (l1 : Int32) (l2 : Int32) (l3 : Int32) (l4 : Int32) (l5 : Int32) : Option (Unit × MS) :=
  if l5 = 0 then
    k_bd (p_X10_lose ms l2) fun _ q26 =>
    pj_X10_came_125 q26 l1 l2 l3 l4 l5
  else
    pj_X10_came_125 ms l1 l2 l3 l4 l5
def pj_X10_came_89 (ms : MS) (l1 : Int32) (l2 : Int32) (l3 : Int32) (l4 : Int32) (t0 : Int32) : Option (Unit × MS) :=
  if l4 = (-1) then
    pj_X10_came_115 ms l1 l2 l3 l4 t0
  else
    k_bd (p_X10_hasEndpoint ms l4 l3) fun r27 q28 =>
    if r27 = 0 then
      pj_X10_came_115 q28 l1 l2 l3 l4 t0
    else
      k_bd (p_X10_deliver q28 l2 l4) fun _ q30 =>
      some ((), q30)
def pj_X10_came_88 (ms : MS) (l1 : Int32) (l2 : Int32) (l3 : Int32) (l4 : Int32) : Option (Unit × MS) :=
  pj_X10_came_89 ms l1 l2 l3 l4 0
def p_X10_came (ms : MS)  : Option (Unit × MS) :=
  h_b1 (k_aI ms 38 7) fun x1 =>
  h_b1 (k_aI ms 38 1) fun x2 =>
  h_b1 (k_aI ms 38 2) fun x3 =>
  h_b1 (k_aI ms 38 0) fun x4 =>
  k_bd (p_X10_isSite ms x4) fun r5 q6 =>
  if r5 = 0 then
    some ((), q6)
  else
    k_bd (p_X10_in q6 x2 1 (q6.1 28)) fun r7 q8 =>
    if r7 = 0 then
      some ((), q8)
    else
      k_bd (p_X10_siteAt q8 x1) fun r9 q10 =>
      if r9 = (-1) then
        h_b1 (k_aI q10 26 x1) fun x31 =>
        if x31 = (-1) then
          pj_X10_came_88 q10 x1 x2 x3 r9
        else
          h_b1 (k_aI q10 27 x1) fun x32 =>
          if x32 ≤ (q10.1 1) then
            pj_X10_came_88 q10 x1 x2 x3 r9
          else
            pj_X10_came_89 q10 x1 x2 x3 r9 1
      else
        pj_X10_came_88 q10 x1 x2 x3 r9
set_option maxHeartbeats 4000000 in
set_option maxRecDepth 100000 in
theorem qj_X10_came_196 {σ0 : HS} {m : Nat} {A : Nat → Nat} (σ : HS) (ms : MS) (l1 : Int32) (l3 : Int32) (hV : MV σ m A ms) (hF : MF σ0 σ m A) : Rl σ0 m A (j_X10_came_196 σ (some m) l1 l3) (pj_X10_came_196 ms l1 l3) := by
  unfold j_X10_came_196 pj_X10_came_196
  refine Rl_gI hV (by decide) ?_
  refine Rl_pI hV hF (by decide) (fun _ q11 hV hF => ?_)
  refine Rl_gR hV (by decide) ?_
  refine Rl_aI hV (by decide) (by decide) (fun x12 => ?_)
  refine Rl_rcv hV ?_
  refine Rl_bd hF (q_X10_post hV _ _ _ _ _ _ _) (fun r13 _ q14 hV hF => ?_)
  exact Rl_ret hV hF
set_option maxHeartbeats 4000000 in
set_option maxRecDepth 100000 in
theorem qj_X10_came_137 {σ0 : HS} {m : Nat} {A : Nat → Nat} (σ : HS) (ms : MS) (l1 : Int32) (l2 : Int32) (l3 : Int32) (l5 : Int32) (hV : MV σ m A ms) (hF : MF σ0 σ m A) : Rl σ0 m A (j_X10_came_137 σ (some m) l1 l2 l3 l5) (pj_X10_came_137 ms l1 l2 l3 l5) := by
  unfold j_X10_came_137 pj_X10_came_137
  refine Rl_ite (fun _ => ?_) (fun _ => ?_)
  · exact qj_X10_came_196 _ ms l1 l3 hV hF
  · refine Rl_gI hV (by decide) ?_
    refine Rl_gR hV (by decide) ?_
    refine Rl_gR hV (by decide) ?_
    refine Rl_aI hV (by decide) (by decide) (fun x15 => ?_)
    refine Rl_aI hV (by decide) (by decide) (fun x16 => ?_)
    refine Rl_gR hV (by decide) ?_
    refine Rl_aI hV (by decide) (by decide) (fun x17 => ?_)
    refine Rl_gR hV (by decide) ?_
    refine Rl_aI hV (by decide) (by decide) (fun x18 => ?_)
    refine Rl_gR hV (by decide) ?_
    refine Rl_aI hV (by decide) (by decide) (fun x19 => ?_)
    refine Rl_rcv hV ?_
    refine Rl_bd hF (q_X10_post hV _ _ _ _ _ _ _) (fun r20 _ q21 hV hF => ?_)
    refine Rl_gR hV (by decide) ?_
    refine Rl_aI hV (by decide) (by decide) (fun x22 => ?_)
    refine Rl_rcv hV ?_
    refine Rl_bd hF (q_X10_last hV _ _) (fun r23 _ q24 hV hF => ?_)
    exact qj_X10_came_196 _ q24 l1 l3 hV hF
set_option maxHeartbeats 4000000 in
set_option maxRecDepth 100000 in
theorem qj_X10_came_125 {σ0 : HS} {m : Nat} {A : Nat → Nat} (σ : HS) (ms : MS) (l1 : Int32) (l2 : Int32) (l3 : Int32) (l4 : Int32) (l5 : Int32) (hV : MV σ m A ms) (hF : MF σ0 σ m A) : Rl σ0 m A (j_X10_came_125 σ (some m) l1 l2 l3 l4 l5) (pj_X10_came_125 ms l1 l2 l3 l4 l5) := by
  unfold j_X10_came_125 pj_X10_came_125
  refine Rl_ite (fun _ => ?_) (fun _ => ?_)
  · refine Rl_ite (fun _ => ?_) (fun _ => ?_)
    · exact Rl_ret hV hF
    · exact qj_X10_came_137 _ ms l1 l2 l3 l5 hV hF
  · exact qj_X10_came_137 _ ms l1 l2 l3 l5 hV hF
set_option maxHeartbeats 4000000 in
set_option maxRecDepth 100000 in
theorem qj_X10_came_115 {σ0 : HS} {m : Nat} {A : Nat → Nat} (σ : HS) (ms : MS) (l1 : Int32) (l2 : Int32) (l3 : Int32) (l4 : Int32) (l5 : Int32) (hV : MV σ m A ms) (hF : MF σ0 σ m A) : Rl σ0 m A (j_X10_came_115 σ (some m) l1 l2 l3 l4 l5) (pj_X10_came_115 ms l1 l2 l3 l4 l5) := by
  unfold j_X10_came_115 pj_X10_came_115
  refine Rl_ite (fun _ => ?_) (fun _ => ?_)
  · refine Rl_rcv hV ?_
    refine Rl_bd hF (q_X10_lose hV _) (fun r25 _ q26 hV hF => ?_)
    exact qj_X10_came_125 _ q26 l1 l2 l3 l4 l5 hV hF
  · exact qj_X10_came_125 _ ms l1 l2 l3 l4 l5 hV hF
set_option maxHeartbeats 4000000 in
set_option maxRecDepth 100000 in
theorem qj_X10_came_89 {σ0 : HS} {m : Nat} {A : Nat → Nat} (σ : HS) (ms : MS) (l1 : Int32) (l2 : Int32) (l3 : Int32) (l4 : Int32) (t0 : Int32) (hV : MV σ m A ms) (hF : MF σ0 σ m A) : Rl σ0 m A (j_X10_came_89 σ (some m) l1 l2 l3 l4 t0) (pj_X10_came_89 ms l1 l2 l3 l4 t0) := by
  unfold j_X10_came_89 pj_X10_came_89
  refine Rl_ite (fun _ => ?_) (fun _ => ?_)
  · exact qj_X10_came_115 _ ms l1 l2 l3 l4 t0 hV hF
  · refine Rl_rcv hV ?_
    refine Rl_bd hF (q_X10_hasEndpoint hV _ _) (fun r27 _ q28 hV hF => ?_)
    refine Rl_ite (fun _ => ?_) (fun _ => ?_)
    · exact qj_X10_came_115 _ q28 l1 l2 l3 l4 t0 hV hF
    · refine Rl_rcv hV ?_
      refine Rl_bd hF (q_X10_deliver hV _ _) (fun r29 _ q30 hV hF => ?_)
      exact Rl_ret hV hF
set_option maxHeartbeats 4000000 in
set_option maxRecDepth 100000 in
theorem qj_X10_came_88 {σ0 : HS} {m : Nat} {A : Nat → Nat} (σ : HS) (ms : MS) (l1 : Int32) (l2 : Int32) (l3 : Int32) (l4 : Int32) (hV : MV σ m A ms) (hF : MF σ0 σ m A) : Rl σ0 m A (j_X10_came_88 σ (some m) l1 l2 l3 l4) (pj_X10_came_88 ms l1 l2 l3 l4) := by
  unfold j_X10_came_88 pj_X10_came_88
  exact qj_X10_came_89 _ ms l1 l2 l3 l4 0 hV hF
set_option maxHeartbeats 4000000 in
set_option maxRecDepth 100000 in
theorem q_X10_came {σ : HS} {m : Nat} {A : Nat → Nat} {ms : MS} (hV : MV σ m A ms)  : Rl σ m A (f_X10_came σ (some m)) (p_X10_came ms ) := by
  have hF : MF σ σ m A := MF.rf
  unfold f_X10_came p_X10_came
  refine Rl_gR hV (by decide) ?_
  refine Rl_aI hV (by decide) (by decide) (fun x1 => ?_)
  refine Rl_gR hV (by decide) ?_
  refine Rl_aI hV (by decide) (by decide) (fun x2 => ?_)
  refine Rl_gR hV (by decide) ?_
  refine Rl_aI hV (by decide) (by decide) (fun x3 => ?_)
  refine Rl_gR hV (by decide) ?_
  refine Rl_aI hV (by decide) (by decide) (fun x4 => ?_)
  refine Rl_rcv hV ?_
  refine Rl_bd hF (q_X10_isSite hV _) (fun r5 _ q6 hV hF => ?_)
  refine Rl_ite (fun _ => ?_) (fun _ => ?_)
  · exact Rl_ret hV hF
  · refine Rl_gI hV (by decide) ?_
    refine Rl_bd hF (q_X10_in hV _ _ _) (fun r7 _ q8 hV hF => ?_)
    refine Rl_ite (fun _ => ?_) (fun _ => ?_)
    · exact Rl_ret hV hF
    · refine Rl_rcv hV ?_
      refine Rl_bd hF (q_X10_siteAt hV _) (fun r9 _ q10 hV hF => ?_)
      refine Rl_ite (fun _ => ?_) (fun _ => ?_)
      · refine Rl_gR hV (by decide) ?_
        refine Rl_aI hV (by decide) (by decide) (fun x31 => ?_)
        refine Rl_ite (fun _ => ?_) (fun _ => ?_)
        · exact qj_X10_came_88 _ q10 x1 x2 x3 r9 hV hF
        · refine Rl_gI hV (by decide) ?_
          refine Rl_gR hV (by decide) ?_
          refine Rl_aI hV (by decide) (by decide) (fun x32 => ?_)
          refine Rl_ite (fun _ => ?_) (fun _ => ?_)
          · exact qj_X10_came_88 _ q10 x1 x2 x3 r9 hV hF
          · exact qj_X10_came_89 _ q10 x1 x2 x3 r9 1 hV hF
      · exact qj_X10_came_88 _ q10 x1 x2 x3 r9 hV hF
/-! X10_noteFor -/
def pg_X10_noteFor_5 : Nat → MS → Int32 → Int32 → Int32 → Option (Int32 × MS)
  | 0, _, _, _, _ => none
  | n + 1, ms, l1, l2, l3 =>
    if ((6 * l1) + 6) ≤ l3 then
      some ((-1), ms)
    else
      h_b1 (k_aI ms 23 l3) fun x1 =>
      if x1 ≤ (ms.1 1) then
        pg_X10_noteFor_5 n ms l1 l2 (l3 + 1)
      else
        h_b1 (k_aI ms 19 l3) fun x2 =>
        h_b1 (k_aI ms 20 l3) fun x3 =>
        k_bd (p_X10_begin ms x2 l2 x3) fun r4 q5 =>
        if r4 = 0 then
          pg_X10_noteFor_5 n q5 l1 l2 (l3 + 1)
        else
          some (l3, q5)
def p_X10_noteFor (ms : MS) (a1 : Int32) (a2 : Int32) : Option (Int32 × MS) :=
  pg_X10_noteFor_5 h_hN ms a1 a2 (6 * a1)
set_option maxHeartbeats 4000000 in
set_option maxRecDepth 100000 in
theorem qg_X10_noteFor_5 {σ0 : HS} {m : Nat} {A : Nat → Nat} : ∀ (n : Nat) (σ : HS) (ms : MS) (l1 : Int32) (l2 : Int32) (l3 : Int32), MV σ m A ms → MF σ0 σ m A → Rl σ0 m A (g_X10_noteFor_5 n σ (some m) l1 l2 l3) (pg_X10_noteFor_5 n ms l1 l2 l3) := by
  intro n
  induction n with
  | zero =>
    intro σ ms l1 l2 l3 hV hF
    rw [pg_X10_noteFor_5]
    exact Rl_none
  | succ n ih =>
    intro σ ms l1 l2 l3 hV hF
    rw [pg_X10_noteFor_5, g_X10_noteFor_5]
    refine Rl_ite (fun _ => ?_) (fun _ => ?_)
    · exact Rl_ret hV hF
    · refine Rl_gR hV (by decide) ?_
      refine Rl_aI hV (by decide) (by decide) (fun x1 => ?_)
      refine Rl_gI hV (by decide) ?_
      refine Rl_ite (fun _ => ?_) (fun _ => ?_)
      · exact ih _ ms l1 l2 (l3 + 1) hV hF
      · refine Rl_gR hV (by decide) ?_
        refine Rl_aI hV (by decide) (by decide) (fun x2 => ?_)
        refine Rl_gR hV (by decide) ?_
        refine Rl_aI hV (by decide) (by decide) (fun x3 => ?_)
        refine Rl_bd hF (q_X10_begin hV _ _ _) (fun r4 _ q5 hV hF => ?_)
        refine Rl_ite (fun _ => ?_) (fun _ => ?_)
        · exact ih _ q5 l1 l2 (l3 + 1) hV hF
        · exact Rl_ret hV hF
set_option maxHeartbeats 4000000 in
set_option maxRecDepth 100000 in
theorem q_X10_noteFor {σ : HS} {m : Nat} {A : Nat → Nat} {ms : MS} (hV : MV σ m A ms) (a1 : Int32) (a2 : Int32) : Rl σ m A (f_X10_noteFor σ (some m) a1 a2) (p_X10_noteFor ms a1 a2) := by
  have hF : MF σ σ m A := MF.rf
  unfold f_X10_noteFor p_X10_noteFor
  exact qg_X10_noteFor_5 h_hN _ ms a1 a2 (6 * a1) hV hF
/-! X10_forget -/
def p_X10_forget (ms : MS) (a1 : Int32) (a2 : Int32) (a3 : Int32) : Option (Unit × MS) :=
  k_bd (p_X10_noteFor ms a1 a2) fun r1 q2 =>
  if r1 = (-1) then
    some ((), q2)
  else
    h_b1 (k_aI q2 21 r1) fun x3 =>
    if x3 = a3 then
      h_b1 (k_sI q2 23 r1 0) fun q4 =>
      some ((), q4)
    else
      some ((), q2)
set_option maxHeartbeats 4000000 in
set_option maxRecDepth 100000 in
theorem q_X10_forget {σ : HS} {m : Nat} {A : Nat → Nat} {ms : MS} (hV : MV σ m A ms) (a1 : Int32) (a2 : Int32) (a3 : Int32) : Rl σ m A (f_X10_forget σ (some m) a1 a2 a3) (p_X10_forget ms a1 a2 a3) := by
  have hF : MF σ σ m A := MF.rf
  unfold f_X10_forget p_X10_forget
  refine Rl_rcv hV ?_
  refine Rl_bd hF (q_X10_noteFor hV _ _) (fun r1 _ q2 hV hF => ?_)
  refine Rl_ite (fun _ => ?_) (fun _ => ?_)
  · exact Rl_ret hV hF
  · refine Rl_gR hV (by decide) ?_
    refine Rl_aI hV (by decide) (by decide) (fun x3 => ?_)
    refine Rl_ite (fun _ => ?_) (fun _ => ?_)
    · refine Rl_gR hV (by decide) ?_
      refine Rl_sI hV hF (by decide) (by decide) (fun _ q4 hV hF => ?_)
      exact Rl_ret hV hF
    · exact Rl_ret hV hF
/-! X10_emptyEntry -/
def pg_X10_emptyEntry_5 : Nat → MS → Int32 → Int32 → Option (Int32 × MS)
  | 0, _, _, _ => none
  | n + 1, ms, l1, l2 =>
    if ((16 * l1) + 16) ≤ l2 then
      some ((-1), ms)
    else
      h_b1 (k_aI ms 12 l2) fun x1 =>
      if (ms.1 1) < x1 then
        pg_X10_emptyEntry_5 n ms l1 (l2 + 1)
      else
        some (l2, ms)
def p_X10_emptyEntry (ms : MS) (a1 : Int32) : Option (Int32 × MS) :=
  pg_X10_emptyEntry_5 h_hN ms a1 (16 * a1)
set_option maxHeartbeats 4000000 in
set_option maxRecDepth 100000 in
theorem qg_X10_emptyEntry_5 {σ0 : HS} {m : Nat} {A : Nat → Nat} : ∀ (n : Nat) (σ : HS) (ms : MS) (l1 : Int32) (l2 : Int32), MV σ m A ms → MF σ0 σ m A → Rl σ0 m A (g_X10_emptyEntry_5 n σ (some m) l1 l2) (pg_X10_emptyEntry_5 n ms l1 l2) := by
  intro n
  induction n with
  | zero =>
    intro σ ms l1 l2 hV hF
    rw [pg_X10_emptyEntry_5]
    exact Rl_none
  | succ n ih =>
    intro σ ms l1 l2 hV hF
    rw [pg_X10_emptyEntry_5, g_X10_emptyEntry_5]
    refine Rl_ite (fun _ => ?_) (fun _ => ?_)
    · exact Rl_ret hV hF
    · refine Rl_gR hV (by decide) ?_
      refine Rl_aI hV (by decide) (by decide) (fun x1 => ?_)
      refine Rl_gI hV (by decide) ?_
      refine Rl_ite (fun _ => ?_) (fun _ => ?_)
      · exact ih _ ms l1 (l2 + 1) hV hF
      · exact Rl_ret hV hF
set_option maxHeartbeats 4000000 in
set_option maxRecDepth 100000 in
theorem q_X10_emptyEntry {σ : HS} {m : Nat} {A : Nat → Nat} {ms : MS} (hV : MV σ m A ms) (a1 : Int32) : Rl σ m A (f_X10_emptyEntry σ (some m) a1) (p_X10_emptyEntry ms a1) := by
  have hF : MF σ σ m A := MF.rf
  unfold f_X10_emptyEntry p_X10_emptyEntry
  exact qg_X10_emptyEntry_5 h_hN _ ms a1 (16 * a1) hV hF
/-! X10_entryFor -/
def pg_X10_entryFor_6 : Nat → MS → Int32 → Int32 → Int32 → Int32 → Option (Int32 × MS)
  | 0, _, _, _, _, _ => none
  | n + 1, ms, l1, l2, l3, l4 =>
    if ((16 * l1) + 16) ≤ l4 then
      some ((-1), ms)
    else
      h_b1 (k_aI ms 12 l4) fun x1 =>
      if x1 ≤ (ms.1 1) then
        pg_X10_entryFor_6 n ms l1 l2 l3 (l4 + 1)
      else
        h_b1 (k_aI ms 7 l4) fun x2 =>
        if x2 = l2 then
          h_b1 (k_aI ms 8 l4) fun x3 =>
          if x3 = l3 then
            some (l4, ms)
          else
            pg_X10_entryFor_6 n ms l1 l2 l3 (l4 + 1)
        else
          pg_X10_entryFor_6 n ms l1 l2 l3 (l4 + 1)
def p_X10_entryFor (ms : MS) (a1 : Int32) (a2 : Int32) (a3 : Int32) : Option (Int32 × MS) :=
  pg_X10_entryFor_6 h_hN ms a1 a2 a3 (16 * a1)
set_option maxHeartbeats 4000000 in
set_option maxRecDepth 100000 in
theorem qg_X10_entryFor_6 {σ0 : HS} {m : Nat} {A : Nat → Nat} : ∀ (n : Nat) (σ : HS) (ms : MS) (l1 : Int32) (l2 : Int32) (l3 : Int32) (l4 : Int32), MV σ m A ms → MF σ0 σ m A → Rl σ0 m A (g_X10_entryFor_6 n σ (some m) l1 l2 l3 l4) (pg_X10_entryFor_6 n ms l1 l2 l3 l4) := by
  intro n
  induction n with
  | zero =>
    intro σ ms l1 l2 l3 l4 hV hF
    rw [pg_X10_entryFor_6]
    exact Rl_none
  | succ n ih =>
    intro σ ms l1 l2 l3 l4 hV hF
    rw [pg_X10_entryFor_6, g_X10_entryFor_6]
    refine Rl_ite (fun _ => ?_) (fun _ => ?_)
    · exact Rl_ret hV hF
    · refine Rl_gR hV (by decide) ?_
      refine Rl_aI hV (by decide) (by decide) (fun x1 => ?_)
      refine Rl_gI hV (by decide) ?_
      refine Rl_ite (fun _ => ?_) (fun _ => ?_)
      · exact ih _ ms l1 l2 l3 (l4 + 1) hV hF
      · refine Rl_gR hV (by decide) ?_
        refine Rl_aI hV (by decide) (by decide) (fun x2 => ?_)
        refine Rl_ite (fun _ => ?_) (fun _ => ?_)
        · refine Rl_gR hV (by decide) ?_
          refine Rl_aI hV (by decide) (by decide) (fun x3 => ?_)
          refine Rl_ite (fun _ => ?_) (fun _ => ?_)
          · exact Rl_ret hV hF
          · exact ih _ ms l1 l2 l3 (l4 + 1) hV hF
        · exact ih _ ms l1 l2 l3 (l4 + 1) hV hF
set_option maxHeartbeats 4000000 in
set_option maxRecDepth 100000 in
theorem q_X10_entryFor {σ : HS} {m : Nat} {A : Nat → Nat} {ms : MS} (hV : MV σ m A ms) (a1 : Int32) (a2 : Int32) (a3 : Int32) : Rl σ m A (f_X10_entryFor σ (some m) a1 a2 a3) (p_X10_entryFor ms a1 a2 a3) := by
  have hF : MF σ σ m A := MF.rf
  unfold f_X10_entryFor p_X10_entryFor
  exact qg_X10_entryFor_6 h_hN _ ms a1 a2 a3 (16 * a1) hV hF
/-! X10_registered -/
def pj_X10_registered_243 (ms : MS) (l1 : Int32) (l2 : Int32) (l3 : Int32) (l4 : Int32) : Option (Unit × MS) :=
  if l3 = 0 then
    k_lt (k_pI ms 39 ((ms.1 39) + 1)) fun q19 =>
    some ((), q19)
  else
    h_b1 (k_aI ms 38 4) fun x7 =>
    h_b1 (k_sL ms ((8 * l1) + l2) (Int32.toInt64 x7)) fun q8 =>
    h_b1 (k_aI q8 38 1) fun x9 =>
    h_b1 (k_sI q8 7 l4 x9) fun q10 =>
    h_b1 (k_aI q10 38 2) fun x11 =>
    h_b1 (k_sI q10 8 l4 x11) fun q12 =>
    h_b1 (k_sI q12 9 l4 l2) fun q13 =>
    h_b1 (k_aI q13 38 3) fun x14 =>
    h_b1 (k_sI q13 10 l4 x14) fun q15 =>
    h_b1 (k_aI q15 38 4) fun x16 =>
    h_b1 (k_sI q15 11 l4 x16) fun q17 =>
    h_b1 (k_sI q17 12 l4 ((q17.1 1) + 180)) fun q18 =>
    some ((), q18)
def pj_X10_registered_242 (ms : MS) (l1 : Int32) (l2 : Int32) (l4 : Int32) (t0 : Int32) : Option (Unit × MS) :=
  pj_X10_registered_243 ms l1 l2 t0 l4
def pj_X10_registered_213 (ms : MS) (l1 : Int32) (l2 : Int32) (l4 : Int32) (t0 : Int32) : Option (Unit × MS) :=
  if t0 = 0 then
    pj_X10_registered_243 ms l1 l2 t0 l4
  else
    if l4 = (-1) then
      k_bd (p_X10_emptyEntry ms l1) fun r20 q21 =>
      if r20 = (-1) then
        pj_X10_registered_242 q21 l1 l2 r20 0
      else
        pj_X10_registered_242 q21 l1 l2 r20 1
    else
      pj_X10_registered_243 ms l1 l2 t0 l4
def pj_X10_registered_212 (ms : MS) (l1 : Int32) (l2 : Int32) (l4 : Int32) : Option (Unit × MS) :=
  pj_X10_registered_213 ms l1 l2 l4 0
def pj_X10_registered_208 (ms : MS) (l1 : Int32) (l2 : Int32) (l4 : Int32) : Option (Unit × MS) :=
  pj_X10_registered_213 ms l1 l2 l4 1
def pj_X10_registered_185 (ms : MS) (l1 : Int32) (l2 : Int32) (l3 : Int32) (t0 : Int32) : Option (Unit × MS) :=
  if l3 = 0 then
    pj_X10_registered_212 ms l1 l2 t0
  else
    if t0 = (-1) then
      pj_X10_registered_208 ms l1 l2 t0
    else
      h_b1 (k_aI ms 9 t0) fun x22 =>
      if x22 = l2 then
        pj_X10_registered_208 ms l1 l2 t0
      else
        pj_X10_registered_212 ms l1 l2 t0
def pj_X10_registered_159 (ms : MS) (l1 : Int32) (l2 : Int32) (t0 : Int32) : Option (Unit × MS) :=
  if t0 = 0 then
    pj_X10_registered_185 ms l1 l2 t0 (-1)
  else
    h_b1 (k_aI ms 38 1) fun x23 =>
    h_b1 (k_aI ms 38 2) fun x24 =>
    k_bd (p_X10_entryFor ms l1 x23 x24) fun r25 q26 =>
    pj_X10_registered_185 q26 l1 l2 t0 r25
def pj_X10_registered_158 (ms : MS) (l1 : Int32) (l2 : Int32) : Option (Unit × MS) :=
  pj_X10_registered_159 ms l1 l2 0
def pj_X10_registered_107 (ms : MS) (l1 : Int32) (l2 : Int32) (t0 : Int32) : Option (Unit × MS) :=
  if t0 = 0 then
    pj_X10_registered_158 ms l1 l2
  else
    h_b1 (k_aI ms 38 1) fun x27 =>
    h_b1 (k_aI ms 38 2) fun x28 =>
    k_bd (p_X10_owner ms x27 x28) fun r29 q30 =>
    if r29 = l1 then
      h_b1 (k_aI q30 38 4) fun x31 =>
      h_b1 (k_aL q30 ((8 * l1) + l2)) fun x32 =>
      if (lg_cmp (Int32.toInt64 x31) x32) ≤ 0 then
        pj_X10_registered_158 q30 l1 l2
      else
        pj_X10_registered_159 q30 l1 l2 1
    else
      pj_X10_registered_158 q30 l1 l2
def pj_X10_registered_106 (ms : MS) (l1 : Int32) (l2 : Int32) : Option (Unit × MS) :=
  pj_X10_registered_107 ms l1 l2 0
def p_X10_registered (ms : MS)  : Option (Unit × MS) :=
  h_b1 (k_aI ms 38 7) fun x1 =>
  k_bd (p_X10_isServerAt ms x1) fun r2 q3 =>
  if r2 = 0 then
    some ((), q3)
  else
    h_b1 (k_aI q3 38 0) fun x4 =>
    k_bd (p_X10_isSite q3 x4) fun r5 q6 =>
    if r5 = 0 then
      pj_X10_registered_106 q6 x1 x4
    else
      h_b1 (k_aI q6 38 3) fun x33 =>
      k_bd (p_X10_in q6 x33 0 15) fun r34 q35 =>
      if r34 = 0 then
        pj_X10_registered_106 q35 x1 x4
      else
        h_b1 (k_aI q35 38 1) fun x36 =>
        h_b1 (k_aI q35 38 2) fun x37 =>
        k_bd (p_X10_isPrefix q35 x36 x37) fun r38 q39 =>
        if r38 = 0 then
          pj_X10_registered_106 q39 x1 x4
        else
          h_b1 (k_aI q39 38 1) fun x40 =>
          h_b1 (k_aI q39 38 2) fun x41 =>
          h_b1 (k_aI q39 38 3) fun x42 =>
          h_b1 (k_aI q39 38 4) fun x43 =>
          k_bd (p_X10_tag q39 x4 x40 x41 x42 x43) fun r44 q45 =>
          h_b1 (k_aI q45 38 5) fun x46 =>
          if r44 = x46 then
            pj_X10_registered_107 q45 x1 x4 1
          else
            pj_X10_registered_106 q45 x1 x4
set_option maxHeartbeats 4000000 in
set_option maxRecDepth 100000 in
theorem qj_X10_registered_243 {σ0 : HS} {m : Nat} {A : Nat → Nat} (σ : HS) (ms : MS) (l1 : Int32) (l2 : Int32) (l3 : Int32) (l4 : Int32) (hV : MV σ m A ms) (hF : MF σ0 σ m A) : Rl σ0 m A (j_X10_registered_243 σ (some m) l1 l2 l3 l4) (pj_X10_registered_243 ms l1 l2 l3 l4) := by
  unfold j_X10_registered_243 pj_X10_registered_243
  refine Rl_ite (fun _ => ?_) (fun _ => ?_)
  · refine Rl_gI hV (by decide) ?_
    refine Rl_pI hV hF (by decide) (fun _ q19 hV hF => ?_)
    exact Rl_ret hV hF
  · refine Rl_gR hV (by decide) ?_
    refine Rl_gR hV (by decide) ?_
    refine Rl_aI hV (by decide) (by decide) (fun x7 => ?_)
    refine Rl_sL hV hF (fun _ q8 hV hF => ?_)
    refine Rl_gR hV (by decide) ?_
    refine Rl_gR hV (by decide) ?_
    refine Rl_aI hV (by decide) (by decide) (fun x9 => ?_)
    refine Rl_sI hV hF (by decide) (by decide) (fun _ q10 hV hF => ?_)
    refine Rl_gR hV (by decide) ?_
    refine Rl_gR hV (by decide) ?_
    refine Rl_aI hV (by decide) (by decide) (fun x11 => ?_)
    refine Rl_sI hV hF (by decide) (by decide) (fun _ q12 hV hF => ?_)
    refine Rl_gR hV (by decide) ?_
    refine Rl_sI hV hF (by decide) (by decide) (fun _ q13 hV hF => ?_)
    refine Rl_gR hV (by decide) ?_
    refine Rl_gR hV (by decide) ?_
    refine Rl_aI hV (by decide) (by decide) (fun x14 => ?_)
    refine Rl_sI hV hF (by decide) (by decide) (fun _ q15 hV hF => ?_)
    refine Rl_gR hV (by decide) ?_
    refine Rl_gR hV (by decide) ?_
    refine Rl_aI hV (by decide) (by decide) (fun x16 => ?_)
    refine Rl_sI hV hF (by decide) (by decide) (fun _ q17 hV hF => ?_)
    refine Rl_gR hV (by decide) ?_
    refine Rl_gI hV (by decide) ?_
    refine Rl_sI hV hF (by decide) (by decide) (fun _ q18 hV hF => ?_)
    exact Rl_ret hV hF
set_option maxHeartbeats 4000000 in
set_option maxRecDepth 100000 in
theorem qj_X10_registered_242 {σ0 : HS} {m : Nat} {A : Nat → Nat} (σ : HS) (ms : MS) (l1 : Int32) (l2 : Int32) (l4 : Int32) (t0 : Int32) (hV : MV σ m A ms) (hF : MF σ0 σ m A) : Rl σ0 m A (j_X10_registered_242 σ (some m) l1 l2 l4 t0) (pj_X10_registered_242 ms l1 l2 l4 t0) := by
  unfold j_X10_registered_242 pj_X10_registered_242
  exact qj_X10_registered_243 _ ms l1 l2 t0 l4 hV hF
set_option maxHeartbeats 4000000 in
set_option maxRecDepth 100000 in
theorem qj_X10_registered_213 {σ0 : HS} {m : Nat} {A : Nat → Nat} (σ : HS) (ms : MS) (l1 : Int32) (l2 : Int32) (l4 : Int32) (t0 : Int32) (hV : MV σ m A ms) (hF : MF σ0 σ m A) : Rl σ0 m A (j_X10_registered_213 σ (some m) l1 l2 l4 t0) (pj_X10_registered_213 ms l1 l2 l4 t0) := by
  unfold j_X10_registered_213 pj_X10_registered_213
  refine Rl_ite (fun _ => ?_) (fun _ => ?_)
  · exact qj_X10_registered_243 _ ms l1 l2 t0 l4 hV hF
  · refine Rl_ite (fun _ => ?_) (fun _ => ?_)
    · refine Rl_rcv hV ?_
      refine Rl_bd hF (q_X10_emptyEntry hV _) (fun r20 _ q21 hV hF => ?_)
      refine Rl_ite (fun _ => ?_) (fun _ => ?_)
      · exact qj_X10_registered_242 _ q21 l1 l2 r20 0 hV hF
      · exact qj_X10_registered_242 _ q21 l1 l2 r20 1 hV hF
    · exact qj_X10_registered_243 _ ms l1 l2 t0 l4 hV hF
set_option maxHeartbeats 4000000 in
set_option maxRecDepth 100000 in
theorem qj_X10_registered_212 {σ0 : HS} {m : Nat} {A : Nat → Nat} (σ : HS) (ms : MS) (l1 : Int32) (l2 : Int32) (l4 : Int32) (hV : MV σ m A ms) (hF : MF σ0 σ m A) : Rl σ0 m A (j_X10_registered_212 σ (some m) l1 l2 l4) (pj_X10_registered_212 ms l1 l2 l4) := by
  unfold j_X10_registered_212 pj_X10_registered_212
  exact qj_X10_registered_213 _ ms l1 l2 l4 0 hV hF
set_option maxHeartbeats 4000000 in
set_option maxRecDepth 100000 in
theorem qj_X10_registered_208 {σ0 : HS} {m : Nat} {A : Nat → Nat} (σ : HS) (ms : MS) (l1 : Int32) (l2 : Int32) (l4 : Int32) (hV : MV σ m A ms) (hF : MF σ0 σ m A) : Rl σ0 m A (j_X10_registered_208 σ (some m) l1 l2 l4) (pj_X10_registered_208 ms l1 l2 l4) := by
  unfold j_X10_registered_208 pj_X10_registered_208
  exact qj_X10_registered_213 _ ms l1 l2 l4 1 hV hF
set_option maxHeartbeats 4000000 in
set_option maxRecDepth 100000 in
theorem qj_X10_registered_185 {σ0 : HS} {m : Nat} {A : Nat → Nat} (σ : HS) (ms : MS) (l1 : Int32) (l2 : Int32) (l3 : Int32) (t0 : Int32) (hV : MV σ m A ms) (hF : MF σ0 σ m A) : Rl σ0 m A (j_X10_registered_185 σ (some m) l1 l2 l3 t0) (pj_X10_registered_185 ms l1 l2 l3 t0) := by
  unfold j_X10_registered_185 pj_X10_registered_185
  refine Rl_ite (fun _ => ?_) (fun _ => ?_)
  · exact qj_X10_registered_212 _ ms l1 l2 t0 hV hF
  · refine Rl_ite (fun _ => ?_) (fun _ => ?_)
    · exact qj_X10_registered_208 _ ms l1 l2 t0 hV hF
    · refine Rl_gR hV (by decide) ?_
      refine Rl_aI hV (by decide) (by decide) (fun x22 => ?_)
      refine Rl_ite (fun _ => ?_) (fun _ => ?_)
      · exact qj_X10_registered_208 _ ms l1 l2 t0 hV hF
      · exact qj_X10_registered_212 _ ms l1 l2 t0 hV hF
set_option maxHeartbeats 4000000 in
set_option maxRecDepth 100000 in
theorem qj_X10_registered_159 {σ0 : HS} {m : Nat} {A : Nat → Nat} (σ : HS) (ms : MS) (l1 : Int32) (l2 : Int32) (t0 : Int32) (hV : MV σ m A ms) (hF : MF σ0 σ m A) : Rl σ0 m A (j_X10_registered_159 σ (some m) l1 l2 t0) (pj_X10_registered_159 ms l1 l2 t0) := by
  unfold j_X10_registered_159 pj_X10_registered_159
  refine Rl_ite (fun _ => ?_) (fun _ => ?_)
  · exact qj_X10_registered_185 _ ms l1 l2 t0 (-1) hV hF
  · refine Rl_gR hV (by decide) ?_
    refine Rl_aI hV (by decide) (by decide) (fun x23 => ?_)
    refine Rl_gR hV (by decide) ?_
    refine Rl_aI hV (by decide) (by decide) (fun x24 => ?_)
    refine Rl_rcv hV ?_
    refine Rl_bd hF (q_X10_entryFor hV _ _ _) (fun r25 _ q26 hV hF => ?_)
    exact qj_X10_registered_185 _ q26 l1 l2 t0 r25 hV hF
set_option maxHeartbeats 4000000 in
set_option maxRecDepth 100000 in
theorem qj_X10_registered_158 {σ0 : HS} {m : Nat} {A : Nat → Nat} (σ : HS) (ms : MS) (l1 : Int32) (l2 : Int32) (hV : MV σ m A ms) (hF : MF σ0 σ m A) : Rl σ0 m A (j_X10_registered_158 σ (some m) l1 l2) (pj_X10_registered_158 ms l1 l2) := by
  unfold j_X10_registered_158 pj_X10_registered_158
  exact qj_X10_registered_159 _ ms l1 l2 0 hV hF
set_option maxHeartbeats 4000000 in
set_option maxRecDepth 100000 in
theorem qj_X10_registered_107 {σ0 : HS} {m : Nat} {A : Nat → Nat} (σ : HS) (ms : MS) (l1 : Int32) (l2 : Int32) (t0 : Int32) (hV : MV σ m A ms) (hF : MF σ0 σ m A) : Rl σ0 m A (j_X10_registered_107 σ (some m) l1 l2 t0) (pj_X10_registered_107 ms l1 l2 t0) := by
  unfold j_X10_registered_107 pj_X10_registered_107
  refine Rl_ite (fun _ => ?_) (fun _ => ?_)
  · exact qj_X10_registered_158 _ ms l1 l2 hV hF
  · refine Rl_gR hV (by decide) ?_
    refine Rl_aI hV (by decide) (by decide) (fun x27 => ?_)
    refine Rl_gR hV (by decide) ?_
    refine Rl_aI hV (by decide) (by decide) (fun x28 => ?_)
    refine Rl_rcv hV ?_
    refine Rl_bd hF (q_X10_owner hV _ _) (fun r29 _ q30 hV hF => ?_)
    refine Rl_ite (fun _ => ?_) (fun _ => ?_)
    · refine Rl_gR hV (by decide) ?_
      refine Rl_aI hV (by decide) (by decide) (fun x31 => ?_)
      refine Rl_gR hV (by decide) ?_
      refine Rl_aL hV (fun x32 => ?_)
      refine Rl_ite (fun _ => ?_) (fun _ => ?_)
      · exact qj_X10_registered_158 _ q30 l1 l2 hV hF
      · exact qj_X10_registered_159 _ q30 l1 l2 1 hV hF
    · exact qj_X10_registered_158 _ q30 l1 l2 hV hF
set_option maxHeartbeats 4000000 in
set_option maxRecDepth 100000 in
theorem qj_X10_registered_106 {σ0 : HS} {m : Nat} {A : Nat → Nat} (σ : HS) (ms : MS) (l1 : Int32) (l2 : Int32) (hV : MV σ m A ms) (hF : MF σ0 σ m A) : Rl σ0 m A (j_X10_registered_106 σ (some m) l1 l2) (pj_X10_registered_106 ms l1 l2) := by
  unfold j_X10_registered_106 pj_X10_registered_106
  exact qj_X10_registered_107 _ ms l1 l2 0 hV hF
set_option maxHeartbeats 4000000 in
set_option maxRecDepth 100000 in
theorem q_X10_registered {σ : HS} {m : Nat} {A : Nat → Nat} {ms : MS} (hV : MV σ m A ms)  : Rl σ m A (f_X10_registered σ (some m)) (p_X10_registered ms ) := by
  have hF : MF σ σ m A := MF.rf
  unfold f_X10_registered p_X10_registered
  refine Rl_gR hV (by decide) ?_
  refine Rl_aI hV (by decide) (by decide) (fun x1 => ?_)
  refine Rl_rcv hV ?_
  refine Rl_bd hF (q_X10_isServerAt hV _) (fun r2 _ q3 hV hF => ?_)
  refine Rl_ite (fun _ => ?_) (fun _ => ?_)
  · exact Rl_ret hV hF
  · refine Rl_gR hV (by decide) ?_
    refine Rl_aI hV (by decide) (by decide) (fun x4 => ?_)
    refine Rl_rcv hV ?_
    refine Rl_bd hF (q_X10_isSite hV _) (fun r5 _ q6 hV hF => ?_)
    refine Rl_ite (fun _ => ?_) (fun _ => ?_)
    · exact qj_X10_registered_106 _ q6 x1 x4 hV hF
    · refine Rl_gR hV (by decide) ?_
      refine Rl_aI hV (by decide) (by decide) (fun x33 => ?_)
      refine Rl_bd hF (q_X10_in hV _ _ _) (fun r34 _ q35 hV hF => ?_)
      refine Rl_ite (fun _ => ?_) (fun _ => ?_)
      · exact qj_X10_registered_106 _ q35 x1 x4 hV hF
      · refine Rl_gR hV (by decide) ?_
        refine Rl_aI hV (by decide) (by decide) (fun x36 => ?_)
        refine Rl_gR hV (by decide) ?_
        refine Rl_aI hV (by decide) (by decide) (fun x37 => ?_)
        refine Rl_bd hF (q_X10_isPrefix hV _ _) (fun r38 _ q39 hV hF => ?_)
        refine Rl_ite (fun _ => ?_) (fun _ => ?_)
        · exact qj_X10_registered_106 _ q39 x1 x4 hV hF
        · refine Rl_gR hV (by decide) ?_
          refine Rl_aI hV (by decide) (by decide) (fun x40 => ?_)
          refine Rl_gR hV (by decide) ?_
          refine Rl_aI hV (by decide) (by decide) (fun x41 => ?_)
          refine Rl_gR hV (by decide) ?_
          refine Rl_aI hV (by decide) (by decide) (fun x42 => ?_)
          refine Rl_gR hV (by decide) ?_
          refine Rl_aI hV (by decide) (by decide) (fun x43 => ?_)
          refine Rl_bd hF (q_X10_tag hV _ _ _ _ _) (fun r44 _ q45 hV hF => ?_)
          refine Rl_gR hV (by decide) ?_
          refine Rl_aI hV (by decide) (by decide) (fun x46 => ?_)
          refine Rl_ite (fun _ => ?_) (fun _ => ?_)
          · exact qj_X10_registered_107 _ q45 x1 x4 1 hV hF
          · exact qj_X10_registered_106 _ q45 x1 x4 hV hF
end
/-! from 23.num02 -/
section
/-! X10_draw -/
def p_X10_draw (ms : MS)  : Option (Unit × MS) :=
  k_lt (k_pI ms 2 ((ms.1 2) ^^^ ((ms.1 2) <<< (13 &&& 31)))) fun q1 =>
  k_lt (k_pI q1 2 ((q1.1 2) ^^^ (h_ushr (q1.1 2) 17))) fun q2 =>
  k_lt (k_pI q2 2 ((q2.1 2) ^^^ ((q2.1 2) <<< (5 &&& 31)))) fun q3 =>
  some ((), q3)
set_option maxHeartbeats 4000000 in
set_option maxRecDepth 100000 in
theorem q_X10_draw {σ : HS} {m : Nat} {A : Nat → Nat} {ms : MS} (hV : MV σ m A ms)  : Rl σ m A (f_X10_draw σ (some m)) (p_X10_draw ms ) := by
  have hF : MF σ σ m A := MF.rf
  unfold f_X10_draw p_X10_draw
  refine Rl_gI hV (by decide) ?_
  refine Rl_gI hV (by decide) ?_
  refine Rl_pI hV hF (by decide) (fun _ q1 hV hF => ?_)
  refine Rl_gI hV (by decide) ?_
  refine Rl_gI hV (by decide) ?_
  refine Rl_pI hV hF (by decide) (fun _ q2 hV hF => ?_)
  refine Rl_gI hV (by decide) ?_
  refine Rl_gI hV (by decide) ?_
  refine Rl_pI hV hF (by decide) (fun _ q3 hV hF => ?_)
  exact Rl_ret hV hF
/-! X10_ask -/
def p_X10_ask (ms : MS) (a1 : Int32) (a2 : Int32) : Option (Unit × MS) :=
  k_bd (p_X10_draw ms ) fun _ q2 =>
  h_b1 (k_sI q2 31 a1 0) fun q3 =>
  h_b1 (k_sI q3 32 a1 (q3.1 2)) fun q4 =>
  h_b1 (k_aI q4 29 a1) fun x5 =>
  h_b1 (k_aI q4 30 a1) fun x6 =>
  k_bd (p_X10_post q4 1 a2 x5 (q4.1 2) x6 0 0) fun _ q8 =>
  some ((), q8)
set_option maxHeartbeats 4000000 in
set_option maxRecDepth 100000 in
theorem q_X10_ask {σ : HS} {m : Nat} {A : Nat → Nat} {ms : MS} (hV : MV σ m A ms) (a1 : Int32) (a2 : Int32) : Rl σ m A (f_X10_ask σ (some m) a1 a2) (p_X10_ask ms a1 a2) := by
  have hF : MF σ σ m A := MF.rf
  unfold f_X10_ask p_X10_ask
  refine Rl_rcv hV ?_
  refine Rl_bd hF (q_X10_draw hV ) (fun r1 _ q2 hV hF => ?_)
  refine Rl_gR hV (by decide) ?_
  refine Rl_sI hV hF (by decide) (by decide) (fun _ q3 hV hF => ?_)
  refine Rl_gR hV (by decide) ?_
  refine Rl_gI hV (by decide) ?_
  refine Rl_sI hV hF (by decide) (by decide) (fun _ q4 hV hF => ?_)
  refine Rl_gR hV (by decide) ?_
  refine Rl_aI hV (by decide) (by decide) (fun x5 => ?_)
  refine Rl_gI hV (by decide) ?_
  refine Rl_gR hV (by decide) ?_
  refine Rl_aI hV (by decide) (by decide) (fun x6 => ?_)
  refine Rl_rcv hV ?_
  refine Rl_bd hF (q_X10_post hV _ _ _ _ _ _ _) (fun r7 _ q8 hV hF => ?_)
  exact Rl_ret hV hF
/-! X10_follow -/
def pj_X10_follow_15 (ms : MS) (l1 : Int32) (l2 : Int32) (t0 : Int32) (t1 : Int32) : Option (Unit × MS) :=
  h_b1 (k_sI ms 31 t1 t0) fun q1 =>
  if l2 = (-1) then
    some ((), q1)
  else
    h_b1 (k_aI q1 29 l1) fun x2 =>
    h_b1 (k_aI q1 30 l1) fun x3 =>
    k_bd (p_X10_post q1 3 l2 x2 l1 x3 0 0) fun _ q5 =>
    some ((), q5)
def p_X10_follow (ms : MS) (a1 : Int32) (a2 : Int32) : Option (Unit × MS) :=
  if a2 = (-1) then
    pj_X10_follow_15 ms a1 a2 3 a1
  else
    pj_X10_follow_15 ms a1 a2 1 a1
set_option maxHeartbeats 4000000 in
set_option maxRecDepth 100000 in
theorem qj_X10_follow_15 {σ0 : HS} {m : Nat} {A : Nat → Nat} (σ : HS) (ms : MS) (l1 : Int32) (l2 : Int32) (t0 : Int32) (t1 : Int32) (hV : MV σ m A ms) (hF : MF σ0 σ m A) : Rl σ0 m A (j_X10_follow_15 σ (some m) l1 l2 t0 t1 (some (A 31))) (pj_X10_follow_15 ms l1 l2 t0 t1) := by
  unfold j_X10_follow_15 pj_X10_follow_15
  refine Rl_sI hV hF (by decide) (by decide) (fun _ q1 hV hF => ?_)
  refine Rl_ite (fun _ => ?_) (fun _ => ?_)
  · exact Rl_ret hV hF
  · refine Rl_gR hV (by decide) ?_
    refine Rl_aI hV (by decide) (by decide) (fun x2 => ?_)
    refine Rl_gR hV (by decide) ?_
    refine Rl_aI hV (by decide) (by decide) (fun x3 => ?_)
    refine Rl_rcv hV ?_
    refine Rl_bd hF (q_X10_post hV _ _ _ _ _ _ _) (fun r4 _ q5 hV hF => ?_)
    exact Rl_ret hV hF
set_option maxHeartbeats 4000000 in
set_option maxRecDepth 100000 in
theorem q_X10_follow {σ : HS} {m : Nat} {A : Nat → Nat} {ms : MS} (hV : MV σ m A ms) (a1 : Int32) (a2 : Int32) : Rl σ m A (f_X10_follow σ (some m) a1 a2) (p_X10_follow ms a1 a2) := by
  have hF : MF σ σ m A := MF.rf
  unfold f_X10_follow p_X10_follow
  refine Rl_gR hV (by decide) ?_
  refine Rl_ite (fun _ => ?_) (fun _ => ?_)
  · exact qj_X10_follow_15 _ ms a1 a2 3 a1 hV hF
  · exact qj_X10_follow_15 _ ms a1 a2 1 a1 hV hF
/-! X10_makeNote -/
def pg_X10_makeNote_97 : Nat → MS → Int32 → Int32 → Int32 → Int32 → Int32 → Int32 → Int32 → Option (Unit × MS)
  | 0, _, _, _, _, _, _, _, _ => none
  | n + 1, ms, l1, l2, l3, l4, l5, l6, l7 =>
    if ((6 * l1) + 6) ≤ l7 then
      k_lt (k_pI ms 25 ((ms.1 25) + 1)) fun q1 =>
      h_b1 (k_sI q1 19 l6 l2) fun q2 =>
      h_b1 (k_sI q2 20 l6 l3) fun q3 =>
      h_b1 (k_sI q3 21 l6 l4) fun q4 =>
      h_b1 (k_sI q4 22 l6 l5) fun q5 =>
      h_b1 (k_sI q5 23 l6 ((q5.1 1) + 60)) fun q6 =>
      h_b1 (k_sI q6 24 l6 (q6.1 25)) fun q7 =>
      some ((), q7)
    else
      h_b1 (k_aI ms 23 l7) fun x8 =>
      if x8 ≤ (ms.1 1) then
        if l6 = (-1) then
          if l6 = (-1) then
            pg_X10_makeNote_97 n ms l1 l2 l3 l4 l5 l7 (l7 + 1)
          else
            if (0 : Int32) < 0 then
              pg_X10_makeNote_97 n ms l1 l2 l3 l4 l5 l7 (l7 + 1)
            else
              if (0 : Int32) = 0 then
                if (0 : Int32) ≤ 0 then
                  pg_X10_makeNote_97 n ms l1 l2 l3 l4 l5 l6 (l7 + 1)
                else
                  h_b1 (k_aI ms 24 l7) fun x15 =>
                  h_b1 (k_aI ms 24 l6) fun x16 =>
                  if x16 ≤ x15 then
                    pg_X10_makeNote_97 n ms l1 l2 l3 l4 l5 l6 (l7 + 1)
                  else
                    pg_X10_makeNote_97 n ms l1 l2 l3 l4 l5 l7 (l7 + 1)
              else
                pg_X10_makeNote_97 n ms l1 l2 l3 l4 l5 l6 (l7 + 1)
        else
          h_b1 (k_aI ms 23 l6) fun x9 =>
          if x9 ≤ (ms.1 1) then
            if l6 = (-1) then
              pg_X10_makeNote_97 n ms l1 l2 l3 l4 l5 l7 (l7 + 1)
            else
              if (0 : Int32) < 0 then
                pg_X10_makeNote_97 n ms l1 l2 l3 l4 l5 l7 (l7 + 1)
              else
                if (0 : Int32) = 0 then
                  if (0 : Int32) ≤ 0 then
                    pg_X10_makeNote_97 n ms l1 l2 l3 l4 l5 l6 (l7 + 1)
                  else
                    h_b1 (k_aI ms 24 l7) fun x10 =>
                    h_b1 (k_aI ms 24 l6) fun x11 =>
                    if x11 ≤ x10 then
                      pg_X10_makeNote_97 n ms l1 l2 l3 l4 l5 l6 (l7 + 1)
                    else
                      pg_X10_makeNote_97 n ms l1 l2 l3 l4 l5 l7 (l7 + 1)
                else
                  pg_X10_makeNote_97 n ms l1 l2 l3 l4 l5 l6 (l7 + 1)
          else
            h_b1 (k_aI ms 23 l6) fun x12 =>
            if l6 = (-1) then
              pg_X10_makeNote_97 n ms l1 l2 l3 l4 l5 l7 (l7 + 1)
            else
              if 0 < x12 then
                pg_X10_makeNote_97 n ms l1 l2 l3 l4 l5 l7 (l7 + 1)
              else
                if 0 = x12 then
                  if (0 : Int32) ≤ 0 then
                    pg_X10_makeNote_97 n ms l1 l2 l3 l4 l5 l6 (l7 + 1)
                  else
                    h_b1 (k_aI ms 24 l7) fun x13 =>
                    h_b1 (k_aI ms 24 l6) fun x14 =>
                    if x14 ≤ x13 then
                      pg_X10_makeNote_97 n ms l1 l2 l3 l4 l5 l6 (l7 + 1)
                    else
                      pg_X10_makeNote_97 n ms l1 l2 l3 l4 l5 l7 (l7 + 1)
                else
                  pg_X10_makeNote_97 n ms l1 l2 l3 l4 l5 l6 (l7 + 1)
      else
        h_b1 (k_aI ms 23 l7) fun x17 =>
        if l6 = (-1) then
          if l6 = (-1) then
            pg_X10_makeNote_97 n ms l1 l2 l3 l4 l5 l7 (l7 + 1)
          else
            if x17 < 0 then
              pg_X10_makeNote_97 n ms l1 l2 l3 l4 l5 l7 (l7 + 1)
            else
              if x17 = 0 then
                if x17 ≤ 0 then
                  pg_X10_makeNote_97 n ms l1 l2 l3 l4 l5 l6 (l7 + 1)
                else
                  h_b1 (k_aI ms 24 l7) fun x24 =>
                  h_b1 (k_aI ms 24 l6) fun x25 =>
                  if x25 ≤ x24 then
                    pg_X10_makeNote_97 n ms l1 l2 l3 l4 l5 l6 (l7 + 1)
                  else
                    pg_X10_makeNote_97 n ms l1 l2 l3 l4 l5 l7 (l7 + 1)
              else
                pg_X10_makeNote_97 n ms l1 l2 l3 l4 l5 l6 (l7 + 1)
        else
          h_b1 (k_aI ms 23 l6) fun x18 =>
          if x18 ≤ (ms.1 1) then
            if l6 = (-1) then
              pg_X10_makeNote_97 n ms l1 l2 l3 l4 l5 l7 (l7 + 1)
            else
              if x17 < 0 then
                pg_X10_makeNote_97 n ms l1 l2 l3 l4 l5 l7 (l7 + 1)
              else
                if x17 = 0 then
                  if x17 ≤ 0 then
                    pg_X10_makeNote_97 n ms l1 l2 l3 l4 l5 l6 (l7 + 1)
                  else
                    h_b1 (k_aI ms 24 l7) fun x19 =>
                    h_b1 (k_aI ms 24 l6) fun x20 =>
                    if x20 ≤ x19 then
                      pg_X10_makeNote_97 n ms l1 l2 l3 l4 l5 l6 (l7 + 1)
                    else
                      pg_X10_makeNote_97 n ms l1 l2 l3 l4 l5 l7 (l7 + 1)
                else
                  pg_X10_makeNote_97 n ms l1 l2 l3 l4 l5 l6 (l7 + 1)
          else
            h_b1 (k_aI ms 23 l6) fun x21 =>
            if l6 = (-1) then
              pg_X10_makeNote_97 n ms l1 l2 l3 l4 l5 l7 (l7 + 1)
            else
              if x17 < x21 then
                pg_X10_makeNote_97 n ms l1 l2 l3 l4 l5 l7 (l7 + 1)
              else
                if x17 = x21 then
                  if x17 ≤ 0 then
                    pg_X10_makeNote_97 n ms l1 l2 l3 l4 l5 l6 (l7 + 1)
                  else
                    h_b1 (k_aI ms 24 l7) fun x22 =>
                    h_b1 (k_aI ms 24 l6) fun x23 =>
                    if x23 ≤ x22 then
                      pg_X10_makeNote_97 n ms l1 l2 l3 l4 l5 l6 (l7 + 1)
                    else
                      pg_X10_makeNote_97 n ms l1 l2 l3 l4 l5 l7 (l7 + 1)
                else
                  pg_X10_makeNote_97 n ms l1 l2 l3 l4 l5 l6 (l7 + 1)
def pg_X10_makeNote_9 : Nat → MS → Int32 → Int32 → Int32 → Int32 → Int32 → Int32 → Int32 → Option (Unit × MS)
  | 0, _, _, _, _, _, _, _, _ => none
  | n + 1, ms, l1, l2, l3, l4, l5, l6, l7 =>
    if ((6 * l1) + 6) ≤ l7 then
      pg_X10_makeNote_97 h_hN ms l1 l2 l3 l4 l5 l6 (6 * l1)
    else
      h_b1 (k_aI ms 19 l7) fun x26 =>
      h_b1 (k_aI ms 20 l7) fun x27 =>
      k_bd (p_X10_holds ms l2 l3 x26 x27) fun r28 q29 =>
      if r28 = 0 then
        h_b1 (k_aI q29 19 l7) fun x31 =>
        h_b1 (k_aI q29 20 l7) fun x32 =>
        k_bd (p_X10_holds q29 x31 x32 l2 l3) fun r33 q34 =>
        if r33 = 0 then
          if (0 : Int32) = 0 then
            pg_X10_makeNote_9 n q34 l1 l2 l3 l4 l5 l6 (l7 + 1)
          else
            h_b1 (k_sI q34 23 l7 0) fun q35 =>
            pg_X10_makeNote_9 n q35 l1 l2 l3 l4 l5 l6 (l7 + 1)
        else
          if (1 : Int32) = 0 then
            pg_X10_makeNote_9 n q34 l1 l2 l3 l4 l5 l6 (l7 + 1)
          else
            h_b1 (k_sI q34 23 l7 0) fun q36 =>
            pg_X10_makeNote_9 n q36 l1 l2 l3 l4 l5 l6 (l7 + 1)
      else
        if (1 : Int32) = 0 then
          pg_X10_makeNote_9 n q29 l1 l2 l3 l4 l5 l6 (l7 + 1)
        else
          h_b1 (k_sI q29 23 l7 0) fun q30 =>
          pg_X10_makeNote_9 n q30 l1 l2 l3 l4 l5 l6 (l7 + 1)
def p_X10_makeNote (ms : MS) (a1 : Int32) (a2 : Int32) (a3 : Int32) (a4 : Int32) (a5 : Int32) : Option (Unit × MS) :=
  pg_X10_makeNote_9 h_hN ms a1 a2 a3 a4 a5 (-1) (6 * a1)
set_option maxHeartbeats 4000000 in
set_option maxRecDepth 100000 in
theorem qg_X10_makeNote_97 {σ0 : HS} {m : Nat} {A : Nat → Nat} : ∀ (n : Nat) (σ : HS) (ms : MS) (l1 : Int32) (l2 : Int32) (l3 : Int32) (l4 : Int32) (l5 : Int32) (l6 : Int32) (l7 : Int32), MV σ m A ms → MF σ0 σ m A → Rl σ0 m A (g_X10_makeNote_97 n σ (some m) l1 l2 l3 l4 l5 l6 l7) (pg_X10_makeNote_97 n ms l1 l2 l3 l4 l5 l6 l7) := by
  intro n
  induction n with
  | zero =>
    intro σ ms l1 l2 l3 l4 l5 l6 l7 hV hF
    rw [pg_X10_makeNote_97]
    exact Rl_none
  | succ n ih =>
    intro σ ms l1 l2 l3 l4 l5 l6 l7 hV hF
    rw [pg_X10_makeNote_97, g_X10_makeNote_97]
    refine Rl_ite (fun _ => ?_) (fun _ => ?_)
    · refine Rl_gI hV (by decide) ?_
      refine Rl_pI hV hF (by decide) (fun _ q1 hV hF => ?_)
      refine Rl_gR hV (by decide) ?_
      refine Rl_sI hV hF (by decide) (by decide) (fun _ q2 hV hF => ?_)
      refine Rl_gR hV (by decide) ?_
      refine Rl_sI hV hF (by decide) (by decide) (fun _ q3 hV hF => ?_)
      refine Rl_gR hV (by decide) ?_
      refine Rl_sI hV hF (by decide) (by decide) (fun _ q4 hV hF => ?_)
      refine Rl_gR hV (by decide) ?_
      refine Rl_sI hV hF (by decide) (by decide) (fun _ q5 hV hF => ?_)
      refine Rl_gR hV (by decide) ?_
      refine Rl_gI hV (by decide) ?_
      refine Rl_sI hV hF (by decide) (by decide) (fun _ q6 hV hF => ?_)
      refine Rl_gR hV (by decide) ?_
      refine Rl_gI hV (by decide) ?_
      refine Rl_sI hV hF (by decide) (by decide) (fun _ q7 hV hF => ?_)
      exact Rl_ret hV hF
    · refine Rl_gR hV (by decide) ?_
      refine Rl_aI hV (by decide) (by decide) (fun x8 => ?_)
      refine Rl_gI hV (by decide) ?_
      refine Rl_ite (fun _ => ?_) (fun _ => ?_)
      · refine Rl_ite (fun _ => ?_) (fun _ => ?_)
        · refine Rl_ite (fun _ => ?_) (fun _ => ?_)
          · exact ih _ ms l1 l2 l3 l4 l5 l7 (l7 + 1) hV hF
          · refine Rl_ite (fun _ => ?_) (fun _ => ?_)
            · exact ih _ ms l1 l2 l3 l4 l5 l7 (l7 + 1) hV hF
            · refine Rl_ite (fun _ => ?_) (fun _ => ?_)
              · refine Rl_ite (fun _ => ?_) (fun _ => ?_)
                · exact ih _ ms l1 l2 l3 l4 l5 l6 (l7 + 1) hV hF
                · refine Rl_gR hV (by decide) ?_
                  refine Rl_aI hV (by decide) (by decide) (fun x15 => ?_)
                  refine Rl_gR hV (by decide) ?_
                  refine Rl_aI hV (by decide) (by decide) (fun x16 => ?_)
                  refine Rl_ite (fun _ => ?_) (fun _ => ?_)
                  · exact ih _ ms l1 l2 l3 l4 l5 l6 (l7 + 1) hV hF
                  · exact ih _ ms l1 l2 l3 l4 l5 l7 (l7 + 1) hV hF
              · exact ih _ ms l1 l2 l3 l4 l5 l6 (l7 + 1) hV hF
        · refine Rl_gR hV (by decide) ?_
          refine Rl_aI hV (by decide) (by decide) (fun x9 => ?_)
          refine Rl_gI hV (by decide) ?_
          refine Rl_ite (fun _ => ?_) (fun _ => ?_)
          · refine Rl_ite (fun _ => ?_) (fun _ => ?_)
            · exact ih _ ms l1 l2 l3 l4 l5 l7 (l7 + 1) hV hF
            · refine Rl_ite (fun _ => ?_) (fun _ => ?_)
              · exact ih _ ms l1 l2 l3 l4 l5 l7 (l7 + 1) hV hF
              · refine Rl_ite (fun _ => ?_) (fun _ => ?_)
                · refine Rl_ite (fun _ => ?_) (fun _ => ?_)
                  · exact ih _ ms l1 l2 l3 l4 l5 l6 (l7 + 1) hV hF
                  · refine Rl_gR hV (by decide) ?_
                    refine Rl_aI hV (by decide) (by decide) (fun x10 => ?_)
                    refine Rl_gR hV (by decide) ?_
                    refine Rl_aI hV (by decide) (by decide) (fun x11 => ?_)
                    refine Rl_ite (fun _ => ?_) (fun _ => ?_)
                    · exact ih _ ms l1 l2 l3 l4 l5 l6 (l7 + 1) hV hF
                    · exact ih _ ms l1 l2 l3 l4 l5 l7 (l7 + 1) hV hF
                · exact ih _ ms l1 l2 l3 l4 l5 l6 (l7 + 1) hV hF
          · refine Rl_gR hV (by decide) ?_
            refine Rl_aI hV (by decide) (by decide) (fun x12 => ?_)
            refine Rl_ite (fun _ => ?_) (fun _ => ?_)
            · exact ih _ ms l1 l2 l3 l4 l5 l7 (l7 + 1) hV hF
            · refine Rl_ite (fun _ => ?_) (fun _ => ?_)
              · exact ih _ ms l1 l2 l3 l4 l5 l7 (l7 + 1) hV hF
              · refine Rl_ite (fun _ => ?_) (fun _ => ?_)
                · refine Rl_ite (fun _ => ?_) (fun _ => ?_)
                  · exact ih _ ms l1 l2 l3 l4 l5 l6 (l7 + 1) hV hF
                  · refine Rl_gR hV (by decide) ?_
                    refine Rl_aI hV (by decide) (by decide) (fun x13 => ?_)
                    refine Rl_gR hV (by decide) ?_
                    refine Rl_aI hV (by decide) (by decide) (fun x14 => ?_)
                    refine Rl_ite (fun _ => ?_) (fun _ => ?_)
                    · exact ih _ ms l1 l2 l3 l4 l5 l6 (l7 + 1) hV hF
                    · exact ih _ ms l1 l2 l3 l4 l5 l7 (l7 + 1) hV hF
                · exact ih _ ms l1 l2 l3 l4 l5 l6 (l7 + 1) hV hF
      · refine Rl_gR hV (by decide) ?_
        refine Rl_aI hV (by decide) (by decide) (fun x17 => ?_)
        refine Rl_ite (fun _ => ?_) (fun _ => ?_)
        · refine Rl_ite (fun _ => ?_) (fun _ => ?_)
          · exact ih _ ms l1 l2 l3 l4 l5 l7 (l7 + 1) hV hF
          · refine Rl_ite (fun _ => ?_) (fun _ => ?_)
            · exact ih _ ms l1 l2 l3 l4 l5 l7 (l7 + 1) hV hF
            · refine Rl_ite (fun _ => ?_) (fun _ => ?_)
              · refine Rl_ite (fun _ => ?_) (fun _ => ?_)
                · exact ih _ ms l1 l2 l3 l4 l5 l6 (l7 + 1) hV hF
                · refine Rl_gR hV (by decide) ?_
                  refine Rl_aI hV (by decide) (by decide) (fun x24 => ?_)
                  refine Rl_gR hV (by decide) ?_
                  refine Rl_aI hV (by decide) (by decide) (fun x25 => ?_)
                  refine Rl_ite (fun _ => ?_) (fun _ => ?_)
                  · exact ih _ ms l1 l2 l3 l4 l5 l6 (l7 + 1) hV hF
                  · exact ih _ ms l1 l2 l3 l4 l5 l7 (l7 + 1) hV hF
              · exact ih _ ms l1 l2 l3 l4 l5 l6 (l7 + 1) hV hF
        · refine Rl_gR hV (by decide) ?_
          refine Rl_aI hV (by decide) (by decide) (fun x18 => ?_)
          refine Rl_gI hV (by decide) ?_
          refine Rl_ite (fun _ => ?_) (fun _ => ?_)
          · refine Rl_ite (fun _ => ?_) (fun _ => ?_)
            · exact ih _ ms l1 l2 l3 l4 l5 l7 (l7 + 1) hV hF
            · refine Rl_ite (fun _ => ?_) (fun _ => ?_)
              · exact ih _ ms l1 l2 l3 l4 l5 l7 (l7 + 1) hV hF
              · refine Rl_ite (fun _ => ?_) (fun _ => ?_)
                · refine Rl_ite (fun _ => ?_) (fun _ => ?_)
                  · exact ih _ ms l1 l2 l3 l4 l5 l6 (l7 + 1) hV hF
                  · refine Rl_gR hV (by decide) ?_
                    refine Rl_aI hV (by decide) (by decide) (fun x19 => ?_)
                    refine Rl_gR hV (by decide) ?_
                    refine Rl_aI hV (by decide) (by decide) (fun x20 => ?_)
                    refine Rl_ite (fun _ => ?_) (fun _ => ?_)
                    · exact ih _ ms l1 l2 l3 l4 l5 l6 (l7 + 1) hV hF
                    · exact ih _ ms l1 l2 l3 l4 l5 l7 (l7 + 1) hV hF
                · exact ih _ ms l1 l2 l3 l4 l5 l6 (l7 + 1) hV hF
          · refine Rl_gR hV (by decide) ?_
            refine Rl_aI hV (by decide) (by decide) (fun x21 => ?_)
            refine Rl_ite (fun _ => ?_) (fun _ => ?_)
            · exact ih _ ms l1 l2 l3 l4 l5 l7 (l7 + 1) hV hF
            · refine Rl_ite (fun _ => ?_) (fun _ => ?_)
              · exact ih _ ms l1 l2 l3 l4 l5 l7 (l7 + 1) hV hF
              · refine Rl_ite (fun _ => ?_) (fun _ => ?_)
                · refine Rl_ite (fun _ => ?_) (fun _ => ?_)
                  · exact ih _ ms l1 l2 l3 l4 l5 l6 (l7 + 1) hV hF
                  · refine Rl_gR hV (by decide) ?_
                    refine Rl_aI hV (by decide) (by decide) (fun x22 => ?_)
                    refine Rl_gR hV (by decide) ?_
                    refine Rl_aI hV (by decide) (by decide) (fun x23 => ?_)
                    refine Rl_ite (fun _ => ?_) (fun _ => ?_)
                    · exact ih _ ms l1 l2 l3 l4 l5 l6 (l7 + 1) hV hF
                    · exact ih _ ms l1 l2 l3 l4 l5 l7 (l7 + 1) hV hF
                · exact ih _ ms l1 l2 l3 l4 l5 l6 (l7 + 1) hV hF
set_option maxHeartbeats 4000000 in
set_option maxRecDepth 100000 in
theorem qg_X10_makeNote_9 {σ0 : HS} {m : Nat} {A : Nat → Nat} : ∀ (n : Nat) (σ : HS) (ms : MS) (l1 : Int32) (l2 : Int32) (l3 : Int32) (l4 : Int32) (l5 : Int32) (l6 : Int32) (l7 : Int32), MV σ m A ms → MF σ0 σ m A → Rl σ0 m A (g_X10_makeNote_9 n σ (some m) l1 l2 l3 l4 l5 l6 l7) (pg_X10_makeNote_9 n ms l1 l2 l3 l4 l5 l6 l7) := by
  intro n
  induction n with
  | zero =>
    intro σ ms l1 l2 l3 l4 l5 l6 l7 hV hF
    rw [pg_X10_makeNote_9]
    exact Rl_none
  | succ n ih =>
    intro σ ms l1 l2 l3 l4 l5 l6 l7 hV hF
    rw [pg_X10_makeNote_9, g_X10_makeNote_9]
    refine Rl_ite (fun _ => ?_) (fun _ => ?_)
    · exact qg_X10_makeNote_97 h_hN _ ms l1 l2 l3 l4 l5 l6 (6 * l1) hV hF
    · refine Rl_gR hV (by decide) ?_
      refine Rl_aI hV (by decide) (by decide) (fun x26 => ?_)
      refine Rl_gR hV (by decide) ?_
      refine Rl_aI hV (by decide) (by decide) (fun x27 => ?_)
      refine Rl_bd hF (q_X10_holds hV _ _ _ _) (fun r28 _ q29 hV hF => ?_)
      refine Rl_ite (fun _ => ?_) (fun _ => ?_)
      · refine Rl_gR hV (by decide) ?_
        refine Rl_aI hV (by decide) (by decide) (fun x31 => ?_)
        refine Rl_gR hV (by decide) ?_
        refine Rl_aI hV (by decide) (by decide) (fun x32 => ?_)
        refine Rl_bd hF (q_X10_holds hV _ _ _ _) (fun r33 _ q34 hV hF => ?_)
        refine Rl_ite (fun _ => ?_) (fun _ => ?_)
        · refine Rl_ite (fun _ => ?_) (fun _ => ?_)
          · exact ih _ q34 l1 l2 l3 l4 l5 l6 (l7 + 1) hV hF
          · refine Rl_gR hV (by decide) ?_
            refine Rl_sI hV hF (by decide) (by decide) (fun _ q35 hV hF => ?_)
            exact ih _ q35 l1 l2 l3 l4 l5 l6 (l7 + 1) hV hF
        · refine Rl_ite (fun _ => ?_) (fun _ => ?_)
          · exact ih _ q34 l1 l2 l3 l4 l5 l6 (l7 + 1) hV hF
          · refine Rl_gR hV (by decide) ?_
            refine Rl_sI hV hF (by decide) (by decide) (fun _ q36 hV hF => ?_)
            exact ih _ q36 l1 l2 l3 l4 l5 l6 (l7 + 1) hV hF
      · refine Rl_ite (fun _ => ?_) (fun _ => ?_)
        · exact ih _ q29 l1 l2 l3 l4 l5 l6 (l7 + 1) hV hF
        · refine Rl_gR hV (by decide) ?_
          refine Rl_sI hV hF (by decide) (by decide) (fun _ q30 hV hF => ?_)
          exact ih _ q30 l1 l2 l3 l4 l5 l6 (l7 + 1) hV hF
set_option maxHeartbeats 4000000 in
set_option maxRecDepth 100000 in
theorem q_X10_makeNote {σ : HS} {m : Nat} {A : Nat → Nat} {ms : MS} (hV : MV σ m A ms) (a1 : Int32) (a2 : Int32) (a3 : Int32) (a4 : Int32) (a5 : Int32) : Rl σ m A (f_X10_makeNote σ (some m) a1 a2 a3 a4 a5) (p_X10_makeNote ms a1 a2 a3 a4 a5) := by
  have hF : MF σ σ m A := MF.rf
  unfold f_X10_makeNote p_X10_makeNote
  exact qg_X10_makeNote_9 h_hN _ ms a1 a2 a3 a4 a5 (-1) (6 * a1) hV hF
/-! X10_replied -/
def pj_X10_replied_305 (ms : MS) (l2 : Int32) (l3 : Int32) (t0 : Int32) (t1 : Int32) (t2 : Int32) (t3 : Int32) (t4 : Int32) : Option (Unit × MS) :=
  k_bd (p_X10_makeNote ms t4 t3 t2 t1 t0) fun _ q10 =>
  if l3 = 2 then
    k_bd (p_X10_follow q10 l2 (-1)) fun _ q15 =>
    some ((), q15)
  else
    h_b1 (k_aI q10 38 4) fun x11 =>
    k_bd (p_X10_follow q10 l2 x11) fun _ q13 =>
    some ((), q13)
def pj_X10_replied_290 (ms : MS) (l2 : Int32) (l3 : Int32) (t0 : Int32) (t1 : Int32) (t2 : Int32) (t3 : Int32) : Option (Unit × MS) :=
  if l3 = 2 then
    pj_X10_replied_305 ms l2 l3 0 t0 t1 t2 t3
  else
    h_b1 (k_aI ms 38 5) fun x8 =>
    pj_X10_replied_305 ms l2 l3 x8 t0 t1 t2 t3
def pj_X10_replied_192 (ms : MS) (l1 : Int32) (l2 : Int32) (l3 : Int32) (t0 : Int32) : Option (Unit × MS) :=
  if t0 = 0 then
    k_lt (k_pI ms 40 ((ms.1 40) + 1)) fun q23 =>
    some ((), q23)
  else
    if l3 = 0 then
      h_b1 (k_aI ms 34 l2) fun x16 =>
      h_b1 (k_sI ms 34 l2 (x16 + 1)) fun q17 =>
      h_b1 (k_aI q17 34 l2) fun x18 =>
      if x18 = 9 then
        h_b1 (k_sI q17 31 l2 3) fun q22 =>
        some ((), q22)
      else
        h_b1 (k_aI q17 38 4) fun x19 =>
        k_bd (p_X10_ask q17 l2 x19) fun _ q21 =>
        some ((), q21)
    else
      h_b1 (k_aI ms 38 2) fun x5 =>
      h_b1 (k_aI ms 38 3) fun x6 =>
      if l3 = 2 then
        pj_X10_replied_290 ms l2 l3 (-1) x6 x5 l1
      else
        h_b1 (k_aI ms 38 4) fun x7 =>
        pj_X10_replied_290 ms l2 l3 x7 x6 x5 l1
def pj_X10_replied_191 (ms : MS) (l1 : Int32) (l2 : Int32) (l3 : Int32) : Option (Unit × MS) :=
  pj_X10_replied_192 ms l1 l2 l3 0
def pj_X10_replied_187 (ms : MS) (l1 : Int32) (l2 : Int32) (l3 : Int32) : Option (Unit × MS) :=
  pj_X10_replied_192 ms l1 l2 l3 1
def pj_X10_replied_138 (ms : MS) (l1 : Int32) (l2 : Int32) (l3 : Int32) (t0 : Int32) : Option (Unit × MS) :=
  if t0 = 0 then
    pj_X10_replied_191 ms l1 l2 l3
  else
    if l3 = 0 then
      h_b1 (k_aI ms 38 4) fun x27 =>
      k_bd (p_X10_in ms x27 0 7) fun r28 q29 =>
      if r28 = 0 then
        pj_X10_replied_191 q29 l1 l2 l3
      else
        pj_X10_replied_187 q29 l1 l2 l3
    else
      if l3 = 2 then
        pj_X10_replied_187 ms l1 l2 l3
      else
        h_b1 (k_aI ms 38 4) fun x24 =>
        k_bd (p_X10_in ms x24 0 15) fun r25 q26 =>
        if r25 = 0 then
          pj_X10_replied_191 q26 l1 l2 l3
        else
          pj_X10_replied_187 q26 l1 l2 l3
def pj_X10_replied_137 (ms : MS) (l1 : Int32) (l2 : Int32) (l3 : Int32) : Option (Unit × MS) :=
  pj_X10_replied_138 ms l1 l2 l3 0
def pg_X10_replied_21 : Nat → MS → Int32 → Int32 → Int32 → Option (Unit × MS)
  | 0, _, _, _, _ => none
  | n + 1, ms, l1, l2, l3 =>
    if (ms.1 28) < l3 then
      h_b1 (k_aI ms 38 1) fun x4 =>
      if l2 ≤ 0 then
        pj_X10_replied_137 ms l1 l2 x4
      else
        k_bd (p_X10_in ms x4 0 2) fun r30 q31 =>
        if r30 = 0 then
          pj_X10_replied_137 q31 l1 l2 x4
        else
          h_b1 (k_aI q31 38 2) fun x32 =>
          h_b1 (k_aI q31 38 3) fun x33 =>
          k_bd (p_X10_isPrefix q31 x32 x33) fun r34 q35 =>
          if r34 = 0 then
            pj_X10_replied_137 q35 l1 l2 x4
          else
            h_b1 (k_aI q35 38 2) fun x36 =>
            h_b1 (k_aI q35 30 l2) fun x37 =>
            h_b1 (k_aI q35 38 3) fun x38 =>
            k_bd (p_X10_begin q35 x36 x37 x38) fun r39 q40 =>
            if r39 = 0 then
              pj_X10_replied_137 q40 l1 l2 x4
            else
              pj_X10_replied_138 q40 l1 l2 x4 1
    else
      h_b1 (k_aI ms 29 l3) fun x41 =>
      if x41 = l1 then
        h_b1 (k_aI ms 31 l3) fun x42 =>
        if x42 = 0 then
          h_b1 (k_aI ms 32 l3) fun x43 =>
          h_b1 (k_aI ms 38 0) fun x44 =>
          if x43 = x44 then
            pg_X10_replied_21 n ms l1 l3 (l3 + 1)
          else
            pg_X10_replied_21 n ms l1 l2 (l3 + 1)
        else
          pg_X10_replied_21 n ms l1 l2 (l3 + 1)
      else
        pg_X10_replied_21 n ms l1 l2 (l3 + 1)
def p_X10_replied (ms : MS)  : Option (Unit × MS) :=
  h_b1 (k_aI ms 38 7) fun x1 =>
  k_bd (p_X10_isSite ms x1) fun r2 q3 =>
  if r2 = 0 then
    some ((), q3)
  else
    pg_X10_replied_21 h_hN q3 x1 0 1
set_option maxHeartbeats 4000000 in
set_option maxRecDepth 100000 in
theorem qj_X10_replied_305 {σ0 : HS} {m : Nat} {A : Nat → Nat} (σ : HS) (ms : MS) (l2 : Int32) (l3 : Int32) (t0 : Int32) (t1 : Int32) (t2 : Int32) (t3 : Int32) (t4 : Int32) (hV : MV σ m A ms) (hF : MF σ0 σ m A) : Rl σ0 m A (j_X10_replied_305 σ (some m) l2 l3 t0 t1 t2 t3 t4 (some m)) (pj_X10_replied_305 ms l2 l3 t0 t1 t2 t3 t4) := by
  unfold j_X10_replied_305 pj_X10_replied_305
  refine Rl_rcv hV ?_
  refine Rl_bd hF (q_X10_makeNote hV _ _ _ _ _) (fun r9 _ q10 hV hF => ?_)
  refine Rl_ite (fun _ => ?_) (fun _ => ?_)
  · refine Rl_rcv hV ?_
    refine Rl_bd hF (q_X10_follow hV _ _) (fun r14 _ q15 hV hF => ?_)
    exact Rl_ret hV hF
  · refine Rl_gR hV (by decide) ?_
    refine Rl_aI hV (by decide) (by decide) (fun x11 => ?_)
    refine Rl_rcv hV ?_
    refine Rl_bd hF (q_X10_follow hV _ _) (fun r12 _ q13 hV hF => ?_)
    exact Rl_ret hV hF
set_option maxHeartbeats 4000000 in
set_option maxRecDepth 100000 in
theorem qj_X10_replied_290 {σ0 : HS} {m : Nat} {A : Nat → Nat} (σ : HS) (ms : MS) (l2 : Int32) (l3 : Int32) (t0 : Int32) (t1 : Int32) (t2 : Int32) (t3 : Int32) (hV : MV σ m A ms) (hF : MF σ0 σ m A) : Rl σ0 m A (j_X10_replied_290 σ (some m) l2 l3 t0 t1 t2 t3 (some m)) (pj_X10_replied_290 ms l2 l3 t0 t1 t2 t3) := by
  unfold j_X10_replied_290 pj_X10_replied_290
  refine Rl_ite (fun _ => ?_) (fun _ => ?_)
  · exact qj_X10_replied_305 _ ms l2 l3 0 t0 t1 t2 t3 hV hF
  · refine Rl_gR hV (by decide) ?_
    refine Rl_aI hV (by decide) (by decide) (fun x8 => ?_)
    exact qj_X10_replied_305 _ ms l2 l3 x8 t0 t1 t2 t3 hV hF
set_option maxHeartbeats 4000000 in
set_option maxRecDepth 100000 in
theorem qj_X10_replied_192 {σ0 : HS} {m : Nat} {A : Nat → Nat} (σ : HS) (ms : MS) (l1 : Int32) (l2 : Int32) (l3 : Int32) (t0 : Int32) (hV : MV σ m A ms) (hF : MF σ0 σ m A) : Rl σ0 m A (j_X10_replied_192 σ (some m) l1 l2 l3 t0) (pj_X10_replied_192 ms l1 l2 l3 t0) := by
  unfold j_X10_replied_192 pj_X10_replied_192
  refine Rl_ite (fun _ => ?_) (fun _ => ?_)
  · refine Rl_gI hV (by decide) ?_
    refine Rl_pI hV hF (by decide) (fun _ q23 hV hF => ?_)
    exact Rl_ret hV hF
  · refine Rl_ite (fun _ => ?_) (fun _ => ?_)
    · refine Rl_gR hV (by decide) ?_
      refine Rl_aI hV (by decide) (by decide) (fun x16 => ?_)
      refine Rl_sI hV hF (by decide) (by decide) (fun _ q17 hV hF => ?_)
      refine Rl_gR hV (by decide) ?_
      refine Rl_aI hV (by decide) (by decide) (fun x18 => ?_)
      refine Rl_ite (fun _ => ?_) (fun _ => ?_)
      · refine Rl_gR hV (by decide) ?_
        refine Rl_sI hV hF (by decide) (by decide) (fun _ q22 hV hF => ?_)
        exact Rl_ret hV hF
      · refine Rl_gR hV (by decide) ?_
        refine Rl_aI hV (by decide) (by decide) (fun x19 => ?_)
        refine Rl_rcv hV ?_
        refine Rl_bd hF (q_X10_ask hV _ _) (fun r20 _ q21 hV hF => ?_)
        exact Rl_ret hV hF
    · refine Rl_gR hV (by decide) ?_
      refine Rl_aI hV (by decide) (by decide) (fun x5 => ?_)
      refine Rl_gR hV (by decide) ?_
      refine Rl_aI hV (by decide) (by decide) (fun x6 => ?_)
      refine Rl_ite (fun _ => ?_) (fun _ => ?_)
      · exact qj_X10_replied_290 _ ms l2 l3 (-1) x6 x5 l1 hV hF
      · refine Rl_gR hV (by decide) ?_
        refine Rl_aI hV (by decide) (by decide) (fun x7 => ?_)
        exact qj_X10_replied_290 _ ms l2 l3 x7 x6 x5 l1 hV hF
set_option maxHeartbeats 4000000 in
set_option maxRecDepth 100000 in
theorem qj_X10_replied_191 {σ0 : HS} {m : Nat} {A : Nat → Nat} (σ : HS) (ms : MS) (l1 : Int32) (l2 : Int32) (l3 : Int32) (hV : MV σ m A ms) (hF : MF σ0 σ m A) : Rl σ0 m A (j_X10_replied_191 σ (some m) l1 l2 l3) (pj_X10_replied_191 ms l1 l2 l3) := by
  unfold j_X10_replied_191 pj_X10_replied_191
  exact qj_X10_replied_192 _ ms l1 l2 l3 0 hV hF
set_option maxHeartbeats 4000000 in
set_option maxRecDepth 100000 in
theorem qj_X10_replied_187 {σ0 : HS} {m : Nat} {A : Nat → Nat} (σ : HS) (ms : MS) (l1 : Int32) (l2 : Int32) (l3 : Int32) (hV : MV σ m A ms) (hF : MF σ0 σ m A) : Rl σ0 m A (j_X10_replied_187 σ (some m) l1 l2 l3) (pj_X10_replied_187 ms l1 l2 l3) := by
  unfold j_X10_replied_187 pj_X10_replied_187
  exact qj_X10_replied_192 _ ms l1 l2 l3 1 hV hF
set_option maxHeartbeats 4000000 in
set_option maxRecDepth 100000 in
theorem qj_X10_replied_138 {σ0 : HS} {m : Nat} {A : Nat → Nat} (σ : HS) (ms : MS) (l1 : Int32) (l2 : Int32) (l3 : Int32) (t0 : Int32) (hV : MV σ m A ms) (hF : MF σ0 σ m A) : Rl σ0 m A (j_X10_replied_138 σ (some m) l1 l2 l3 t0) (pj_X10_replied_138 ms l1 l2 l3 t0) := by
  unfold j_X10_replied_138 pj_X10_replied_138
  refine Rl_ite (fun _ => ?_) (fun _ => ?_)
  · exact qj_X10_replied_191 _ ms l1 l2 l3 hV hF
  · refine Rl_ite (fun _ => ?_) (fun _ => ?_)
    · refine Rl_gR hV (by decide) ?_
      refine Rl_aI hV (by decide) (by decide) (fun x27 => ?_)
      refine Rl_bd hF (q_X10_in hV _ _ _) (fun r28 _ q29 hV hF => ?_)
      refine Rl_ite (fun _ => ?_) (fun _ => ?_)
      · exact qj_X10_replied_191 _ q29 l1 l2 l3 hV hF
      · exact qj_X10_replied_187 _ q29 l1 l2 l3 hV hF
    · refine Rl_ite (fun _ => ?_) (fun _ => ?_)
      · exact qj_X10_replied_187 _ ms l1 l2 l3 hV hF
      · refine Rl_gR hV (by decide) ?_
        refine Rl_aI hV (by decide) (by decide) (fun x24 => ?_)
        refine Rl_bd hF (q_X10_in hV _ _ _) (fun r25 _ q26 hV hF => ?_)
        refine Rl_ite (fun _ => ?_) (fun _ => ?_)
        · exact qj_X10_replied_191 _ q26 l1 l2 l3 hV hF
        · exact qj_X10_replied_187 _ q26 l1 l2 l3 hV hF
set_option maxHeartbeats 4000000 in
set_option maxRecDepth 100000 in
theorem qj_X10_replied_137 {σ0 : HS} {m : Nat} {A : Nat → Nat} (σ : HS) (ms : MS) (l1 : Int32) (l2 : Int32) (l3 : Int32) (hV : MV σ m A ms) (hF : MF σ0 σ m A) : Rl σ0 m A (j_X10_replied_137 σ (some m) l1 l2 l3) (pj_X10_replied_137 ms l1 l2 l3) := by
  unfold j_X10_replied_137 pj_X10_replied_137
  exact qj_X10_replied_138 _ ms l1 l2 l3 0 hV hF
set_option maxHeartbeats 4000000 in
set_option maxRecDepth 100000 in
theorem qg_X10_replied_21 {σ0 : HS} {m : Nat} {A : Nat → Nat} : ∀ (n : Nat) (σ : HS) (ms : MS) (l1 : Int32) (l2 : Int32) (l3 : Int32), MV σ m A ms → MF σ0 σ m A → Rl σ0 m A (g_X10_replied_21 n σ (some m) l1 l2 l3) (pg_X10_replied_21 n ms l1 l2 l3) := by
  intro n
  induction n with
  | zero =>
    intro σ ms l1 l2 l3 hV hF
    rw [pg_X10_replied_21]
    exact Rl_none
  | succ n ih =>
    intro σ ms l1 l2 l3 hV hF
    rw [pg_X10_replied_21, g_X10_replied_21]
    refine Rl_gI hV (by decide) ?_
    refine Rl_ite (fun _ => ?_) (fun _ => ?_)
    · refine Rl_gR hV (by decide) ?_
      refine Rl_aI hV (by decide) (by decide) (fun x4 => ?_)
      refine Rl_ite (fun _ => ?_) (fun _ => ?_)
      · exact qj_X10_replied_137 _ ms l1 l2 x4 hV hF
      · refine Rl_bd hF (q_X10_in hV _ _ _) (fun r30 _ q31 hV hF => ?_)
        refine Rl_ite (fun _ => ?_) (fun _ => ?_)
        · exact qj_X10_replied_137 _ q31 l1 l2 x4 hV hF
        · refine Rl_gR hV (by decide) ?_
          refine Rl_aI hV (by decide) (by decide) (fun x32 => ?_)
          refine Rl_gR hV (by decide) ?_
          refine Rl_aI hV (by decide) (by decide) (fun x33 => ?_)
          refine Rl_bd hF (q_X10_isPrefix hV _ _) (fun r34 _ q35 hV hF => ?_)
          refine Rl_ite (fun _ => ?_) (fun _ => ?_)
          · exact qj_X10_replied_137 _ q35 l1 l2 x4 hV hF
          · refine Rl_gR hV (by decide) ?_
            refine Rl_aI hV (by decide) (by decide) (fun x36 => ?_)
            refine Rl_gR hV (by decide) ?_
            refine Rl_aI hV (by decide) (by decide) (fun x37 => ?_)
            refine Rl_gR hV (by decide) ?_
            refine Rl_aI hV (by decide) (by decide) (fun x38 => ?_)
            refine Rl_bd hF (q_X10_begin hV _ _ _) (fun r39 _ q40 hV hF => ?_)
            refine Rl_ite (fun _ => ?_) (fun _ => ?_)
            · exact qj_X10_replied_137 _ q40 l1 l2 x4 hV hF
            · exact qj_X10_replied_138 _ q40 l1 l2 x4 1 hV hF
    · refine Rl_gR hV (by decide) ?_
      refine Rl_aI hV (by decide) (by decide) (fun x41 => ?_)
      refine Rl_ite (fun _ => ?_) (fun _ => ?_)
      · refine Rl_gR hV (by decide) ?_
        refine Rl_aI hV (by decide) (by decide) (fun x42 => ?_)
        refine Rl_ite (fun _ => ?_) (fun _ => ?_)
        · refine Rl_gR hV (by decide) ?_
          refine Rl_aI hV (by decide) (by decide) (fun x43 => ?_)
          refine Rl_gR hV (by decide) ?_
          refine Rl_aI hV (by decide) (by decide) (fun x44 => ?_)
          refine Rl_ite (fun _ => ?_) (fun _ => ?_)
          · exact ih _ ms l1 l3 (l3 + 1) hV hF
          · exact ih _ ms l1 l2 (l3 + 1) hV hF
        · exact ih _ ms l1 l2 (l3 + 1) hV hF
      · exact ih _ ms l1 l2 (l3 + 1) hV hF
set_option maxHeartbeats 4000000 in
set_option maxRecDepth 100000 in
theorem q_X10_replied {σ : HS} {m : Nat} {A : Nat → Nat} {ms : MS} (hV : MV σ m A ms)  : Rl σ m A (f_X10_replied σ (some m)) (p_X10_replied ms ) := by
  have hF : MF σ σ m A := MF.rf
  unfold f_X10_replied p_X10_replied
  refine Rl_gR hV (by decide) ?_
  refine Rl_aI hV (by decide) (by decide) (fun x1 => ?_)
  refine Rl_rcv hV ?_
  refine Rl_bd hF (q_X10_isSite hV _) (fun r2 _ q3 hV hF => ?_)
  refine Rl_ite (fun _ => ?_) (fun _ => ?_)
  · exact Rl_ret hV hF
  · exact qg_X10_replied_21 h_hN _ q3 x1 0 1 hV hF
/-! X10_best -/
def pg_X10_best_8 : Nat → MS → Int32 → Int32 → Int32 → Int32 → Option (Int32 × MS)
  | 0, _, _, _, _, _ => none
  | n + 1, ms, l1, l2, l3, l4 =>
    if ((16 * l1) + 16) ≤ l4 then
      some (l3, ms)
    else
      h_b1 (k_aI ms 12 l4) fun x1 =>
      if x1 ≤ (ms.1 1) then
        pg_X10_best_8 n ms l1 l2 l3 (l4 + 1)
      else
        h_b1 (k_aI ms 7 l4) fun x2 =>
        h_b1 (k_aI ms 8 l4) fun x3 =>
        k_bd (p_X10_begin ms x2 l2 x3) fun r4 q5 =>
        if r4 = 0 then
          pg_X10_best_8 n q5 l1 l2 l3 (l4 + 1)
        else
          if l3 = (-1) then
            pg_X10_best_8 n q5 l1 l2 l4 (l4 + 1)
          else
            h_b1 (k_aI q5 8 l4) fun x6 =>
            h_b1 (k_aI q5 8 l3) fun x7 =>
            if x6 ≤ x7 then
              pg_X10_best_8 n q5 l1 l2 l3 (l4 + 1)
            else
              pg_X10_best_8 n q5 l1 l2 l4 (l4 + 1)
def p_X10_best (ms : MS) (a1 : Int32) (a2 : Int32) : Option (Int32 × MS) :=
  pg_X10_best_8 h_hN ms a1 a2 (-1) (16 * a1)
set_option maxHeartbeats 4000000 in
set_option maxRecDepth 100000 in
theorem qg_X10_best_8 {σ0 : HS} {m : Nat} {A : Nat → Nat} : ∀ (n : Nat) (σ : HS) (ms : MS) (l1 : Int32) (l2 : Int32) (l3 : Int32) (l4 : Int32), MV σ m A ms → MF σ0 σ m A → Rl σ0 m A (g_X10_best_8 n σ (some m) l1 l2 l3 l4) (pg_X10_best_8 n ms l1 l2 l3 l4) := by
  intro n
  induction n with
  | zero =>
    intro σ ms l1 l2 l3 l4 hV hF
    rw [pg_X10_best_8]
    exact Rl_none
  | succ n ih =>
    intro σ ms l1 l2 l3 l4 hV hF
    rw [pg_X10_best_8, g_X10_best_8]
    refine Rl_ite (fun _ => ?_) (fun _ => ?_)
    · exact Rl_ret hV hF
    · refine Rl_gR hV (by decide) ?_
      refine Rl_aI hV (by decide) (by decide) (fun x1 => ?_)
      refine Rl_gI hV (by decide) ?_
      refine Rl_ite (fun _ => ?_) (fun _ => ?_)
      · exact ih _ ms l1 l2 l3 (l4 + 1) hV hF
      · refine Rl_gR hV (by decide) ?_
        refine Rl_aI hV (by decide) (by decide) (fun x2 => ?_)
        refine Rl_gR hV (by decide) ?_
        refine Rl_aI hV (by decide) (by decide) (fun x3 => ?_)
        refine Rl_bd hF (q_X10_begin hV _ _ _) (fun r4 _ q5 hV hF => ?_)
        refine Rl_ite (fun _ => ?_) (fun _ => ?_)
        · exact ih _ q5 l1 l2 l3 (l4 + 1) hV hF
        · refine Rl_ite (fun _ => ?_) (fun _ => ?_)
          · exact ih _ q5 l1 l2 l4 (l4 + 1) hV hF
          · refine Rl_gR hV (by decide) ?_
            refine Rl_aI hV (by decide) (by decide) (fun x6 => ?_)
            refine Rl_gR hV (by decide) ?_
            refine Rl_aI hV (by decide) (by decide) (fun x7 => ?_)
            refine Rl_ite (fun _ => ?_) (fun _ => ?_)
            · exact ih _ q5 l1 l2 l3 (l4 + 1) hV hF
            · exact ih _ q5 l1 l2 l4 (l4 + 1) hV hF
set_option maxHeartbeats 4000000 in
set_option maxRecDepth 100000 in
theorem q_X10_best {σ : HS} {m : Nat} {A : Nat → Nat} {ms : MS} (hV : MV σ m A ms) (a1 : Int32) (a2 : Int32) : Rl σ m A (f_X10_best σ (some m) a1 a2) (p_X10_best ms a1 a2) := by
  have hF : MF σ σ m A := MF.rf
  unfold f_X10_best p_X10_best
  exact qg_X10_best_8 h_hN _ ms a1 a2 (-1) (16 * a1) hV hF
/-! X10_cutTo -/
def pg_X10_cutTo_4 : Nat → MS → Int32 → Int32 → Option (Int32 × MS)
  | 0, _, _, _ => none
  | n + 1, ms, l2, l3 =>
    if 32 ≤ l3 then
      some (l2, ms)
    else
      pg_X10_cutTo_4 n ms (l2 &&& ((1 <<< ((31 - l3) &&& 31)) ^^^ (-1))) (l3 + 1)
def p_X10_cutTo (ms : MS) (a0 : Int32) (a1 : Int32) : Option (Int32 × MS) :=
  pg_X10_cutTo_4 h_hN ms a0 a1
set_option maxHeartbeats 4000000 in
set_option maxRecDepth 100000 in
theorem qg_X10_cutTo_4 {σ0 : HS} {m : Nat} {A : Nat → Nat} : ∀ (n : Nat) (σ : HS) (ms : MS) (l2 : Int32) (l3 : Int32), MV σ m A ms → MF σ0 σ m A → Rl σ0 m A (g_X10_cutTo_4 n σ l2 l3) (pg_X10_cutTo_4 n ms l2 l3) := by
  intro n
  induction n with
  | zero =>
    intro σ ms l2 l3 hV hF
    rw [pg_X10_cutTo_4]
    exact Rl_none
  | succ n ih =>
    intro σ ms l2 l3 hV hF
    rw [pg_X10_cutTo_4, g_X10_cutTo_4]
    refine Rl_ite (fun _ => ?_) (fun _ => ?_)
    · exact Rl_ret hV hF
    · exact ih _ ms (l2 &&& ((1 <<< ((31 - l3) &&& 31)) ^^^ (-1))) (l3 + 1) hV hF
set_option maxHeartbeats 4000000 in
set_option maxRecDepth 100000 in
theorem q_X10_cutTo {σ : HS} {m : Nat} {A : Nat → Nat} {ms : MS} (hV : MV σ m A ms) (a0 : Int32) (a1 : Int32) : Rl σ m A (f_X10_cutTo σ a0 a1) (p_X10_cutTo ms a0 a1) := by
  have hF : MF σ σ m A := MF.rf
  unfold f_X10_cutTo p_X10_cutTo
  exact qg_X10_cutTo_4 h_hN _ ms a0 a1 hV hF
/-! X10_isCrowded -/
def pg_X10_isCrowded_72 : Nat → MS → Int32 → Int32 → Int32 → Int32 → Option (Int32 × MS)
  | 0, _, _, _, _, _ => none
  | n + 1, ms, l1, l2, l3, l5 =>
    if 8 ≤ l5 then
      some (0, ms)
    else
      h_b1 (k_aI ms 6 l5) fun x1 =>
      if x1 = l1 then
        h_b1 (k_aI ms 4 l5) fun x2 =>
        h_b1 (k_aI ms 5 l5) fun x3 =>
        k_bd (p_X10_holds ms l2 l3 x2 x3) fun r4 q5 =>
        if r4 = 0 then
          pg_X10_isCrowded_72 n q5 l1 l2 l3 (l5 + 1)
        else
          some (1, q5)
      else
        pg_X10_isCrowded_72 n ms l1 l2 l3 (l5 + 1)
def pg_X10_isCrowded_6 : Nat → MS → Int32 → Int32 → Int32 → Int32 → Int32 → Option (Int32 × MS)
  | 0, _, _, _, _, _, _ => none
  | n + 1, ms, l1, l2, l3, l4, l5 =>
    if ((16 * l1) + 16) ≤ l5 then
      pg_X10_isCrowded_72 h_hN ms l1 l2 l3 0
    else
      if l5 = l4 then
        pg_X10_isCrowded_6 n ms l1 l2 l3 l4 (l5 + 1)
      else
        h_b1 (k_aI ms 12 l5) fun x6 =>
        if x6 ≤ (ms.1 1) then
          pg_X10_isCrowded_6 n ms l1 l2 l3 l4 (l5 + 1)
        else
          h_b1 (k_aI ms 7 l5) fun x7 =>
          h_b1 (k_aI ms 8 l5) fun x8 =>
          k_bd (p_X10_holds ms l2 l3 x7 x8) fun r9 q10 =>
          if r9 = 0 then
            pg_X10_isCrowded_6 n q10 l1 l2 l3 l4 (l5 + 1)
          else
            some (1, q10)
def p_X10_isCrowded (ms : MS) (a1 : Int32) (a2 : Int32) (a3 : Int32) (a4 : Int32) : Option (Int32 × MS) :=
  pg_X10_isCrowded_6 h_hN ms a1 a2 a3 a4 (16 * a1)
set_option maxHeartbeats 4000000 in
set_option maxRecDepth 100000 in
theorem qg_X10_isCrowded_72 {σ0 : HS} {m : Nat} {A : Nat → Nat} : ∀ (n : Nat) (σ : HS) (ms : MS) (l1 : Int32) (l2 : Int32) (l3 : Int32) (l5 : Int32), MV σ m A ms → MF σ0 σ m A → Rl σ0 m A (g_X10_isCrowded_72 n σ (some m) l1 l2 l3 l5) (pg_X10_isCrowded_72 n ms l1 l2 l3 l5) := by
  intro n
  induction n with
  | zero =>
    intro σ ms l1 l2 l3 l5 hV hF
    rw [pg_X10_isCrowded_72]
    exact Rl_none
  | succ n ih =>
    intro σ ms l1 l2 l3 l5 hV hF
    rw [pg_X10_isCrowded_72, g_X10_isCrowded_72]
    refine Rl_ite (fun _ => ?_) (fun _ => ?_)
    · exact Rl_ret hV hF
    · refine Rl_gR hV (by decide) ?_
      refine Rl_aI hV (by decide) (by decide) (fun x1 => ?_)
      refine Rl_ite (fun _ => ?_) (fun _ => ?_)
      · refine Rl_gR hV (by decide) ?_
        refine Rl_aI hV (by decide) (by decide) (fun x2 => ?_)
        refine Rl_gR hV (by decide) ?_
        refine Rl_aI hV (by decide) (by decide) (fun x3 => ?_)
        refine Rl_bd hF (q_X10_holds hV _ _ _ _) (fun r4 _ q5 hV hF => ?_)
        refine Rl_ite (fun _ => ?_) (fun _ => ?_)
        · exact ih _ q5 l1 l2 l3 (l5 + 1) hV hF
        · exact Rl_ret hV hF
      · exact ih _ ms l1 l2 l3 (l5 + 1) hV hF
set_option maxHeartbeats 4000000 in
set_option maxRecDepth 100000 in
theorem qg_X10_isCrowded_6 {σ0 : HS} {m : Nat} {A : Nat → Nat} : ∀ (n : Nat) (σ : HS) (ms : MS) (l1 : Int32) (l2 : Int32) (l3 : Int32) (l4 : Int32) (l5 : Int32), MV σ m A ms → MF σ0 σ m A → Rl σ0 m A (g_X10_isCrowded_6 n σ (some m) l1 l2 l3 l4 l5) (pg_X10_isCrowded_6 n ms l1 l2 l3 l4 l5) := by
  intro n
  induction n with
  | zero =>
    intro σ ms l1 l2 l3 l4 l5 hV hF
    rw [pg_X10_isCrowded_6]
    exact Rl_none
  | succ n ih =>
    intro σ ms l1 l2 l3 l4 l5 hV hF
    rw [pg_X10_isCrowded_6, g_X10_isCrowded_6]
    refine Rl_ite (fun _ => ?_) (fun _ => ?_)
    · exact qg_X10_isCrowded_72 h_hN _ ms l1 l2 l3 0 hV hF
    · refine Rl_ite (fun _ => ?_) (fun _ => ?_)
      · exact ih _ ms l1 l2 l3 l4 (l5 + 1) hV hF
      · refine Rl_gR hV (by decide) ?_
        refine Rl_aI hV (by decide) (by decide) (fun x6 => ?_)
        refine Rl_gI hV (by decide) ?_
        refine Rl_ite (fun _ => ?_) (fun _ => ?_)
        · exact ih _ ms l1 l2 l3 l4 (l5 + 1) hV hF
        · refine Rl_gR hV (by decide) ?_
          refine Rl_aI hV (by decide) (by decide) (fun x7 => ?_)
          refine Rl_gR hV (by decide) ?_
          refine Rl_aI hV (by decide) (by decide) (fun x8 => ?_)
          refine Rl_bd hF (q_X10_holds hV _ _ _ _) (fun r9 _ q10 hV hF => ?_)
          refine Rl_ite (fun _ => ?_) (fun _ => ?_)
          · exact ih _ q10 l1 l2 l3 l4 (l5 + 1) hV hF
          · exact Rl_ret hV hF
set_option maxHeartbeats 4000000 in
set_option maxRecDepth 100000 in
theorem q_X10_isCrowded {σ : HS} {m : Nat} {A : Nat → Nat} {ms : MS} (hV : MV σ m A ms) (a1 : Int32) (a2 : Int32) (a3 : Int32) (a4 : Int32) : Rl σ m A (f_X10_isCrowded σ (some m) a1 a2 a3 a4) (p_X10_isCrowded ms a1 a2 a3 a4) := by
  have hF : MF σ σ m A := MF.rf
  unfold f_X10_isCrowded p_X10_isCrowded
  exact qg_X10_isCrowded_6 h_hN _ ms a1 a2 a3 a4 (16 * a1) hV hF
/-! X10_requested -/
def pj_X10_requested_241 (ms : MS) (l4 : Int32) (l5 : Int32) (t0 : Int32) (t1 : Int32) (t2 : Int32) (t3 : Int32) (t4 : Int32) (t5 : Int32) (t6 : Int32) : Option (Unit × MS) :=
  k_bd (p_X10_post ms t6 t5 t4 t3 t2 t1 t0) fun _ q22 =>
  if l5 = (-1) then
    k_bd (p_X10_last q22 0 l4) fun _ q27 =>
    some ((), q27)
  else
    h_b1 (k_aI q22 11 l5) fun x23 =>
    k_bd (p_X10_last q22 x23 l4) fun _ q25 =>
    some ((), q25)
def pj_X10_requested_216 (ms : MS) (l3 : Int32) (l4 : Int32) (l5 : Int32) (l6 : Int32) (t0 : Int32) (t1 : Int32) (t2 : Int32) (t3 : Int32) : Option (Unit × MS) :=
  k_bd (p_X10_cutTo ms l3 l6) fun r18 q19 =>
  if l5 = (-1) then
    pj_X10_requested_241 q19 l4 l5 0 l6 r18 t0 t1 t2 t3
  else
    h_b1 (k_aI q19 10 l5) fun x20 =>
    pj_X10_requested_241 q19 l4 l5 x20 l6 r18 t0 t1 t2 t3
def pg_X10_requested_177 : Nat → MS → Int32 → Int32 → Int32 → Int32 → Int32 → Int32 → Option (Unit × MS)
  | 0, _, _, _, _, _, _, _ => none
  | n + 1, ms, l1, l2, l3, l4, l5, l6 =>
    k_bd (p_X10_isCrowded ms l1 l3 l6 l5) fun r15 q16 =>
    if r15 = 0 then
      h_b1 (k_aI q16 38 1) fun x17 =>
      if l5 = (-1) then
        pj_X10_requested_216 q16 l3 l4 l5 l6 2 x17 l2 2
      else
        pj_X10_requested_216 q16 l3 l4 l5 l6 1 x17 l2 2
    else
      pg_X10_requested_177 n q16 l1 l2 l3 l4 l5 (l6 + 1)
def pg_X10_requested_67 : Nat → MS → Int32 → Int32 → Int32 → Int32 → Int32 → Option (Unit × MS)
  | 0, _, _, _, _, _, _ => none
  | n + 1, ms, l1, l2, l3, l4, l5 =>
    if 8 ≤ l5 then
      k_bd (p_X10_best ms l1 l3) fun r12 q13 =>
      if r12 = (-1) then
        h_b1 (k_aI q13 5 l1) fun x28 =>
        pg_X10_requested_177 h_hN q13 l1 l2 l3 l4 r12 x28
      else
        h_b1 (k_aI q13 8 r12) fun x14 =>
        pg_X10_requested_177 h_hN q13 l1 l2 l3 l4 r12 x14
    else
      h_b1 (k_aI ms 6 l5) fun x29 =>
      if x29 = l1 then
        h_b1 (k_aI ms 4 l5) fun x30 =>
        h_b1 (k_aI ms 5 l5) fun x31 =>
        k_bd (p_X10_begin ms x30 l3 x31) fun r32 q33 =>
        if r32 = 0 then
          pg_X10_requested_67 n q33 l1 l2 l3 l4 (l5 + 1)
        else
          h_b1 (k_aI q33 38 1) fun x34 =>
          h_b1 (k_aI q33 4 l5) fun x35 =>
          h_b1 (k_aI q33 5 l5) fun x36 =>
          k_bd (p_X10_post q33 2 l2 x34 0 x35 x36 l5) fun _ q38 =>
          some ((), q38)
      else
        pg_X10_requested_67 n ms l1 l2 l3 l4 (l5 + 1)
def p_X10_requested (ms : MS)  : Option (Unit × MS) :=
  h_b1 (k_aI ms 38 7) fun x1 =>
  h_b1 (k_aI ms 38 0) fun x2 =>
  h_b1 (k_aI ms 38 2) fun x3 =>
  k_bd (p_X10_isServerAt ms x1) fun r4 q5 =>
  if r4 = 0 then
    some ((), q5)
  else
    k_bd (p_X10_isSite q5 x2) fun r6 q7 =>
    if r6 = 0 then
      some ((), q7)
    else
      h_b1 (k_aI q7 4 x1) fun x8 =>
      h_b1 (k_aI q7 5 x1) fun x9 =>
      k_bd (p_X10_begin q7 x8 x3 x9) fun r10 q11 =>
      if r10 = 0 then
        some ((), q11)
      else
        pg_X10_requested_67 h_hN q11 x1 x2 x3 (q11.1 36) 0
set_option maxHeartbeats 4000000 in
set_option maxRecDepth 100000 in
theorem qj_X10_requested_241 {σ0 : HS} {m : Nat} {A : Nat → Nat} (σ : HS) (ms : MS) (l4 : Int32) (l5 : Int32) (t0 : Int32) (t1 : Int32) (t2 : Int32) (t3 : Int32) (t4 : Int32) (t5 : Int32) (t6 : Int32) (hV : MV σ m A ms) (hF : MF σ0 σ m A) : Rl σ0 m A (j_X10_requested_241 σ (some m) l4 l5 t0 t1 t2 t3 t4 t5 t6 (some m)) (pj_X10_requested_241 ms l4 l5 t0 t1 t2 t3 t4 t5 t6) := by
  unfold j_X10_requested_241 pj_X10_requested_241
  refine Rl_rcv hV ?_
  refine Rl_bd hF (q_X10_post hV _ _ _ _ _ _ _) (fun r21 _ q22 hV hF => ?_)
  refine Rl_ite (fun _ => ?_) (fun _ => ?_)
  · refine Rl_rcv hV ?_
    refine Rl_bd hF (q_X10_last hV _ _) (fun r26 _ q27 hV hF => ?_)
    exact Rl_ret hV hF
  · refine Rl_gR hV (by decide) ?_
    refine Rl_aI hV (by decide) (by decide) (fun x23 => ?_)
    refine Rl_rcv hV ?_
    refine Rl_bd hF (q_X10_last hV _ _) (fun r24 _ q25 hV hF => ?_)
    exact Rl_ret hV hF
set_option maxHeartbeats 4000000 in
set_option maxRecDepth 100000 in
theorem qj_X10_requested_216 {σ0 : HS} {m : Nat} {A : Nat → Nat} (σ : HS) (ms : MS) (l3 : Int32) (l4 : Int32) (l5 : Int32) (l6 : Int32) (t0 : Int32) (t1 : Int32) (t2 : Int32) (t3 : Int32) (hV : MV σ m A ms) (hF : MF σ0 σ m A) : Rl σ0 m A (j_X10_requested_216 σ (some m) l3 l4 l5 l6 t0 t1 t2 t3 (some m)) (pj_X10_requested_216 ms l3 l4 l5 l6 t0 t1 t2 t3) := by
  unfold j_X10_requested_216 pj_X10_requested_216
  refine Rl_bd hF (q_X10_cutTo hV _ _) (fun r18 _ q19 hV hF => ?_)
  refine Rl_ite (fun _ => ?_) (fun _ => ?_)
  · exact qj_X10_requested_241 _ q19 l4 l5 0 l6 r18 t0 t1 t2 t3 hV hF
  · refine Rl_gR hV (by decide) ?_
    refine Rl_aI hV (by decide) (by decide) (fun x20 => ?_)
    exact qj_X10_requested_241 _ q19 l4 l5 x20 l6 r18 t0 t1 t2 t3 hV hF
set_option maxHeartbeats 4000000 in
set_option maxRecDepth 100000 in
theorem qg_X10_requested_177 {σ0 : HS} {m : Nat} {A : Nat → Nat} : ∀ (n : Nat) (σ : HS) (ms : MS) (l1 : Int32) (l2 : Int32) (l3 : Int32) (l4 : Int32) (l5 : Int32) (l6 : Int32), MV σ m A ms → MF σ0 σ m A → Rl σ0 m A (g_X10_requested_177 n σ (some m) l1 l2 l3 l4 l5 l6) (pg_X10_requested_177 n ms l1 l2 l3 l4 l5 l6) := by
  intro n
  induction n with
  | zero =>
    intro σ ms l1 l2 l3 l4 l5 l6 hV hF
    rw [pg_X10_requested_177]
    exact Rl_none
  | succ n ih =>
    intro σ ms l1 l2 l3 l4 l5 l6 hV hF
    rw [pg_X10_requested_177, g_X10_requested_177]
    refine Rl_rcv hV ?_
    refine Rl_bd hF (q_X10_isCrowded hV _ _ _ _) (fun r15 _ q16 hV hF => ?_)
    refine Rl_ite (fun _ => ?_) (fun _ => ?_)
    · refine Rl_gR hV (by decide) ?_
      refine Rl_aI hV (by decide) (by decide) (fun x17 => ?_)
      refine Rl_ite (fun _ => ?_) (fun _ => ?_)
      · exact qj_X10_requested_216 _ q16 l3 l4 l5 l6 2 x17 l2 2 hV hF
      · exact qj_X10_requested_216 _ q16 l3 l4 l5 l6 1 x17 l2 2 hV hF
    · exact ih _ q16 l1 l2 l3 l4 l5 (l6 + 1) hV hF
set_option maxHeartbeats 4000000 in
set_option maxRecDepth 100000 in
theorem qg_X10_requested_67 {σ0 : HS} {m : Nat} {A : Nat → Nat} : ∀ (n : Nat) (σ : HS) (ms : MS) (l1 : Int32) (l2 : Int32) (l3 : Int32) (l4 : Int32) (l5 : Int32), MV σ m A ms → MF σ0 σ m A → Rl σ0 m A (g_X10_requested_67 n σ (some m) l1 l2 l3 l4 l5) (pg_X10_requested_67 n ms l1 l2 l3 l4 l5) := by
  intro n
  induction n with
  | zero =>
    intro σ ms l1 l2 l3 l4 l5 hV hF
    rw [pg_X10_requested_67]
    exact Rl_none
  | succ n ih =>
    intro σ ms l1 l2 l3 l4 l5 hV hF
    rw [pg_X10_requested_67, g_X10_requested_67]
    refine Rl_ite (fun _ => ?_) (fun _ => ?_)
    · refine Rl_rcv hV ?_
      refine Rl_bd hF (q_X10_best hV _ _) (fun r12 _ q13 hV hF => ?_)
      refine Rl_ite (fun _ => ?_) (fun _ => ?_)
      · refine Rl_gR hV (by decide) ?_
        refine Rl_aI hV (by decide) (by decide) (fun x28 => ?_)
        exact qg_X10_requested_177 h_hN _ q13 l1 l2 l3 l4 r12 x28 hV hF
      · refine Rl_gR hV (by decide) ?_
        refine Rl_aI hV (by decide) (by decide) (fun x14 => ?_)
        exact qg_X10_requested_177 h_hN _ q13 l1 l2 l3 l4 r12 x14 hV hF
    · refine Rl_gR hV (by decide) ?_
      refine Rl_aI hV (by decide) (by decide) (fun x29 => ?_)
      refine Rl_ite (fun _ => ?_) (fun _ => ?_)
      · refine Rl_gR hV (by decide) ?_
        refine Rl_aI hV (by decide) (by decide) (fun x30 => ?_)
        refine Rl_gR hV (by decide) ?_
        refine Rl_aI hV (by decide) (by decide) (fun x31 => ?_)
        refine Rl_bd hF (q_X10_begin hV _ _ _) (fun r32 _ q33 hV hF => ?_)
        refine Rl_ite (fun _ => ?_) (fun _ => ?_)
        · exact ih _ q33 l1 l2 l3 l4 (l5 + 1) hV hF
        · refine Rl_gR hV (by decide) ?_
          refine Rl_aI hV (by decide) (by decide) (fun x34 => ?_)
          refine Rl_gR hV (by decide) ?_
          refine Rl_aI hV (by decide) (by decide) (fun x35 => ?_)
          refine Rl_gR hV (by decide) ?_
          refine Rl_aI hV (by decide) (by decide) (fun x36 => ?_)
          refine Rl_rcv hV ?_
          refine Rl_bd hF (q_X10_post hV _ _ _ _ _ _ _) (fun r37 _ q38 hV hF => ?_)
          exact Rl_ret hV hF
      · exact ih _ ms l1 l2 l3 l4 (l5 + 1) hV hF
set_option maxHeartbeats 4000000 in
set_option maxRecDepth 100000 in
theorem q_X10_requested {σ : HS} {m : Nat} {A : Nat → Nat} {ms : MS} (hV : MV σ m A ms)  : Rl σ m A (f_X10_requested σ (some m)) (p_X10_requested ms ) := by
  have hF : MF σ σ m A := MF.rf
  unfold f_X10_requested p_X10_requested
  refine Rl_gR hV (by decide) ?_
  refine Rl_aI hV (by decide) (by decide) (fun x1 => ?_)
  refine Rl_gR hV (by decide) ?_
  refine Rl_aI hV (by decide) (by decide) (fun x2 => ?_)
  refine Rl_gR hV (by decide) ?_
  refine Rl_aI hV (by decide) (by decide) (fun x3 => ?_)
  refine Rl_rcv hV ?_
  refine Rl_bd hF (q_X10_isServerAt hV _) (fun r4 _ q5 hV hF => ?_)
  refine Rl_ite (fun _ => ?_) (fun _ => ?_)
  · exact Rl_ret hV hF
  · refine Rl_rcv hV ?_
    refine Rl_bd hF (q_X10_isSite hV _) (fun r6 _ q7 hV hF => ?_)
    refine Rl_ite (fun _ => ?_) (fun _ => ?_)
    · exact Rl_ret hV hF
    · refine Rl_gR hV (by decide) ?_
      refine Rl_aI hV (by decide) (by decide) (fun x8 => ?_)
      refine Rl_gR hV (by decide) ?_
      refine Rl_aI hV (by decide) (by decide) (fun x9 => ?_)
      refine Rl_bd hF (q_X10_begin hV _ _ _) (fun r10 _ q11 hV hF => ?_)
      refine Rl_ite (fun _ => ?_) (fun _ => ?_)
      · exact Rl_ret hV hF
      · refine Rl_gI hV (by decide) ?_
        exact qg_X10_requested_67 h_hN _ q11 x1 x2 x3 (q11.1 36) 0 hV hF
/-! X10_arrive -/
def p_X10_arrive (ms : MS)  : Option (Unit × MS) :=
  h_b1 (k_aI ms 38 6) fun x1 =>
  if x1 = 0 then
    k_bd (p_X10_registered ms ) fun _ q20 =>
    some ((), q20)
  else
    h_b1 (k_aI ms 38 6) fun x2 =>
    if x2 = 1 then
      k_bd (p_X10_requested ms ) fun _ q18 =>
      some ((), q18)
    else
      h_b1 (k_aI ms 38 6) fun x3 =>
      if x3 = 2 then
        k_bd (p_X10_replied ms ) fun _ q16 =>
        some ((), q16)
      else
        h_b1 (k_aI ms 38 6) fun x4 =>
        if x4 = 3 then
          k_bd (p_X10_came ms ) fun _ q14 =>
          some ((), q14)
        else
          h_b1 (k_aI ms 38 7) fun x5 =>
          k_bd (p_X10_isSite ms x5) fun r6 q7 =>
          if r6 = 0 then
            some ((), q7)
          else
            h_b1 (k_aI q7 38 7) fun x8 =>
            h_b1 (k_aI q7 38 0) fun x9 =>
            h_b1 (k_aI q7 38 1) fun x10 =>
            k_bd (p_X10_forget q7 x8 x9 x10) fun _ q12 =>
            some ((), q12)
set_option maxHeartbeats 4000000 in
set_option maxRecDepth 100000 in
theorem q_X10_arrive {σ : HS} {m : Nat} {A : Nat → Nat} {ms : MS} (hV : MV σ m A ms)  : Rl σ m A (f_X10_arrive σ (some m)) (p_X10_arrive ms ) := by
  have hF : MF σ σ m A := MF.rf
  unfold f_X10_arrive p_X10_arrive
  refine Rl_gR hV (by decide) ?_
  refine Rl_aI hV (by decide) (by decide) (fun x1 => ?_)
  refine Rl_ite (fun _ => ?_) (fun _ => ?_)
  · refine Rl_rcv hV ?_
    refine Rl_bd hF (q_X10_registered hV ) (fun r19 _ q20 hV hF => ?_)
    exact Rl_ret hV hF
  · refine Rl_gR hV (by decide) ?_
    refine Rl_aI hV (by decide) (by decide) (fun x2 => ?_)
    refine Rl_ite (fun _ => ?_) (fun _ => ?_)
    · refine Rl_rcv hV ?_
      refine Rl_bd hF (q_X10_requested hV ) (fun r17 _ q18 hV hF => ?_)
      exact Rl_ret hV hF
    · refine Rl_gR hV (by decide) ?_
      refine Rl_aI hV (by decide) (by decide) (fun x3 => ?_)
      refine Rl_ite (fun _ => ?_) (fun _ => ?_)
      · refine Rl_rcv hV ?_
        refine Rl_bd hF (q_X10_replied hV ) (fun r15 _ q16 hV hF => ?_)
        exact Rl_ret hV hF
      · refine Rl_gR hV (by decide) ?_
        refine Rl_aI hV (by decide) (by decide) (fun x4 => ?_)
        refine Rl_ite (fun _ => ?_) (fun _ => ?_)
        · refine Rl_rcv hV ?_
          refine Rl_bd hF (q_X10_came hV ) (fun r13 _ q14 hV hF => ?_)
          exact Rl_ret hV hF
        · refine Rl_gR hV (by decide) ?_
          refine Rl_aI hV (by decide) (by decide) (fun x5 => ?_)
          refine Rl_rcv hV ?_
          refine Rl_bd hF (q_X10_isSite hV _) (fun r6 _ q7 hV hF => ?_)
          refine Rl_ite (fun _ => ?_) (fun _ => ?_)
          · exact Rl_ret hV hF
          · refine Rl_gR hV (by decide) ?_
            refine Rl_aI hV (by decide) (by decide) (fun x8 => ?_)
            refine Rl_gR hV (by decide) ?_
            refine Rl_aI hV (by decide) (by decide) (fun x9 => ?_)
            refine Rl_gR hV (by decide) ?_
            refine Rl_aI hV (by decide) (by decide) (fun x10 => ?_)
            refine Rl_rcv hV ?_
            refine Rl_bd hF (q_X10_forget hV _ _ _) (fun r11 _ q12 hV hF => ?_)
            exact Rl_ret hV hF
/-! X10_carry -/
def p_X10_carry (ms : MS) (a1 : Int32) : Option (Unit × MS) :=
  k_bd (p_X10_isMessage ms a1) fun r1 q2 =>
  if r1 = 0 then
    some ((), q2)
  else
    k_bd (p_X10_take q2 a1) fun _ q4 =>
    k_bd (p_X10_arrive q4 ) fun _ q6 =>
    some ((), q6)
set_option maxHeartbeats 4000000 in
set_option maxRecDepth 100000 in
theorem q_X10_carry {σ : HS} {m : Nat} {A : Nat → Nat} {ms : MS} (hV : MV σ m A ms) (a1 : Int32) : Rl σ m A (f_X10_carry σ (some m) a1) (p_X10_carry ms a1) := by
  have hF : MF σ σ m A := MF.rf
  unfold f_X10_carry p_X10_carry
  refine Rl_rcv hV ?_
  refine Rl_bd hF (q_X10_isMessage hV _) (fun r1 _ q2 hV hF => ?_)
  refine Rl_ite (fun _ => ?_) (fun _ => ?_)
  · exact Rl_ret hV hF
  · refine Rl_rcv hV ?_
    refine Rl_bd hF (q_X10_take hV _) (fun r3 _ q4 hV hF => ?_)
    refine Rl_rcv hV ?_
    refine Rl_bd hF (q_X10_arrive hV ) (fun r5 _ q6 hV hF => ?_)
    exact Rl_ret hV hF
/-! X10_repeat -/
def p_X10_repeat (ms : MS) (a1 : Int32) : Option (Unit × MS) :=
  k_bd (p_X10_isMessage ms a1) fun r1 q2 =>
  if r1 = 0 then
    some ((), q2)
  else
    h_b1 (k_aI q2 37 ((8 * a1) + 6)) fun x3 =>
    h_b1 (k_aI q2 37 ((8 * a1) + 7)) fun x4 =>
    h_b1 (k_aI q2 37 (8 * a1)) fun x5 =>
    h_b1 (k_aI q2 37 ((8 * a1) + 1)) fun x6 =>
    h_b1 (k_aI q2 37 ((8 * a1) + 2)) fun x7 =>
    h_b1 (k_aI q2 37 ((8 * a1) + 3)) fun x8 =>
    h_b1 (k_aI q2 37 ((8 * a1) + 4)) fun x9 =>
    k_bd (p_X10_post q2 x3 x4 x5 x6 x7 x8 x9) fun _ q11 =>
    h_b1 (k_aI q11 37 ((8 * a1) + 5)) fun x12 =>
    k_bd (p_X10_last q11 x12 (q2.1 36)) fun _ q14 =>
    some ((), q14)
set_option maxHeartbeats 4000000 in
set_option maxRecDepth 100000 in
theorem q_X10_repeat {σ : HS} {m : Nat} {A : Nat → Nat} {ms : MS} (hV : MV σ m A ms) (a1 : Int32) : Rl σ m A (f_X10_repeat σ (some m) a1) (p_X10_repeat ms a1) := by
  have hF : MF σ σ m A := MF.rf
  unfold f_X10_repeat p_X10_repeat
  refine Rl_rcv hV ?_
  refine Rl_bd hF (q_X10_isMessage hV _) (fun r1 _ q2 hV hF => ?_)
  refine Rl_ite (fun _ => ?_) (fun _ => ?_)
  · exact Rl_ret hV hF
  · refine Rl_gI hV (by decide) ?_
    refine Rl_gR hV (by decide) ?_
    refine Rl_aI hV (by decide) (by decide) (fun x3 => ?_)
    refine Rl_gR hV (by decide) ?_
    refine Rl_aI hV (by decide) (by decide) (fun x4 => ?_)
    refine Rl_gR hV (by decide) ?_
    refine Rl_aI hV (by decide) (by decide) (fun x5 => ?_)
    refine Rl_gR hV (by decide) ?_
    refine Rl_aI hV (by decide) (by decide) (fun x6 => ?_)
    refine Rl_gR hV (by decide) ?_
    refine Rl_aI hV (by decide) (by decide) (fun x7 => ?_)
    refine Rl_gR hV (by decide) ?_
    refine Rl_aI hV (by decide) (by decide) (fun x8 => ?_)
    refine Rl_gR hV (by decide) ?_
    refine Rl_aI hV (by decide) (by decide) (fun x9 => ?_)
    refine Rl_rcv hV ?_
    refine Rl_bd hF (q_X10_post hV _ _ _ _ _ _ _) (fun r10 _ q11 hV hF => ?_)
    refine Rl_gR hV (by decide) ?_
    refine Rl_aI hV (by decide) (by decide) (fun x12 => ?_)
    refine Rl_rcv hV ?_
    refine Rl_bd hF (q_X10_last hV _ _) (fun r13 _ q14 hV hF => ?_)
    exact Rl_ret hV hF
/-! X10_drop -/
def p_X10_drop (ms : MS) (a1 : Int32) : Option (Unit × MS) :=
  k_bd (p_X10_isMessage ms a1) fun r1 q2 =>
  if r1 = 0 then
    some ((), q2)
  else
    k_bd (p_X10_take q2 a1) fun _ q4 =>
    some ((), q4)
set_option maxHeartbeats 4000000 in
set_option maxRecDepth 100000 in
theorem q_X10_drop {σ : HS} {m : Nat} {A : Nat → Nat} {ms : MS} (hV : MV σ m A ms) (a1 : Int32) : Rl σ m A (f_X10_drop σ (some m) a1) (p_X10_drop ms a1) := by
  have hF : MF σ σ m A := MF.rf
  unfold f_X10_drop p_X10_drop
  refine Rl_rcv hV ?_
  refine Rl_bd hF (q_X10_isMessage hV _) (fun r1 _ q2 hV hF => ?_)
  refine Rl_ite (fun _ => ?_) (fun _ => ?_)
  · exact Rl_ret hV hF
  · refine Rl_rcv hV ?_
    refine Rl_bd hF (q_X10_take hV _) (fun r3 _ q4 hV hF => ?_)
    exact Rl_ret hV hF
/-! X10_forge -/
def pj_X10_forge_24 (ms : MS) (l1 : Int32) (l2 : Int32) (l3 : Int32) (t0 : Int32) : Option (Unit × MS) :=
  k_lt (k_pI ms 0 t0) fun q5 =>
  if (q5.1 0) = 0 then
    h_b1 (k_sI q5 37 ((8 * l1) + l2) l3) fun q6 =>
    some ((), q6)
  else
    some ((), q5)
def p_X10_forge (ms : MS) (a1 : Int32) (a2 : Int32) (a3 : Int32) : Option (Unit × MS) :=
  k_bd (p_X10_isMessage ms a1) fun r1 q2 =>
  if r1 = 0 then
    some ((), q2)
  else
    k_bd (p_X10_in q2 a2 0 5) fun r3 q4 =>
    if r3 = 0 then
      pj_X10_forge_24 q4 a1 a2 a3 1
    else
      pj_X10_forge_24 q4 a1 a2 a3 0
set_option maxHeartbeats 4000000 in
set_option maxRecDepth 100000 in
theorem qj_X10_forge_24 {σ0 : HS} {m : Nat} {A : Nat → Nat} (σ : HS) (ms : MS) (l1 : Int32) (l2 : Int32) (l3 : Int32) (t0 : Int32) (hV : MV σ m A ms) (hF : MF σ0 σ m A) : Rl σ0 m A (j_X10_forge_24 σ (some m) l1 l2 l3 t0 (some m)) (pj_X10_forge_24 ms l1 l2 l3 t0) := by
  unfold j_X10_forge_24 pj_X10_forge_24
  refine Rl_pI hV hF (by decide) (fun _ q5 hV hF => ?_)
  refine Rl_gI hV (by decide) ?_
  refine Rl_ite (fun _ => ?_) (fun _ => ?_)
  · refine Rl_gR hV (by decide) ?_
    refine Rl_sI hV hF (by decide) (by decide) (fun _ q6 hV hF => ?_)
    exact Rl_ret hV hF
  · exact Rl_ret hV hF
set_option maxHeartbeats 4000000 in
set_option maxRecDepth 100000 in
theorem q_X10_forge {σ : HS} {m : Nat} {A : Nat → Nat} {ms : MS} (hV : MV σ m A ms) (a1 : Int32) (a2 : Int32) (a3 : Int32) : Rl σ m A (f_X10_forge σ (some m) a1 a2 a3) (p_X10_forge ms a1 a2 a3) := by
  have hF : MF σ σ m A := MF.rf
  unfold f_X10_forge p_X10_forge
  refine Rl_rcv hV ?_
  refine Rl_bd hF (q_X10_isMessage hV _) (fun r1 _ q2 hV hF => ?_)
  refine Rl_ite (fun _ => ?_) (fun _ => ?_)
  · exact Rl_ret hV hF
  · refine Rl_bd hF (q_X10_in hV _ _ _) (fun r3 _ q4 hV hF => ?_)
    refine Rl_ite (fun _ => ?_) (fun _ => ?_)
    · exact qj_X10_forge_24 _ q4 a1 a2 a3 1 hV hF
    · exact qj_X10_forge_24 _ q4 a1 a2 a3 0 hV hF
/-! X10_message -/
def pj_X10_message_26 (ms : MS) (l1 : Int32) (l2 : Int32) (t0 : Int32) : Option (Int32 × MS) :=
  k_lt (k_pI ms 0 t0) fun q5 =>
  if (q5.1 0) ≤ 0 then
    h_b1 (k_aI q5 37 ((8 * l1) + l2)) fun x6 =>
    some (x6, q5)
  else
    some (0, q5)
def p_X10_message (ms : MS) (a1 : Int32) (a2 : Int32) : Option (Int32 × MS) :=
  k_bd (p_X10_isMessage ms a1) fun r1 q2 =>
  if r1 = 0 then
    some (0, q2)
  else
    k_bd (p_X10_in q2 a2 0 7) fun r3 q4 =>
    if r3 = 0 then
      pj_X10_message_26 q4 a1 a2 1
    else
      pj_X10_message_26 q4 a1 a2 0
set_option maxHeartbeats 4000000 in
set_option maxRecDepth 100000 in
theorem qj_X10_message_26 {σ0 : HS} {m : Nat} {A : Nat → Nat} (σ : HS) (ms : MS) (l1 : Int32) (l2 : Int32) (t0 : Int32) (hV : MV σ m A ms) (hF : MF σ0 σ m A) : Rl σ0 m A (j_X10_message_26 σ (some m) l1 l2 t0 (some m)) (pj_X10_message_26 ms l1 l2 t0) := by
  unfold j_X10_message_26 pj_X10_message_26
  refine Rl_pI hV hF (by decide) (fun _ q5 hV hF => ?_)
  refine Rl_gI hV (by decide) ?_
  refine Rl_ite (fun _ => ?_) (fun _ => ?_)
  · refine Rl_gR hV (by decide) ?_
    refine Rl_aI hV (by decide) (by decide) (fun x6 => ?_)
    exact Rl_ret hV hF
  · exact Rl_ret hV hF
set_option maxHeartbeats 4000000 in
set_option maxRecDepth 100000 in
theorem q_X10_message {σ : HS} {m : Nat} {A : Nat → Nat} {ms : MS} (hV : MV σ m A ms) (a1 : Int32) (a2 : Int32) : Rl σ m A (f_X10_message σ (some m) a1 a2) (p_X10_message ms a1 a2) := by
  have hF : MF σ σ m A := MF.rf
  unfold f_X10_message p_X10_message
  refine Rl_rcv hV ?_
  refine Rl_bd hF (q_X10_isMessage hV _) (fun r1 _ q2 hV hF => ?_)
  refine Rl_ite (fun _ => ?_) (fun _ => ?_)
  · exact Rl_ret hV hF
  · refine Rl_bd hF (q_X10_in hV _ _ _) (fun r3 _ q4 hV hF => ?_)
    refine Rl_ite (fun _ => ?_) (fun _ => ?_)
    · exact qj_X10_message_26 _ q4 a1 a2 1 hV hF
    · exact qj_X10_message_26 _ q4 a1 a2 0 hV hF
/-! X10_run -/
def pg_X10_run_22 : Nat → MS → Int32 → Int32 → Option (Int32 × MS)
  | 0, _, _, _ => none
  | n + 1, ms, l1, l2 =>
    if (ms.1 0) = 0 then
      if l1 ≤ l2 then
        some (l2, ms)
      else
        if (ms.1 36) ≤ 0 then
          some (l2, ms)
        else
          k_bd (p_X10_take ms 0) fun _ q5 =>
          k_bd (p_X10_arrive q5 ) fun _ q7 =>
          pg_X10_run_22 n q7 l1 (l2 + 1)
    else
      some (l2, ms)
def p_X10_run (ms : MS) (a1 : Int32) : Option (Int32 × MS) :=
  k_bd (p_X10_in ms a1 0 1000) fun r1 q2 =>
  if r1 = 0 then
    k_lt (k_pI q2 0 1) fun q3 =>
    pg_X10_run_22 h_hN q3 a1 0
  else
    k_lt (k_pI q2 0 0) fun q8 =>
    pg_X10_run_22 h_hN q8 a1 0
set_option maxHeartbeats 4000000 in
set_option maxRecDepth 100000 in
theorem qg_X10_run_22 {σ0 : HS} {m : Nat} {A : Nat → Nat} : ∀ (n : Nat) (σ : HS) (ms : MS) (l1 : Int32) (l2 : Int32), MV σ m A ms → MF σ0 σ m A → Rl σ0 m A (g_X10_run_22 n σ (some m) l1 l2) (pg_X10_run_22 n ms l1 l2) := by
  intro n
  induction n with
  | zero =>
    intro σ ms l1 l2 hV hF
    rw [pg_X10_run_22]
    exact Rl_none
  | succ n ih =>
    intro σ ms l1 l2 hV hF
    rw [pg_X10_run_22, g_X10_run_22]
    refine Rl_gI hV (by decide) ?_
    refine Rl_ite (fun _ => ?_) (fun _ => ?_)
    · refine Rl_ite (fun _ => ?_) (fun _ => ?_)
      · exact Rl_ret hV hF
      · refine Rl_gI hV (by decide) ?_
        refine Rl_ite (fun _ => ?_) (fun _ => ?_)
        · exact Rl_ret hV hF
        · refine Rl_rcv hV ?_
          refine Rl_bd hF (q_X10_take hV _) (fun r4 _ q5 hV hF => ?_)
          refine Rl_rcv hV ?_
          refine Rl_bd hF (q_X10_arrive hV ) (fun r6 _ q7 hV hF => ?_)
          exact ih _ q7 l1 (l2 + 1) hV hF
    · exact Rl_ret hV hF
set_option maxHeartbeats 4000000 in
set_option maxRecDepth 100000 in
theorem q_X10_run {σ : HS} {m : Nat} {A : Nat → Nat} {ms : MS} (hV : MV σ m A ms) (a1 : Int32) : Rl σ m A (f_X10_run σ (some m) a1) (p_X10_run ms a1) := by
  have hF : MF σ σ m A := MF.rf
  unfold f_X10_run p_X10_run
  refine Rl_bd hF (q_X10_in hV _ _ _) (fun r1 _ q2 hV hF => ?_)
  refine Rl_ite (fun _ => ?_) (fun _ => ?_)
  · refine Rl_pI hV hF (by decide) (fun _ q3 hV hF => ?_)
    exact qg_X10_run_22 h_hN _ q3 a1 0 hV hF
  · refine Rl_pI hV hF (by decide) (fun _ q8 hV hF => ?_)
    exact qg_X10_run_22 h_hN _ q8 a1 0 hV hF
/-! X10_pass -/
def pj_X10_pass_28 (ms : MS) (l1 : Int32) (t0 : Int32) : Option (Unit × MS) :=
  k_lt (k_pI ms 0 t0) fun q3 =>
  if (q3.1 0) = 0 then
    k_lt (k_pI q3 1 ((q3.1 1) + l1)) fun q4 =>
    some ((), q4)
  else
    some ((), q3)
def pj_X10_pass_27 (ms : MS) (l1 : Int32) : Option (Unit × MS) :=
  pj_X10_pass_28 ms l1 1
def p_X10_pass (ms : MS) (a1 : Int32) : Option (Unit × MS) :=
  k_bd (p_X10_in ms a1 1 1000) fun r1 q2 =>
  if r1 = 0 then
    pj_X10_pass_27 q2 a1
  else
    if 1000000 < ((q2.1 1) + a1) then
      pj_X10_pass_27 q2 a1
    else
      pj_X10_pass_28 q2 a1 0
set_option maxHeartbeats 4000000 in
set_option maxRecDepth 100000 in
theorem qj_X10_pass_28 {σ0 : HS} {m : Nat} {A : Nat → Nat} (σ : HS) (ms : MS) (l1 : Int32) (t0 : Int32) (hV : MV σ m A ms) (hF : MF σ0 σ m A) : Rl σ0 m A (j_X10_pass_28 σ (some m) l1 t0 (some m)) (pj_X10_pass_28 ms l1 t0) := by
  unfold j_X10_pass_28 pj_X10_pass_28
  refine Rl_pI hV hF (by decide) (fun _ q3 hV hF => ?_)
  refine Rl_gI hV (by decide) ?_
  refine Rl_ite (fun _ => ?_) (fun _ => ?_)
  · refine Rl_gI hV (by decide) ?_
    refine Rl_pI hV hF (by decide) (fun _ q4 hV hF => ?_)
    exact Rl_ret hV hF
  · exact Rl_ret hV hF
set_option maxHeartbeats 4000000 in
set_option maxRecDepth 100000 in
theorem qj_X10_pass_27 {σ0 : HS} {m : Nat} {A : Nat → Nat} (σ : HS) (ms : MS) (l1 : Int32) (hV : MV σ m A ms) (hF : MF σ0 σ m A) : Rl σ0 m A (j_X10_pass_27 σ (some m) l1 (some m)) (pj_X10_pass_27 ms l1) := by
  unfold j_X10_pass_27 pj_X10_pass_27
  exact qj_X10_pass_28 _ ms l1 1 hV hF
set_option maxHeartbeats 4000000 in
set_option maxRecDepth 100000 in
theorem q_X10_pass {σ : HS} {m : Nat} {A : Nat → Nat} {ms : MS} (hV : MV σ m A ms) (a1 : Int32) : Rl σ m A (f_X10_pass σ (some m) a1) (p_X10_pass ms a1) := by
  have hF : MF σ σ m A := MF.rf
  unfold f_X10_pass p_X10_pass
  refine Rl_bd hF (q_X10_in hV _ _ _) (fun r1 _ q2 hV hF => ?_)
  refine Rl_ite (fun _ => ?_) (fun _ => ?_)
  · exact qj_X10_pass_27 _ q2 a1 hV hF
  · refine Rl_gI hV (by decide) ?_
    refine Rl_ite (fun _ => ?_) (fun _ => ?_)
    · exact qj_X10_pass_27 _ q2 a1 hV hF
    · exact qj_X10_pass_28 _ q2 a1 0 hV hF
/-! X10_send -/
def pj_X10_send_28 (ms : MS) (l1 : Int32) (l2 : Int32) (t0 : Int32) : Option (Int32 × MS) :=
  k_lt (k_pI ms 0 t0) fun q3 =>
  if (q3.1 0) ≤ 0 then
    k_lt (k_pI q3 28 ((q3.1 28) + 1)) fun q4 =>
    h_b1 (k_sI q4 29 (q4.1 28) l1) fun q5 =>
    h_b1 (k_sI q5 30 (q4.1 28) l2) fun q6 =>
    h_b1 (k_sI q6 33 (q4.1 28) (-1)) fun q7 =>
    k_bd (p_X10_noteFor q7 l1 l2) fun r8 q9 =>
    k_bd (p_X10_hasEndpoint q9 l1 l2) fun r10 q11 =>
    if r10 = 0 then
      if r8 = (-1) then
        k_bd (p_X10_ask q11 (q4.1 28) 0) fun _ q13 =>
        some ((q4.1 28), q13)
      else
        h_b1 (k_aI q11 21 r8) fun x14 =>
        k_bd (p_X10_follow q11 (q4.1 28) x14) fun _ q16 =>
        some ((q4.1 28), q16)
    else
      k_bd (p_X10_deliver q11 (q4.1 28) l1) fun _ q18 =>
      some ((q4.1 28), q18)
  else
    some (0, q3)
def p_X10_send (ms : MS) (a1 : Int32) (a2 : Int32) : Option (Int32 × MS) :=
  if (ms.1 28) = 200 then
    pj_X10_send_28 ms a1 a2 1
  else
    k_bd (p_X10_isSite ms a1) fun r1 q2 =>
    if r1 = 0 then
      pj_X10_send_28 q2 a1 a2 2
    else
      pj_X10_send_28 q2 a1 a2 0
set_option maxHeartbeats 4000000 in
set_option maxRecDepth 100000 in
theorem qj_X10_send_28 {σ0 : HS} {m : Nat} {A : Nat → Nat} (σ : HS) (ms : MS) (l1 : Int32) (l2 : Int32) (t0 : Int32) (hV : MV σ m A ms) (hF : MF σ0 σ m A) : Rl σ0 m A (j_X10_send_28 σ (some m) l1 l2 t0 (some m)) (pj_X10_send_28 ms l1 l2 t0) := by
  unfold j_X10_send_28 pj_X10_send_28
  refine Rl_pI hV hF (by decide) (fun _ q3 hV hF => ?_)
  refine Rl_gI hV (by decide) ?_
  refine Rl_ite (fun _ => ?_) (fun _ => ?_)
  · refine Rl_gI hV (by decide) ?_
    refine Rl_pI hV hF (by decide) (fun _ q4 hV hF => ?_)
    refine Rl_gI hV (by decide) ?_
    refine Rl_gR hV (by decide) ?_
    refine Rl_sI hV hF (by decide) (by decide) (fun _ q5 hV hF => ?_)
    refine Rl_gR hV (by decide) ?_
    refine Rl_sI hV hF (by decide) (by decide) (fun _ q6 hV hF => ?_)
    refine Rl_gR hV (by decide) ?_
    refine Rl_sI hV hF (by decide) (by decide) (fun _ q7 hV hF => ?_)
    refine Rl_rcv hV ?_
    refine Rl_bd hF (q_X10_noteFor hV _ _) (fun r8 _ q9 hV hF => ?_)
    refine Rl_rcv hV ?_
    refine Rl_bd hF (q_X10_hasEndpoint hV _ _) (fun r10 _ q11 hV hF => ?_)
    refine Rl_ite (fun _ => ?_) (fun _ => ?_)
    · refine Rl_ite (fun _ => ?_) (fun _ => ?_)
      · refine Rl_rcv hV ?_
        refine Rl_bd hF (q_X10_ask hV _ _) (fun r12 _ q13 hV hF => ?_)
        exact Rl_ret hV hF
      · refine Rl_gR hV (by decide) ?_
        refine Rl_aI hV (by decide) (by decide) (fun x14 => ?_)
        refine Rl_rcv hV ?_
        refine Rl_bd hF (q_X10_follow hV _ _) (fun r15 _ q16 hV hF => ?_)
        exact Rl_ret hV hF
    · refine Rl_rcv hV ?_
      refine Rl_bd hF (q_X10_deliver hV _ _) (fun r17 _ q18 hV hF => ?_)
      exact Rl_ret hV hF
  · exact Rl_ret hV hF
set_option maxHeartbeats 4000000 in
set_option maxRecDepth 100000 in
theorem q_X10_send {σ : HS} {m : Nat} {A : Nat → Nat} {ms : MS} (hV : MV σ m A ms) (a1 : Int32) (a2 : Int32) : Rl σ m A (f_X10_send σ (some m) a1 a2) (p_X10_send ms a1 a2) := by
  have hF : MF σ σ m A := MF.rf
  unfold f_X10_send p_X10_send
  refine Rl_gI hV (by decide) ?_
  refine Rl_ite (fun _ => ?_) (fun _ => ?_)
  · exact qj_X10_send_28 _ ms a1 a2 1 hV hF
  · refine Rl_rcv hV ?_
    refine Rl_bd hF (q_X10_isSite hV _) (fun r1 _ q2 hV hF => ?_)
    refine Rl_ite (fun _ => ?_) (fun _ => ?_)
    · exact qj_X10_send_28 _ q2 a1 a2 2 hV hF
    · exact qj_X10_send_28 _ q2 a1 a2 0 hV hF
end
/-! from 24.num03 -/
section
/-! X10_packet -/
def pj_X10_packet_18 (ms : MS) (l1 : Int32) (l2 : Int32) (t0 : Int32) : Option (Int32 × MS) :=
  k_lt (k_pI ms 0 t0) fun q3 =>
  if (q3.1 0) ≤ 0 then
    if l2 = 0 then
      h_b1 (k_aI q3 31 l1) fun x4 =>
      some (x4, q3)
    else
      if l2 = 1 then
        h_b1 (k_aI q3 33 l1) fun x5 =>
        some (x5, q3)
      else
        if l2 = 2 then
          h_b1 (k_aI q3 34 l1) fun x6 =>
          some (x6, q3)
        else
          if l2 = 3 then
            h_b1 (k_aI q3 35 l1) fun x7 =>
            some (x7, q3)
          else
            some ((-1), q3)
  else
    some (0, q3)
def p_X10_packet (ms : MS) (a1 : Int32) (a2 : Int32) : Option (Int32 × MS) :=
  k_bd (p_X10_in ms a1 1 (ms.1 28)) fun r1 q2 =>
  if r1 = 0 then
    pj_X10_packet_18 q2 a1 a2 1
  else
    pj_X10_packet_18 q2 a1 a2 0
set_option maxHeartbeats 4000000 in
set_option maxRecDepth 100000 in
theorem qj_X10_packet_18 {σ0 : HS} {m : Nat} {A : Nat → Nat} (σ : HS) (ms : MS) (l1 : Int32) (l2 : Int32) (t0 : Int32) (hV : MV σ m A ms) (hF : MF σ0 σ m A) : Rl σ0 m A (j_X10_packet_18 σ (some m) l1 l2 t0 (some m)) (pj_X10_packet_18 ms l1 l2 t0) := by
  unfold j_X10_packet_18 pj_X10_packet_18
  refine Rl_pI hV hF (by decide) (fun _ q3 hV hF => ?_)
  refine Rl_gI hV (by decide) ?_
  refine Rl_ite (fun _ => ?_) (fun _ => ?_)
  · refine Rl_ite (fun _ => ?_) (fun _ => ?_)
    · refine Rl_gR hV (by decide) ?_
      refine Rl_aI hV (by decide) (by decide) (fun x4 => ?_)
      exact Rl_ret hV hF
    · skip
      refine Rl_ite (fun _ => ?_) (fun _ => ?_)
      · refine Rl_gR hV (by decide) ?_
        refine Rl_aI hV (by decide) (by decide) (fun x5 => ?_)
        exact Rl_ret hV hF
      · skip
        refine Rl_ite (fun _ => ?_) (fun _ => ?_)
        · refine Rl_gR hV (by decide) ?_
          refine Rl_aI hV (by decide) (by decide) (fun x6 => ?_)
          exact Rl_ret hV hF
        · skip
          refine Rl_ite (fun _ => ?_) (fun _ => ?_)
          · refine Rl_gR hV (by decide) ?_
            refine Rl_aI hV (by decide) (by decide) (fun x7 => ?_)
            exact Rl_ret hV hF
          · skip
            exact Rl_ret hV hF
  · exact Rl_ret hV hF
set_option maxHeartbeats 4000000 in
set_option maxRecDepth 100000 in
theorem q_X10_packet {σ : HS} {m : Nat} {A : Nat → Nat} {ms : MS} (hV : MV σ m A ms) (a1 : Int32) (a2 : Int32) : Rl σ m A (f_X10_packet σ (some m) a1 a2) (p_X10_packet ms a1 a2) := by
  have hF : MF σ σ m A := MF.rf
  unfold f_X10_packet p_X10_packet
  refine Rl_gI hV (by decide) ?_
  refine Rl_bd hF (q_X10_in hV _ _ _) (fun r1 _ q2 hV hF => ?_)
  refine Rl_ite (fun _ => ?_) (fun _ => ?_)
  · exact qj_X10_packet_18 _ q2 a1 a2 1 hV hF
  · exact qj_X10_packet_18 _ q2 a1 a2 0 hV hF
/-! X10_note -/
def pj_X10_note_14 (ms : MS) (l1 : Int32) (l2 : Int32) (l3 : Int32) (t0 : Int32) : Option (Int32 × MS) :=
  k_lt (k_pI ms 0 t0) fun q3 =>
  if (q3.1 0) ≤ 0 then
    k_bd (p_X10_noteFor q3 l1 l2) fun r4 q5 =>
    if r4 = (-1) then
      some ((-1), q5)
    else
      if l3 = 0 then
        h_b1 (k_aI q5 20 r4) fun x8 =>
        some (x8, q5)
      else
        if l3 = 1 then
          h_b1 (k_aI q5 21 r4) fun x7 =>
          some (x7, q5)
        else
          if l3 = 2 then
            h_b1 (k_aI q5 22 r4) fun x6 =>
            some (x6, q5)
          else
            some ((-1), q5)
  else
    some (0, q3)
def p_X10_note (ms : MS) (a1 : Int32) (a2 : Int32) (a3 : Int32) : Option (Int32 × MS) :=
  k_bd (p_X10_isSite ms a1) fun r1 q2 =>
  if r1 = 0 then
    pj_X10_note_14 q2 a1 a2 a3 1
  else
    pj_X10_note_14 q2 a1 a2 a3 0
set_option maxHeartbeats 4000000 in
set_option maxRecDepth 100000 in
theorem qj_X10_note_14 {σ0 : HS} {m : Nat} {A : Nat → Nat} (σ : HS) (ms : MS) (l1 : Int32) (l2 : Int32) (l3 : Int32) (t0 : Int32) (hV : MV σ m A ms) (hF : MF σ0 σ m A) : Rl σ0 m A (j_X10_note_14 σ (some m) l1 l2 l3 t0 (some m)) (pj_X10_note_14 ms l1 l2 l3 t0) := by
  unfold j_X10_note_14 pj_X10_note_14
  refine Rl_pI hV hF (by decide) (fun _ q3 hV hF => ?_)
  refine Rl_gI hV (by decide) ?_
  refine Rl_ite (fun _ => ?_) (fun _ => ?_)
  · refine Rl_rcv hV ?_
    refine Rl_bd hF (q_X10_noteFor hV _ _) (fun r4 _ q5 hV hF => ?_)
    refine Rl_ite (fun _ => ?_) (fun _ => ?_)
    · exact Rl_ret hV hF
    · refine Rl_ite (fun _ => ?_) (fun _ => ?_)
      · refine Rl_gR hV (by decide) ?_
        refine Rl_aI hV (by decide) (by decide) (fun x8 => ?_)
        exact Rl_ret hV hF
      · refine Rl_ite (fun _ => ?_) (fun _ => ?_)
        · refine Rl_gR hV (by decide) ?_
          refine Rl_aI hV (by decide) (by decide) (fun x7 => ?_)
          exact Rl_ret hV hF
        · refine Rl_ite (fun _ => ?_) (fun _ => ?_)
          · refine Rl_gR hV (by decide) ?_
            refine Rl_aI hV (by decide) (by decide) (fun x6 => ?_)
            exact Rl_ret hV hF
          · exact Rl_ret hV hF
  · exact Rl_ret hV hF
set_option maxHeartbeats 4000000 in
set_option maxRecDepth 100000 in
theorem q_X10_note {σ : HS} {m : Nat} {A : Nat → Nat} {ms : MS} (hV : MV σ m A ms) (a1 : Int32) (a2 : Int32) (a3 : Int32) : Rl σ m A (f_X10_note σ (some m) a1 a2 a3) (p_X10_note ms a1 a2 a3) := by
  have hF : MF σ σ m A := MF.rf
  unfold f_X10_note p_X10_note
  refine Rl_rcv hV ?_
  refine Rl_bd hF (q_X10_isSite hV _) (fun r1 _ q2 hV hF => ?_)
  refine Rl_ite (fun _ => ?_) (fun _ => ?_)
  · exact qj_X10_note_14 _ q2 a1 a2 a3 1 hV hF
  · exact qj_X10_note_14 _ q2 a1 a2 a3 0 hV hF
/-! X10_truth -/
def pg_X10_truth_12 : Nat → MS → Int32 → Int32 → Int32 → Int32 → Option (Int32 × MS)
  | 0, _, _, _, _, _ => none
  | n + 1, ms, l1, l2, l3, l4 =>
    if 8 ≤ l4 then
      some (l2, ms)
    else
      k_bd (p_X10_best ms l4 l1) fun r2 q3 =>
      if r2 = (-1) then
        pg_X10_truth_12 n q3 l1 l2 l3 (l4 + 1)
      else
        h_b1 (k_aI q3 8 r2) fun x4 =>
        if l3 < x4 then
          h_b1 (k_aI q3 9 r2) fun x5 =>
          h_b1 (k_aI q3 8 r2) fun x6 =>
          pg_X10_truth_12 n q3 l1 x5 x6 (l4 + 1)
        else
          pg_X10_truth_12 n q3 l1 l2 l3 (l4 + 1)
def p_X10_truth (ms : MS) (a1 : Int32) : Option (Int32 × MS) :=
  k_lt (k_pI ms 0 0) fun q1 =>
  pg_X10_truth_12 h_hN q1 a1 (-1) (-1) 0
set_option maxHeartbeats 4000000 in
set_option maxRecDepth 100000 in
theorem qg_X10_truth_12 {σ0 : HS} {m : Nat} {A : Nat → Nat} : ∀ (n : Nat) (σ : HS) (ms : MS) (l1 : Int32) (l2 : Int32) (l3 : Int32) (l4 : Int32), MV σ m A ms → MF σ0 σ m A → Rl σ0 m A (g_X10_truth_12 n σ (some m) l1 l2 l3 l4) (pg_X10_truth_12 n ms l1 l2 l3 l4) := by
  intro n
  induction n with
  | zero =>
    intro σ ms l1 l2 l3 l4 hV hF
    rw [pg_X10_truth_12]
    exact Rl_none
  | succ n ih =>
    intro σ ms l1 l2 l3 l4 hV hF
    rw [pg_X10_truth_12, g_X10_truth_12]
    refine Rl_ite (fun _ => ?_) (fun _ => ?_)
    · exact Rl_ret hV hF
    · refine Rl_rcv hV ?_
      refine Rl_bd hF (q_X10_best hV _ _) (fun r2 _ q3 hV hF => ?_)
      refine Rl_ite (fun _ => ?_) (fun _ => ?_)
      · exact ih _ q3 l1 l2 l3 (l4 + 1) hV hF
      · refine Rl_gR hV (by decide) ?_
        refine Rl_aI hV (by decide) (by decide) (fun x4 => ?_)
        refine Rl_ite (fun _ => ?_) (fun _ => ?_)
        · refine Rl_gR hV (by decide) ?_
          refine Rl_aI hV (by decide) (by decide) (fun x5 => ?_)
          refine Rl_gR hV (by decide) ?_
          refine Rl_aI hV (by decide) (by decide) (fun x6 => ?_)
          exact ih _ q3 l1 x5 x6 (l4 + 1) hV hF
        · exact ih _ q3 l1 l2 l3 (l4 + 1) hV hF
set_option maxHeartbeats 4000000 in
set_option maxRecDepth 100000 in
theorem q_X10_truth {σ : HS} {m : Nat} {A : Nat → Nat} {ms : MS} (hV : MV σ m A ms) (a1 : Int32) : Rl σ m A (f_X10_truth σ (some m) a1) (p_X10_truth ms a1) := by
  have hF : MF σ σ m A := MF.rf
  unfold f_X10_truth p_X10_truth
  refine Rl_pI hV hF (by decide) (fun _ q1 hV hF => ?_)
  exact qg_X10_truth_12 h_hN _ q1 a1 (-1) (-1) 0 hV hF
/-! X10_count -/
def pg_X10_count_97 : Nat → MS → Int32 → Int32 → Option (Int32 × MS)
  | 0, _, _, _ => none
  | n + 1, ms, l2, l3 =>
    if 128 ≤ l3 then
      some (l2, ms)
    else
      h_b1 (k_aI ms 12 l3) fun x2 =>
      if x2 ≤ (ms.1 1) then
        pg_X10_count_97 n ms (l2 + 0) (l3 + 1)
      else
        pg_X10_count_97 n ms (l2 + 1) (l3 + 1)
def pg_X10_count_135 : Nat → MS → Int32 → Int32 → Option (Int32 × MS)
  | 0, _, _, _ => none
  | n + 1, ms, l2, l3 =>
    if 48 ≤ l3 then
      some (l2, ms)
    else
      h_b1 (k_aI ms 23 l3) fun x3 =>
      if x3 ≤ (ms.1 1) then
        pg_X10_count_135 n ms (l2 + 0) (l3 + 1)
      else
        pg_X10_count_135 n ms (l2 + 1) (l3 + 1)
def p_X10_count (ms : MS) (a1 : Int32) : Option (Int32 × MS) :=
  k_lt (k_pI ms 0 0) fun q1 =>
  if a1 = 0 then
    some ((q1.1 36), q1)
  else
    if a1 = 1 then
      some ((q1.1 39), q1)
    else
      if a1 = 2 then
        some ((q1.1 40), q1)
      else
        if a1 = 3 then
          some ((q1.1 41), q1)
        else
          if a1 = 4 then
            some ((q1.1 42), q1)
          else
            if a1 = 5 then
              some ((q1.1 28), q1)
            else
              if a1 = 6 then
                some ((q1.1 1), q1)
              else
                if a1 = 7 then
                  pg_X10_count_97 h_hN q1 0 0
                else
                  if a1 = 8 then
                    pg_X10_count_135 h_hN q1 0 0
                  else
                    some ((-1), q1)
set_option maxHeartbeats 4000000 in
set_option maxRecDepth 100000 in
theorem qg_X10_count_97 {σ0 : HS} {m : Nat} {A : Nat → Nat} : ∀ (n : Nat) (σ : HS) (ms : MS) (l2 : Int32) (l3 : Int32), MV σ m A ms → MF σ0 σ m A → Rl σ0 m A (g_X10_count_97 n σ (some m) l2 l3) (pg_X10_count_97 n ms l2 l3) := by
  intro n
  induction n with
  | zero =>
    intro σ ms l2 l3 hV hF
    rw [pg_X10_count_97]
    exact Rl_none
  | succ n ih =>
    intro σ ms l2 l3 hV hF
    rw [pg_X10_count_97, g_X10_count_97]
    refine Rl_ite (fun _ => ?_) (fun _ => ?_)
    · exact Rl_ret hV hF
    · refine Rl_gR hV (by decide) ?_
      refine Rl_aI hV (by decide) (by decide) (fun x2 => ?_)
      refine Rl_gI hV (by decide) ?_
      refine Rl_ite (fun _ => ?_) (fun _ => ?_)
      · exact ih _ ms (l2 + 0) (l3 + 1) hV hF
      · exact ih _ ms (l2 + 1) (l3 + 1) hV hF
set_option maxHeartbeats 4000000 in
set_option maxRecDepth 100000 in
theorem qg_X10_count_135 {σ0 : HS} {m : Nat} {A : Nat → Nat} : ∀ (n : Nat) (σ : HS) (ms : MS) (l2 : Int32) (l3 : Int32), MV σ m A ms → MF σ0 σ m A → Rl σ0 m A (g_X10_count_135 n σ (some m) l2 l3) (pg_X10_count_135 n ms l2 l3) := by
  intro n
  induction n with
  | zero =>
    intro σ ms l2 l3 hV hF
    rw [pg_X10_count_135]
    exact Rl_none
  | succ n ih =>
    intro σ ms l2 l3 hV hF
    rw [pg_X10_count_135, g_X10_count_135]
    refine Rl_ite (fun _ => ?_) (fun _ => ?_)
    · exact Rl_ret hV hF
    · refine Rl_gR hV (by decide) ?_
      refine Rl_aI hV (by decide) (by decide) (fun x3 => ?_)
      refine Rl_gI hV (by decide) ?_
      refine Rl_ite (fun _ => ?_) (fun _ => ?_)
      · exact ih _ ms (l2 + 0) (l3 + 1) hV hF
      · exact ih _ ms (l2 + 1) (l3 + 1) hV hF
set_option maxHeartbeats 4000000 in
set_option maxRecDepth 100000 in
theorem q_X10_count {σ : HS} {m : Nat} {A : Nat → Nat} {ms : MS} (hV : MV σ m A ms) (a1 : Int32) : Rl σ m A (f_X10_count σ (some m) a1) (p_X10_count ms a1) := by
  have hF : MF σ σ m A := MF.rf
  unfold f_X10_count p_X10_count
  refine Rl_pI hV hF (by decide) (fun _ q1 hV hF => ?_)
  refine Rl_ite (fun _ => ?_) (fun _ => ?_)
  · refine Rl_gI hV (by decide) ?_
    exact Rl_ret hV hF
  · skip
    refine Rl_ite (fun _ => ?_) (fun _ => ?_)
    · refine Rl_gI hV (by decide) ?_
      exact Rl_ret hV hF
    · skip
      refine Rl_ite (fun _ => ?_) (fun _ => ?_)
      · refine Rl_gI hV (by decide) ?_
        exact Rl_ret hV hF
      · skip
        refine Rl_ite (fun _ => ?_) (fun _ => ?_)
        · refine Rl_gI hV (by decide) ?_
          exact Rl_ret hV hF
        · skip
          refine Rl_ite (fun _ => ?_) (fun _ => ?_)
          · refine Rl_gI hV (by decide) ?_
            exact Rl_ret hV hF
          · skip
            refine Rl_ite (fun _ => ?_) (fun _ => ?_)
            · refine Rl_gI hV (by decide) ?_
              exact Rl_ret hV hF
            · skip
              refine Rl_ite (fun _ => ?_) (fun _ => ?_)
              · refine Rl_gI hV (by decide) ?_
                exact Rl_ret hV hF
              · skip
                refine Rl_ite (fun _ => ?_) (fun _ => ?_)
                · exact qg_X10_count_97 h_hN _ q1 0 0 hV hF
                · skip
                  refine Rl_ite (fun _ => ?_) (fun _ => ?_)
                  · exact qg_X10_count_135 h_hN _ q1 0 0 hV hF
                  · skip
                    exact Rl_ret hV hF
end
/-! from 25.bits -/
section
def bt (x : Int32) (i : Nat) : Bool := x.toBitVec.getLsbD i
theorem b_ext {x y : Int32} (h : ∀ i, i < 32 → bt x i = bt y i) : x = y := Int32.toBitVec_inj.mp (BitVec.eq_of_getLsbD_eq (fun i hi => h i hi))
theorem b_and (x y : Int32) (i : Nat) : bt (x &&& y) i = (bt x i && bt y i) := by unfold bt; rw [Int32.toBitVec_and, BitVec.getLsbD_and]
theorem b_xor (x y : Int32) (i : Nat) : bt (x ^^^ y) i = (bt x i ^^ bt y i) := by unfold bt; rw [Int32.toBitVec_xor, BitVec.getLsbD_xor]
theorem b_big {x : Int32} {i : Nat} (h : 32 ≤ i) : bt x i = false := BitVec.getLsbD_of_ge _ _ h
theorem b_m1 : ∀ i, i < 32 → bt (-1) i = true := by decide +kernel
theorem b_0 (i : Nat) : bt 0 i = false := BitVec.getLsbD_zero
theorem s_l : ∀ n, n < 32 → ((nI n &&& 31).toBitVec.smod 32).toNat = n := by decide +kernel
theorem s_u : ∀ n, n < 32 → (((nI n).toUInt32 &&& Int32.toUInt32 31).toBitVec % 32).toNat = n := by decide +kernel
theorem b_shl (n : Nat) (hn : n < 32) (x : Int32) {i : Nat} (hi : i < 32) : bt (x <<< (nI n &&& 31)) i = (decide (n ≤ i) && bt x (i - n)) := by
  unfold bt
  rw [Int32.toBitVec_shiftLeft]
  show (x.toBitVec <<< ((nI n &&& 31).toBitVec.smod 32).toNat).getLsbD i = _
  rw [s_l n hn, BitVec.getLsbD_shiftLeft]
  rcases Nat.lt_or_ge i n with h | h
  · simp [h, Nat.not_le.mpr h]
  · simp [hi, h, Nat.not_lt.mpr h]
theorem b_ushr (n : Nat) (hn : n < 32) (x : Int32) (i : Nat) : bt ((x.toUInt32 >>> ((nI n).toUInt32 &&& Int32.toUInt32 31)).toInt32) i = bt x (n + i) := by
  show (x.toUInt32 >>> ((nI n).toUInt32 &&& Int32.toUInt32 31)).toBitVec.getLsbD i = x.toUInt32.toBitVec.getLsbD (n + i)
  rw [UInt32.toBitVec_shiftRight]
  show (x.toUInt32.toBitVec >>> (((nI n).toUInt32 &&& Int32.toUInt32 31).toBitVec % 32).toNat).getLsbD i = _
  rw [s_u n hn, BitVec.getLsbD_ushiftRight]
/-- the mask of the first n bits -/
def mk (n : Nat) : Int32 := if n = 0 then 0 else (-1) <<< (nI (32 - n) &&& 31)
theorem bt_mk {n i : Nat} (hn : n ≤ 32) (hi : i < 32) : bt (mk n) i = decide (32 - n ≤ i) := by
  unfold mk
  by_cases h0 : n = 0
  · rw [if_pos h0, b_0, h0]
    symm
    rw [decide_eq_false_iff_not]
    omega
  · rw [if_neg h0, b_shl (32 - n) (by omega) (-1) hi]
    by_cases h1 : 32 - n ≤ i
    · rw [b_m1 _ (by omega)]; simp
    · simp [h1]
def b2i (b : Bool) : Int32 := if b = true then 1 else 0
theorem b2i_t : b2i true = 1 := rfl
theorem b2i_f : b2i false = 0 := rfl
theorem b2i_0 {b : Bool} : b2i b = 0 ↔ b = false := by cases b <;> simp [b2i]
theorem b2i_1 {b : Bool} : b2i b = 1 ↔ b = true := by cases b <;> simp [b2i]
theorem b2i_n {b : Bool} : ¬ b2i b = 0 ↔ b = true := by cases b <;> simp [b2i]
/-- a and b have the same first n bits -/
def ag (n : Nat) (a b : Int32) : Bool := decide ((a ^^^ b) &&& mk n = 0)
theorem ag_iff {n : Nat} {a b : Int32} (hn : n ≤ 32) : ag n a b = true ↔ ∀ i, i < 32 → 32 - n ≤ i → bt a i = bt b i := by
  unfold ag
  rw [decide_eq_true_iff]
  constructor
  · intro h i hi h1
    have h2 : bt ((a ^^^ b) &&& mk n) i = bt 0 i := by rw [h]
    rw [b_and, b_xor, bt_mk hn hi, b_0, decide_eq_true h1, Bool.and_true] at h2
    revert h2
    cases bt a i <;> cases bt b i <;> simp
  · intro h
    apply b_ext
    intro i hi
    rw [b_and, b_xor, bt_mk hn hi, b_0]
    by_cases h1 : 32 - n ≤ i
    · rw [h i hi h1]; simp
    · rw [decide_eq_false h1, Bool.and_false]
theorem ag_refl {n : Nat} {a : Int32} (hn : n ≤ 32) : ag n a a = true := (ag_iff hn).mpr (fun _ _ _ => rfl)
theorem ag_symm {n : Nat} {a b : Int32} (hn : n ≤ 32) (h : ag n a b = true) : ag n b a = true := (ag_iff hn).mpr (fun i h1 h2 => ((ag_iff hn).mp h i h1 h2).symm)
theorem ag_comm {n : Nat} {a b : Int32} (hn : n ≤ 32) : ag n a b = ag n b a := by
  cases h : ag n a b
  · cases h' : ag n b a
    · rfl
    · rw [ag_symm hn h'] at h; cases h
  · exact (ag_symm hn h).symm
theorem ag_trans {n : Nat} {a b c : Int32} (hn : n ≤ 32) (h : ag n a b = true) (h' : ag n b c = true) : ag n a c = true := (ag_iff hn).mpr (fun i h1 h2 => ((ag_iff hn).mp h i h1 h2).trans ((ag_iff hn).mp h' i h1 h2))
theorem ag_le {n k : Nat} {a b : Int32} (hn : n ≤ 32) (hk : k ≤ n) (h : ag n a b = true) : ag k a b = true := (ag_iff (by omega)).mpr (fun i h1 h2 => (ag_iff hn).mp h i h1 (by omega))
theorem ag_0 (a b : Int32) : ag 0 a b = true := (ag_iff (by omega)).mpr (fun i h1 h2 => by omega)
theorem ag_32 {a b : Int32} (h : ag 32 a b = true) : a = b := b_ext (fun i hi => (ag_iff (by omega)).mp h i hi (by omega))
/-- b is the bits of a prefix of length n -/
def vb (n : Nat) (b : Int32) : Bool := decide (b &&& (mk n ^^^ (-1)) = 0)
theorem vb_iff {n : Nat} {b : Int32} (hn : n ≤ 32) : vb n b = true ↔ ∀ i, i < 32 → i < 32 - n → bt b i = false := by
  unfold vb
  rw [decide_eq_true_iff]
  constructor
  · intro h i hi h1
    have h2 : bt (b &&& (mk n ^^^ (-1))) i = bt 0 i := by rw [h]
    rw [b_and, b_xor, bt_mk hn hi, b_0, b_m1 i hi, decide_eq_false (show ¬ 32 - n ≤ i by omega)] at h2
    revert h2
    cases bt b i <;> simp
  · intro h
    apply b_ext
    intro i hi
    rw [b_and, b_xor, bt_mk hn hi, b_0, b_m1 i hi]
    by_cases h1 : 32 - n ≤ i
    · rw [decide_eq_true h1]; simp
    · rw [h i hi (by omega)]; simp
theorem vb_eq {n : Nat} {a b : Int32} (hn : n ≤ 32) (ha : vb n a = true) (hb : vb n b = true) (h : ag n a b = true) : a = b := b_ext (fun i hi => by
  by_cases h1 : 32 - n ≤ i
  · exact (ag_iff hn).mp h i hi h1
  · rw [(vb_iff hn).mp ha i hi (by omega), (vb_iff hn).mp hb i hi (by omega)])
theorem vb_cut {n : Nat} (hn : n ≤ 32) (e : Int32) : vb n (e &&& mk n) = true := (vb_iff hn).mpr (fun i hi h1 => by
  rw [b_and, bt_mk hn hi, decide_eq_false (show ¬ 32 - n ≤ i by omega), Bool.and_false])
theorem ag_cut {n : Nat} (hn : n ≤ 32) (e : Int32) : ag n e (e &&& mk n) = true := (ag_iff hn).mpr (fun i hi h1 => by
  rw [b_and, bt_mk hn hi, decide_eq_true h1, Bool.and_true])
theorem has_iff {n : Nat} {e b : Int32} (hn : n ≤ 32) (hb : vb n b = true) : (e &&& mk n = b) ↔ ag n e b = true := by
  constructor
  · intro h
    rw [← h]; exact ag_cut hn e
  · intro h
    exact vb_eq hn (vb_cut hn e) hb (ag_trans hn (ag_symm hn (ag_cut hn e)) h)
theorem nI32 (n : Nat) (hn : n ≤ 32) : (32 : Int32) - nI n = nI (32 - n) := pk_sub (a := 32) hn
theorem p_in_eq (ms : MS) (a : Int32) (lo hi : Int32) : p_X10_in ms a lo hi = some (b2i (decide (lo ≤ a ∧ a ≤ hi)), ms) := by
  unfold p_X10_in
  by_cases h1 : a < lo
  · rw [if_pos h1, decide_eq_false (fun h => absurd h.1 (Int32.not_le.mpr h1))]; rfl
  · rw [if_neg h1]
    by_cases h2 : hi < a
    · rw [if_pos h2, decide_eq_false (fun h => absurd h.2 (Int32.not_le.mpr h2))]; rfl
    · rw [if_neg h2, decide_eq_true ⟨Int32.not_lt.mp h1, Int32.not_lt.mp h2⟩]; rfl
theorem ushr_ag {n : Nat} {a b : Int32} (h0 : n ≠ 0) (hn : n ≤ 32) : (h_ushr (a ^^^ b) (32 - nI n) = 0) ↔ ag n a b = true := by
  rw [nI32 n hn, ag_iff hn]
  constructor
  · intro h i hi h1
    have h2 : bt (h_ushr (a ^^^ b) (nI (32 - n))) (i - (32 - n)) = bt 0 (i - (32 - n)) := by rw [h]
    unfold h_ushr at h2
    rw [b_ushr (32 - n) (by omega), b_0, show 32 - n + (i - (32 - n)) = i by omega, b_xor] at h2
    revert h2
    cases bt a i <;> cases bt b i <;> simp
  · intro h
    apply b_ext
    intro i hi
    unfold h_ushr
    rw [b_ushr (32 - n) (by omega), b_0]
    by_cases h1 : 32 - n + i < 32
    · rw [b_xor, h _ h1 (by omega)]; simp
    · rw [b_big (by omega)]
theorem p_begin_eq (ms : MS) (a b : Int32) {n : Nat} (hn : n ≤ 32) : p_X10_begin ms a b (nI n) = some (b2i (ag n a b), ms) := by
  unfold p_X10_begin
  by_cases h0 : n = 0
  · subst h0
    rw [if_pos (by decide), ag_0]; rfl
  · rw [if_neg (nI_ne0 (by omega) (by omega))]
    by_cases h : ag n a b = true
    · rw [if_pos ((ushr_ag h0 hn).mpr h), h]; rfl
    · rw [if_neg (fun z => h ((ushr_ag h0 hn).mp z))]
      simp only [Bool.not_eq_true] at h
      rw [h]; rfl
theorem p_holds_eq (ms : MS) (b ob : Int32) {n k : Nat} (hn : n ≤ 32) (hk : k ≤ 32) : p_X10_holds ms b (nI n) ob (nI k) = some (b2i (decide (n ≤ k) && ag n b ob), ms) := by
  unfold p_X10_holds
  by_cases h : k < n
  · rw [if_pos (nI_lt h (by omega)), decide_eq_false (show ¬ n ≤ k by omega)]; rfl
  · rw [if_neg (nI_nlt (by omega) (by omega)), p_begin_eq ms b ob hn, decide_eq_true (show n ≤ k by omega), Bool.true_and]
    show (if b2i (ag n b ob) = 0 then some (0, ms) else some (1, ms)) = _
    cases ag n b ob <;> rfl
end
/-! from 26.find -/
section
/-! LOOPS OF THE REFERENCE OVER NUMBERS: the first of a range, a fold over a range -/
def ff (P : Nat → Bool) : Nat → Nat → Option Nat
  | _, 0 => none
  | i, c + 1 => if P i = true then some i else ff P (i + 1) c
def o2i (o : Option Nat) : Int32 := match o with
  | none => -1
  | some i => nI i
theorem ff_none {P : Nat → Bool} : ∀ {c i : Nat}, ff P i c = none ↔ ∀ j, i ≤ j → j < i + c → P j = false
  | 0, i => by simp [ff]; intro j h1 h2; omega
  | c + 1, i => by
    unfold ff
    by_cases h : P i = true
    · rw [if_pos h]
      constructor
      · intro z; cases z
      · intro z; rw [z i (Nat.le_refl i) (by omega)] at h; cases h
    · rw [if_neg h, ff_none]
      constructor
      · intro z j h1 h2
        by_cases e : j = i
        · rw [e]; simpa using h
        · exact z j (by omega) (by omega)
      · intro z j h1 h2
        exact z j (by omega) (by omega)
theorem ff_some {P : Nat → Bool} : ∀ {c i j : Nat}, ff P i c = some j ↔ i ≤ j ∧ j < i + c ∧ P j = true ∧ ∀ k, i ≤ k → k < j → P k = false
  | 0, i, j => by simp [ff]; intro h1 h2; omega
  | c + 1, i, j => by
    unfold ff
    by_cases h : P i = true
    · rw [if_pos h]
      constructor
      · intro z
        cases z
        exact ⟨Nat.le_refl i, by omega, h, fun k h1 h2 => by omega⟩
      · intro z
        by_cases e : j = i
        · rw [e]
        · have := z.2.2.2 i (Nat.le_refl i) (by omega)
          rw [this] at h; cases h
    · rw [if_neg h, ff_some]
      constructor
      · intro z
        refine ⟨by omega, by omega, z.2.2.1, fun k h1 h2 => ?_⟩
        by_cases e : k = i
        · rw [e]; simpa using h
        · exact z.2.2.2 k (by omega) h2
      · intro z
        have hne : j ≠ i := fun e => h (by rw [← e]; exact z.2.2.1)
        exact ⟨by omega, by omega, z.2.2.1, fun k h1 h2 => z.2.2.2 k (by omega) h2⟩
theorem ff_congr {P P' : Nat → Bool} : ∀ {c i : Nat}, (∀ j, i ≤ j → j < i + c → P j = P' j) → ff P i c = ff P' i c
  | 0, i, _ => rfl
  | c + 1, i, h => by
    unfold ff
    rw [h i (Nat.le_refl i) (by omega), ff_congr (fun j h1 h2 => h j (by omega) (by omega))]
/-- a loop that ends at the first place where P holds -/
theorem lp_find {β : Type} (g : Nat → Int32 → Option β) (e : Nat) (P : Nat → Bool) (F : Nat → Option β) (d : Option β) (hend : ∀ n, g (n + 1) (nI e) = d) (hstep : ∀ n i, i < e → g (n + 1) (nI i) = if P i = true then F i else g n (nI (i + 1))) : ∀ c n i, i + c = e → c < n → g n (nI i) = match ff P i c with
    | none => d
    | some j => F j := by
  intro c
  induction c with
  | zero =>
    intro n i h1 h2
    obtain ⟨n', rfl⟩ : ∃ n', n = n' + 1 := ⟨n - 1, by omega⟩
    rw [show i = e by omega, hend]; rfl
  | succ c ih =>
    intro n i h1 h2
    obtain ⟨n', rfl⟩ : ∃ n', n = n' + 1 := ⟨n - 1, by omega⟩
    rw [hstep n' i (by omega)]
    unfold ff
    by_cases h : P i = true
    · rw [if_pos h, if_pos h]
    · rw [if_neg h, if_neg h]
      exact ih n' (i + 1) (by omega) (by omega)
def fo {S : Type} (step : Nat → S → S) : Nat → Nat → S → S
  | _, 0, s => s
  | i, c + 1, s => fo step (i + 1) c (step i s)
/-- a loop that goes through a range -/
theorem lp_fold {β S : Type} (g : Nat → S → Int32 → Option β) (e : Nat) (step : Nat → S → S) (fin : S → Option β) (I : Nat → S → Prop) (hI : ∀ i s, i < e → I i s → I (i + 1) (step i s)) (hend : ∀ n s, I e s → g (n + 1) s (nI e) = fin s) (hstep : ∀ n i s, i < e → I i s → g (n + 1) s (nI i) = g n (step i s) (nI (i + 1))) : ∀ c n i s, I i s → i + c = e → c < n → g n s (nI i) = fin (fo step i c s) := by
  intro c
  induction c with
  | zero =>
    intro n i s hs h1 h2
    obtain ⟨n', rfl⟩ : ∃ n', n = n' + 1 := ⟨n - 1, by omega⟩
    have hi : i = e := by omega
    subst hi
    exact hend n' s hs
  | succ c ih =>
    intro n i s hs h1 h2
    obtain ⟨n', rfl⟩ : ∃ n', n = n' + 1 := ⟨n - 1, by omega⟩
    rw [hstep n' i s (by omega) hs]
    exact ih n' (i + 1) (step i s) (hI i s (by omega) hs) (by omega) (by omega)
theorem fo_inv {S : Type} {step : Nat → S → S} (I : Nat → S → Prop) : ∀ {c i : Nat} {s : S}, (∀ j s, i ≤ j → j < i + c → I j s → I (j + 1) (step j s)) → I i s → I (i + c) (fo step i c s)
  | 0, i, s, _, h => h
  | c + 1, i, s, hs, h => by
    have := fo_inv (c := c) (i := i + 1) (s := step i s) I (fun j s h1 h2 => hs j s (by omega) (by omega)) (hs i s (Nat.le_refl i) (by omega) h)
    rw [show i + (c + 1) = i + 1 + c by omega]
    exact this
theorem h_hN_lt {c : Nat} (h : c < 2000) : c < h_hN := h
theorem k_in_nI {k i : Nat} (h : i < k_len k) (hk : k_len k < 2 ^ 31) : k_in k (nI i) = true := by
  have := nI_in h hk
  unfold k_in
  simp only [Bool.not_eq_true', Bool.or_eq_false_iff, decide_eq_false_iff_not]
  exact ⟨fun z => this (Or.inl z), fun z => this (Or.inr z)⟩
theorem k_len_lt (k : Nat) : k_len k < 2 ^ 31 := by
  by_cases h : k < 43
  · have : ∀ k, k < 43 → k_len k < 2 ^ 31 := by decide +kernel
    exact this k h
  · have : k_len k = 0 := by
      unfold k_len
      rw [List.getD_eq_getElem?_getD, List.getElem?_eq_none (by simp only [List.length_cons, List.length_nil]; omega)]
      rfl
    rw [this]; decide
theorem k_aI_nI {ms : MS} {k i : Nat} (h : i < k_len k) : k_aI ms k (nI i) = some (ms.2.1 k i) := by
  have hl := k_len_lt k
  unfold k_aI
  rw [if_pos (k_in_nI h hl), nI_clamp (by omega)]
theorem k_aL_nI {ms : MS} {i : Nat} (h : i < 64) : k_aL ms (nI i) = some (ms.2.2 i) := by
  unfold k_aL
  rw [if_pos (k_in_nI (k := 13) h (k_len_lt 13)), nI_clamp (by omega)]
theorem k_sI_nI {ms : MS} {k i : Nat} {v : Int32} (h : i < k_len k) : k_sI ms k (nI i) v = some (ms.1, h_up2 ms.2.1 k i v, ms.2.2) := by
  have hl := k_len_lt k
  unfold k_sI
  rw [if_pos (k_in_nI h hl), nI_clamp (by omega)]
theorem k_sL_nI {ms : MS} {i : Nat} {v : Int64} (h : i < 64) : k_sL ms (nI i) v = some (ms.1, ms.2.1, va_up ms.2.2 i v) := by
  unfold k_sL
  rw [if_pos (k_in_nI (k := 13) h (k_len_lt 13)), nI_clamp (by omega)]
/-- a length of a prefix -/
def Ln (x : Int32) : Prop := ∃ n : Nat, n ≤ 32 ∧ x = nI n
def ln (x : Int32) : Nat := x.toNatClampNeg
theorem Ln_nI {x : Int32} (h : Ln x) : x = nI (ln x) ∧ ln x ≤ 32 := by
  obtain ⟨n, h1, rfl⟩ := h
  have : ln (nI n) = n := nI_clamp (by omega)
  rw [this]; exact ⟨rfl, h1⟩
theorem p_begin_L (ms : MS) (a b : Int32) {x : Int32} (h : Ln x) : p_X10_begin ms a b x = some (b2i (ag (ln x) a b), ms) := by
  obtain ⟨h1, h2⟩ := Ln_nI h
  rw [h1, p_begin_eq ms a b h2, ← h1]
theorem p_holds_L (ms : MS) (b ob : Int32) {x y : Int32} (h : Ln x) (h' : Ln y) : p_X10_holds ms b x ob y = some (b2i (decide (ln x ≤ ln y) && ag (ln x) b ob), ms) := by
  obtain ⟨h1, h2⟩ := Ln_nI h
  obtain ⟨h3, h4⟩ := Ln_nI h'
  rw [h1, h3, p_holds_eq ms b ob h2 h4, ← h1, ← h3]
theorem p_siteAt_eq (ms : MS) (pl : Int32) : p_X10_siteAt ms pl = some (o2i (ff (fun s => decide (ms.2.1 14 s = pl)) 0 8), ms) := by
  unfold p_X10_siteAt
  have key := lp_find (fun n k => pg_X10_siteAt_2 n ms pl k) 8 (fun s => decide (ms.2.1 14 s = pl)) (fun j => some (nI j, ms)) (some (-1, ms))
    (fun n => by show pg_X10_siteAt_2 (n + 1) ms pl (nI 8) = _; rw [pg_X10_siteAt_2, if_pos (by decide)])
    (fun n i hi => by
      show pg_X10_siteAt_2 (n + 1) ms pl (nI i) = _
      rw [pg_X10_siteAt_2, if_neg (show ¬ (8 : Int32) ≤ nI i from nI_ge (b := 8) hi (by omega)), k_aI_nI (show i < k_len 14 from hi)]
      show (if ms.2.1 14 i = pl then some (nI i, ms) else pg_X10_siteAt_2 n ms pl (nI i + 1)) = _
      rw [nI_1]
      by_cases h : ms.2.1 14 i = pl
      · rw [if_pos h, if_pos (decide_eq_true h)]
      · rw [if_neg h, if_neg (by simpa using h)]) 8 h_hN 0 rfl (h_hN_lt (by omega))
  rw [show (0 : Int32) = nI 0 from rfl]
  refine key.trans ?_
  cases ff (fun s => decide (ms.2.1 14 s = pl)) 0 8 <;> rfl
end
/-! from 27.find2 -/
section
theorem i8 {a : Int32} (h : 0 ≤ a ∧ a ≤ 7) : ∃ i : Nat, i < 8 ∧ a = nI i := by
  obtain ⟨j, h1, h2⟩ := nI_of2 (M := 7) (n := 7) (by decide) (Int32.not_lt.mpr h.1) h.2
  exact ⟨j, by omega, h2⟩
theorem i8' {i : Nat} (h : i < 8) : 0 ≤ nI i ∧ nI i ≤ 7 := ⟨nI_pos' (by omega), nI_le (a := i) (b := 7) (by omega) (by omega)⟩
def srvB (ms : MS) (a : Int32) : Bool := decide (0 ≤ a ∧ a ≤ 7) && decide (¬ ms.2.1 3 a.toNatClampNeg = 0)
def siteB (ms : MS) (a : Int32) : Bool := decide (0 ≤ a ∧ a ≤ 7) && decide (¬ ms.2.1 14 a.toNatClampNeg = -1)
theorem p_isServerAt_eq (ms : MS) (a : Int32) : p_X10_isServerAt ms a = some (b2i (srvB ms a), ms) := by
  unfold p_X10_isServerAt srvB
  rw [p_in_eq]
  by_cases h : 0 ≤ a ∧ a ≤ 7
  · rw [decide_eq_true h, Bool.true_and]
    obtain ⟨i, hi, rfl⟩ := i8 h
    show h_b1 (k_aI ms 3 (nI i)) (fun x3 => if x3 = 0 then some ((0 : Int32), ms) else some (1, ms)) = _
    rw [k_aI_nI (show i < k_len 3 from hi), nI_clamp (by omega)]
    show (if ms.2.1 3 i = 0 then some ((0 : Int32), ms) else some (1, ms)) = _
    by_cases h2 : ms.2.1 3 i = 0
    · rw [if_pos h2, decide_eq_false (fun z => z h2)]; rfl
    · rw [if_neg h2, decide_eq_true h2]; rfl
  · rw [decide_eq_false h]; rfl
theorem p_isSite_eq (ms : MS) (a : Int32) : p_X10_isSite ms a = some (b2i (siteB ms a), ms) := by
  unfold p_X10_isSite siteB
  rw [p_in_eq]
  by_cases h : 0 ≤ a ∧ a ≤ 7
  · rw [decide_eq_true h, Bool.true_and]
    obtain ⟨i, hi, rfl⟩ := i8 h
    show h_b1 (k_aI ms 14 (nI i)) (fun x3 => if x3 = -1 then some ((0 : Int32), ms) else some (1, ms)) = _
    rw [k_aI_nI (show i < k_len 14 from hi), nI_clamp (by omega)]
    show (if ms.2.1 14 i = -1 then some ((0 : Int32), ms) else some (1, ms)) = _
    by_cases h2 : ms.2.1 14 i = -1
    · rw [if_pos h2, decide_eq_false (fun z => z h2)]; rfl
    · rw [if_neg h2, decide_eq_true h2]; rfl
  · rw [decide_eq_false h]; rfl
theorem nI_m16 (s : Nat) : (16 : Int32) * nI s = nI (16 * s) := pk_mul 16 s
theorem nI_m6 (s : Nat) : (6 : Int32) * nI s = nI (6 * s) := pk_mul 6 s
theorem nI_m4 (s : Nat) : (4 : Int32) * nI s = nI (4 * s) := pk_mul 4 s
theorem nI_m8 (s : Nat) : (8 : Int32) * nI s = nI (8 * s) := pk_mul 8 s
theorem nI_a16 (s : Nat) : nI s + (16 : Int32) = nI (s + 16) := nI_add s 16
theorem nI_a6 (s : Nat) : nI s + (6 : Int32) = nI (s + 6) := nI_add s 6
def liveE (ms : MS) (k : Nat) : Bool := decide (ms.1 1 < ms.2.1 12 k)
def liveN (ms : MS) (k : Nat) : Bool := decide (ms.1 1 < ms.2.1 23 k)
theorem p_entryFor_eq (ms : MS) (b l : Int32) {s : Nat} (hs : s < 8) : p_X10_entryFor ms (nI s) b l = some (o2i (ff (fun k => liveE ms k && (decide (ms.2.1 7 k = b) && decide (ms.2.1 8 k = l))) (16 * s) 16), ms) := by
  unfold p_X10_entryFor
  have key := lp_find (fun n k => pg_X10_entryFor_6 n ms (nI s) b l k) (16 * s + 16) (fun k => liveE ms k && (decide (ms.2.1 7 k = b) && decide (ms.2.1 8 k = l))) (fun j => some (nI j, ms)) (some (-1, ms))
    (fun n => by show pg_X10_entryFor_6 (n + 1) ms (nI s) b l (nI (16 * s + 16)) = _; rw [pg_X10_entryFor_6, nI_m16, nI_a16, if_pos (Int32.le_refl _)])
    (fun n i hi => by
      show pg_X10_entryFor_6 (n + 1) ms (nI s) b l (nI i) = _
      rw [pg_X10_entryFor_6, nI_m16, nI_a16, if_neg (nI_ge hi (by omega)), k_aI_nI (show i < k_len 12 by show i < 128; omega), k_aI_nI (show i < k_len 7 by show i < 128; omega), k_aI_nI (show i < k_len 8 by show i < 128; omega), nI_1]
      show (if ms.2.1 12 i ≤ ms.1 1 then pg_X10_entryFor_6 n ms (nI s) b l (nI (i + 1)) else if ms.2.1 7 i = b then (if ms.2.1 8 i = l then some (nI i, ms) else pg_X10_entryFor_6 n ms (nI s) b l (nI (i + 1))) else pg_X10_entryFor_6 n ms (nI s) b l (nI (i + 1))) = _
      unfold liveE
      by_cases h1 : ms.2.1 12 i ≤ ms.1 1
      · rw [if_pos h1, decide_eq_false (Int32.not_lt.mpr h1)]; rfl
      · rw [if_neg h1, decide_eq_true (Int32.not_le.mp h1)]
        by_cases h2 : ms.2.1 7 i = b
        · rw [if_pos h2, decide_eq_true h2]
          by_cases h3 : ms.2.1 8 i = l
          · rw [if_pos h3, decide_eq_true h3]; rfl
          · rw [if_neg h3, decide_eq_false h3]; rfl
        · rw [if_neg h2, decide_eq_false h2]; rfl) 16 h_hN (16 * s) rfl (h_hN_lt (by omega))
  rw [nI_m16]
  refine key.trans ?_
  cases ff (fun k => liveE ms k && (decide (ms.2.1 7 k = b) && decide (ms.2.1 8 k = l))) (16 * s) 16 <;> rfl
theorem p_emptyEntry_eq (ms : MS) {s : Nat} (hs : s < 8) : p_X10_emptyEntry ms (nI s) = some (o2i (ff (fun k => !liveE ms k) (16 * s) 16), ms) := by
  unfold p_X10_emptyEntry
  have key := lp_find (fun n k => pg_X10_emptyEntry_5 n ms (nI s) k) (16 * s + 16) (fun k => !liveE ms k) (fun j => some (nI j, ms)) (some (-1, ms))
    (fun n => by show pg_X10_emptyEntry_5 (n + 1) ms (nI s) (nI (16 * s + 16)) = _; rw [pg_X10_emptyEntry_5, nI_m16, nI_a16, if_pos (Int32.le_refl _)])
    (fun n i hi => by
      show pg_X10_emptyEntry_5 (n + 1) ms (nI s) (nI i) = _
      rw [pg_X10_emptyEntry_5, nI_m16, nI_a16, if_neg (nI_ge hi (by omega)), k_aI_nI (show i < k_len 12 by show i < 128; omega), nI_1]
      show (if ms.1 1 < ms.2.1 12 i then pg_X10_emptyEntry_5 n ms (nI s) (nI (i + 1)) else some (nI i, ms)) = _
      unfold liveE
      by_cases h1 : ms.1 1 < ms.2.1 12 i
      · rw [if_pos h1, decide_eq_true h1]; rfl
      · rw [if_neg h1, decide_eq_false h1]; rfl) 16 h_hN (16 * s) rfl (h_hN_lt (by omega))
  rw [nI_m16]
  refine key.trans ?_
  cases ff (fun k => !liveE ms k) (16 * s) 16 <;> rfl
theorem p_noteFor_eq (ms : MS) (ep : Int32) {s : Nat} (hs : s < 8) (hL : ∀ k, k < 48 → Ln (ms.2.1 20 k)) : p_X10_noteFor ms (nI s) ep = some (o2i (ff (fun k => liveN ms k && ag (ln (ms.2.1 20 k)) (ms.2.1 19 k) ep) (6 * s) 6), ms) := by
  unfold p_X10_noteFor
  have key := lp_find (fun n k => pg_X10_noteFor_5 n ms (nI s) ep k) (6 * s + 6) (fun k => liveN ms k && ag (ln (ms.2.1 20 k)) (ms.2.1 19 k) ep) (fun j => some (nI j, ms)) (some (-1, ms))
    (fun n => by show pg_X10_noteFor_5 (n + 1) ms (nI s) ep (nI (6 * s + 6)) = _; rw [pg_X10_noteFor_5, nI_m6, nI_a6, if_pos (Int32.le_refl _)])
    (fun n i hi => by
      show pg_X10_noteFor_5 (n + 1) ms (nI s) ep (nI i) = _
      rw [pg_X10_noteFor_5, nI_m6, nI_a6, if_neg (nI_ge hi (by omega)), k_aI_nI (show i < k_len 23 by show i < 48; omega), k_aI_nI (show i < k_len 19 by show i < 48; omega), k_aI_nI (show i < k_len 20 by show i < 48; omega), nI_1]
      show (if ms.2.1 23 i ≤ ms.1 1 then pg_X10_noteFor_5 n ms (nI s) ep (nI (i + 1)) else k_bd (p_X10_begin ms (ms.2.1 19 i) ep (ms.2.1 20 i)) fun r4 q5 => if r4 = 0 then pg_X10_noteFor_5 n q5 (nI s) ep (nI (i + 1)) else some (nI i, q5)) = _
      unfold liveN
      by_cases h1 : ms.2.1 23 i ≤ ms.1 1
      · rw [if_pos h1, decide_eq_false (Int32.not_lt.mpr h1)]; rfl
      · rw [if_neg h1, decide_eq_true (Int32.not_le.mp h1), p_begin_L ms _ _ (hL i (by omega))]
        show (if b2i (ag (ln (ms.2.1 20 i)) (ms.2.1 19 i) ep) = 0 then pg_X10_noteFor_5 n ms (nI s) ep (nI (i + 1)) else some (nI i, ms)) = _
        cases ag (ln (ms.2.1 20 i)) (ms.2.1 19 i) ep <;> rfl) 6 h_hN (6 * s) rfl (h_hN_lt (by omega))
  rw [nI_m6]
  refine key.trans ?_
  cases ff (fun k => liveN ms k && ag (ln (ms.2.1 20 k)) (ms.2.1 19 k) ep) (6 * s) 6 <;> rfl
end
/-! from 28.find3 -/
section
theorem h_b1_s {α β : Type} {x : α} {F : α → Option β} : h_b1 (some x) F = F x := rfl
theorem k_bd_s {α β : Type} {r : α} {q : MS} {F : α → MS → Option β} : k_bd (some (r, q)) F = F r q := rfl
theorem o2i_some {o : Option Nat} {i : Nat} (hi : i < 2 ^ 31) (ho : ∀ j, o = some j → j < 2 ^ 31) : (nI i = o2i o) ↔ o = some i := by
  cases o with
  | none =>
    constructor
    · intro h
      have h2 : ¬ nI i < 0 := nI_pos hi
      rw [h] at h2
      exact absurd (by decide) h2
    · intro h; cases h
  | some j =>
    show nI i = nI j ↔ _
    rw [nI_eq hi (ho j rfl)]
    constructor
    · intro h; rw [h]
    · intro h; cases h; rfl
theorem o2i_none {o : Option Nat} (ho : ∀ j, o = some j → j < 2 ^ 31) : (o2i o = -1) ↔ o = none := by
  cases o with
  | none => simp [o2i]
  | some j =>
    constructor
    · intro h
      have h2 : ¬ nI j < 0 := nI_pos (ho j rfl)
      rw [show nI j = -1 from h] at h2
      exact absurd (by decide) h2
    · intro h; cases h
theorem Ln_le {x y : Int32} (hx : Ln x) (hy : Ln y) : x ≤ y ↔ ln x ≤ ln y := by
  obtain ⟨h1, h2⟩ := Ln_nI hx
  obtain ⟨h3, h4⟩ := Ln_nI hy
  rw [h1, h3, nI_leI (by omega) (by omega), ← h1, ← h3]
theorem Ln_lt {x y : Int32} (hx : Ln x) (hy : Ln y) : x < y ↔ ln x < ln y := by
  obtain ⟨h1, h2⟩ := Ln_nI hx
  obtain ⟨h3, h4⟩ := Ln_nI hy
  rw [h1, h3, nI_ltI (by omega) (by omega), ← h1, ← h3]
-- the best entry
def hitE (ms : MS) (ep : Int32) (k : Nat) : Bool := liveE ms k && ag (ln (ms.2.1 8 k)) (ms.2.1 7 k) ep
def bstE (ms : MS) (ep : Int32) (i : Nat) (o : Option Nat) : Option Nat := if hitE ms ep i = true then (match o with
    | none => some i
    | some j => if ms.2.1 8 i ≤ ms.2.1 8 j then some j else some i) else o
def bestE (ms : MS) (ep : Int32) (s : Nat) : Option Nat := fo (bstE ms ep) (16 * s) 16 none
theorem p_best_eq (ms : MS) (ep : Int32) {s : Nat} (hs : s < 8) (hL : ∀ k, k < 128 → Ln (ms.2.1 8 k)) : p_X10_best ms (nI s) ep = some (o2i (bestE ms ep s), ms) := by
  unfold p_X10_best
  have key := lp_fold (S := Option Nat) (fun n o k => pg_X10_best_8 n ms (nI s) ep (o2i o) k) (16 * s + 16) (bstE ms ep) (fun o => some (o2i o, ms)) (fun i o => ∀ j, o = some j → j < i)
    (fun i o hi ho j hj => by
      unfold bstE at hj
      by_cases h : hitE ms ep i = true
      · rw [if_pos h] at hj
        cases o with
        | none => cases hj; omega
        | some j' =>
          have h9 := ho j' rfl
          dsimp only at hj
          by_cases h2 : ms.2.1 8 i ≤ ms.2.1 8 j'
          · rw [if_pos h2] at hj; cases hj; omega
          · rw [if_neg h2] at hj; cases hj; omega
      · rw [if_neg h] at hj
        have := ho j hj
        omega)
    (fun n o ho => by show pg_X10_best_8 (n + 1) ms (nI s) ep (o2i o) (nI (16 * s + 16)) = _; rw [pg_X10_best_8, nI_m16, nI_a16, if_pos (Int32.le_refl _)])
    (fun n i o hi ho => by
      show pg_X10_best_8 (n + 1) ms (nI s) ep (o2i o) (nI i) = pg_X10_best_8 n ms (nI s) ep (o2i (bstE ms ep i o)) (nI (i + 1))
      rw [pg_X10_best_8, nI_m16, nI_a16, if_neg (nI_ge hi (by omega)), k_aI_nI (show i < k_len 12 by show i < 128; omega), k_aI_nI (show i < k_len 7 by show i < 128; omega), k_aI_nI (show i < k_len 8 by show i < 128; omega), nI_1]
      unfold bstE hitE liveE
      simp only [h_b1_s]
      by_cases h1 : ms.2.1 12 i ≤ ms.1 1
      · rw [if_pos h1, decide_eq_false (Int32.not_lt.mpr h1)]; rfl
      · rw [if_neg h1, decide_eq_true (Int32.not_le.mp h1), p_begin_L ms _ _ (hL i (by omega))]
        simp only [k_bd_s]
        cases hag : ag (ln (ms.2.1 8 i)) (ms.2.1 7 i) ep
        · rfl
        · rw [if_neg (by decide)]
          simp only [Bool.and_self, if_true]
          cases o with
          | none => rw [if_pos (show o2i none = -1 from rfl)]; rfl
          | some j =>
            have hj := ho j rfl
            rw [if_neg (fun z => by have := (o2i_none (o := some j) (fun j' h' => by cases h'; omega)).mp z; cases this)]
            show h_b1 (k_aI ms 8 (nI i)) (fun x6 => h_b1 (k_aI ms 8 (nI j)) fun x7 => if x6 ≤ x7 then pg_X10_best_8 n ms (nI s) ep (nI j) (nI (i + 1)) else pg_X10_best_8 n ms (nI s) ep (nI i) (nI (i + 1))) = _
            rw [k_aI_nI (show i < k_len 8 by show i < 128; omega), k_aI_nI (show j < k_len 8 by show j < 128; omega)]
            show (if ms.2.1 8 i ≤ ms.2.1 8 j then pg_X10_best_8 n ms (nI s) ep (nI j) (nI (i + 1)) else pg_X10_best_8 n ms (nI s) ep (nI i) (nI (i + 1))) = _
            by_cases h3 : ms.2.1 8 i ≤ ms.2.1 8 j
            · rw [if_pos h3]; simp only [h3, if_true]; rfl
            · rw [if_neg h3]; simp only [h3, if_false]; rfl) 16 h_hN (16 * s) none (fun j h => by cases h) rfl (h_hN_lt (by omega))
  rw [nI_m16]
  exact key
theorem bestE_spec (ms : MS) (ep : Int32) (s : Nat) (hs : s < 8) (hL : ∀ k, k < 128 → Ln (ms.2.1 8 k)) : (∀ j, bestE ms ep s = some j → (16 * s ≤ j ∧ j < 16 * s + 16) ∧ hitE ms ep j = true ∧ ∀ k, 16 * s ≤ k → k < 16 * s + 16 → hitE ms ep k = true → ln (ms.2.1 8 k) ≤ ln (ms.2.1 8 j)) ∧ (bestE ms ep s = none → ∀ k, 16 * s ≤ k → k < 16 * s + 16 → hitE ms ep k = false) := by
  have inv := fo_inv (step := bstE ms ep) (c := 16) (i := 16 * s) (s := none) (fun i o => i ≤ 16 * s + 16 → (∀ j, o = some j → (16 * s ≤ j ∧ j < i) ∧ hitE ms ep j = true ∧ ∀ k, 16 * s ≤ k → k < i → hitE ms ep k = true → ln (ms.2.1 8 k) ≤ ln (ms.2.1 8 j)) ∧ (o = none → ∀ k, 16 * s ≤ k → k < i → hitE ms ep k = false))
    (fun i o h1 h2 ih _ => by
      obtain ⟨ih1, ih2⟩ := ih (by omega)
      unfold bstE
      by_cases h : hitE ms ep i = true
      · rw [if_pos h]
        cases o with
        | none =>
          refine ⟨fun j hj => ?_, fun z => by cases z⟩
          cases hj
          refine ⟨⟨h1, by omega⟩, h, fun k k1 k2 k3 => ?_⟩
          by_cases e : k = i
          · rw [e]; exact Nat.le_refl _
          · rw [ih2 rfl k k1 (by omega)] at k3; cases k3
        | some j' =>
          obtain ⟨⟨a1, a2⟩, a3, a4⟩ := ih1 j' rfl
          dsimp only
          by_cases h3 : ms.2.1 8 i ≤ ms.2.1 8 j'
          · rw [if_pos h3]
            refine ⟨fun j hj => ?_, fun z => by cases z⟩
            cases hj
            refine ⟨⟨a1, by omega⟩, a3, fun k k1 k2 k3 => ?_⟩
            by_cases e : k = i
            · rw [e]; exact (Ln_le (hL i (by omega)) (hL j' (by omega))).mp h3
            · exact a4 k k1 (by omega) k3
          · rw [if_neg h3]
            refine ⟨fun j hj => ?_, fun z => by cases z⟩
            cases hj
            refine ⟨⟨h1, by omega⟩, h, fun k k1 k2 k3 => ?_⟩
            by_cases e : k = i
            · rw [e]; exact Nat.le_refl _
            · have b1 := a4 k k1 (by omega) k3
              have b2 : ¬ ln (ms.2.1 8 i) ≤ ln (ms.2.1 8 j') := fun z => h3 ((Ln_le (hL i (by omega)) (hL j' (by omega))).mpr z)
              omega
      · rw [if_neg h]
        have hf : hitE ms ep i = false := by simpa using h
        refine ⟨fun j hj => ?_, fun z k k1 k2 => ?_⟩
        · obtain ⟨⟨a1, a2⟩, a3, a4⟩ := ih1 j hj
          refine ⟨⟨a1, by omega⟩, a3, fun k k1 k2 k3 => ?_⟩
          by_cases e : k = i
          · rw [e, hf] at k3; cases k3
          · exact a4 k k1 (by omega) k3
        · by_cases e : k = i
          · rw [e]; exact hf
          · exact ih2 z k k1 (by omega))
    (fun _ => ⟨(fun j h => nomatch h), (fun _ k k1 k2 => by omega)⟩)
  exact inv (by omega)
end
/-! from 29.find4 -/
section
def vpB (b l : Int32) : Bool := decide (0 ≤ l ∧ l ≤ 32) && vb l.toNatClampNeg b
theorem i32 {a : Int32} (h : 0 ≤ a ∧ a ≤ 32) : ∃ i : Nat, i ≤ 32 ∧ a = nI i := by
  obtain ⟨j, h1, h2⟩ := nI_of2 (M := 32) (n := 32) (by decide) (Int32.not_lt.mpr h.1) h.2
  exact ⟨j, h1, h2⟩
theorem bt_and_m1 (b : Int32) : b &&& ((0 : Int32) ^^^ (-1)) = b := b_ext (fun i hi => by rw [b_and, b_xor, b_0, b_m1 i hi]; simp)
theorem shl_vb {n : Nat} {b : Int32} (h0 : n < 32) : (b <<< (nI n &&& 31) = 0) ↔ vb n b = true := by
  rw [vb_iff (by omega)]
  constructor
  · intro h i hi h1
    have h2 : bt (b <<< (nI n &&& 31)) (i + n) = bt 0 (i + n) := by rw [h]
    rw [b_shl n h0 b (by omega), b_0, decide_eq_true (show n ≤ i + n by omega), Bool.true_and, Nat.add_sub_cancel] at h2
    exact h2
  · intro h
    apply b_ext
    intro i hi
    rw [b_shl n h0 b hi, b_0]
    by_cases h1 : n ≤ i
    · rw [h (i - n) (by omega) (by omega), Bool.and_false]
    · rw [decide_eq_false h1, Bool.false_and]
theorem p_isPrefix_eq (ms : MS) (b l : Int32) : p_X10_isPrefix ms b l = some (b2i (vpB b l), ms) := by
  unfold p_X10_isPrefix vpB
  rw [p_in_eq, k_bd_s]
  by_cases h : 0 ≤ l ∧ l ≤ 32
  · rw [decide_eq_true h, Bool.true_and, if_neg (by decide)]
    obtain ⟨n, hn, rfl⟩ := i32 h
    rw [nI_clamp (by omega)]
    by_cases h0 : n = 0
    · subst h0
      rw [if_pos (by decide)]
      unfold vb mk
      rw [if_pos rfl, bt_and_m1]
      by_cases hb : b = 0
      · rw [if_pos hb, decide_eq_true hb]; rfl
      · rw [if_neg hb, decide_eq_false hb]; rfl
    · rw [if_neg (nI_ne0 (by omega) (by omega))]
      by_cases h32 : n = 32
      · subst h32
        rw [if_pos (by decide), (vb_iff (n := 32) (b := b) (by omega)).mpr (fun i h1 h2 => by omega)]; rfl
      · rw [if_neg (show ¬ nI n = (32 : Int32) from fun z => h32 ((nI_eq (a := n) (b := 32) (by omega) (by omega)).mp z))]
        by_cases hb : vb n b = true
        · rw [if_pos ((shl_vb (by omega)).mpr hb), hb]; rfl
        · rw [if_neg (fun z => hb ((shl_vb (by omega)).mp z))]
          simp only [Bool.not_eq_true] at hb
          rw [hb]; rfl
  · rw [decide_eq_false h]; rfl
theorem b_one {i : Nat} (hi : i < 32) : bt 1 i = decide (i = 0) := (show ∀ i, i < 32 → bt 1 i = decide (i = 0) by decide +kernel) i hi
theorem mk32 : mk 32 = -1 := b_ext (fun i hi => by rw [bt_mk (by omega) hi, b_m1 i hi]; simp)
theorem cutS {j : Nat} (hj : j < 32) (x : Int32) : (x &&& ((1 <<< (nI (31 - j) &&& 31)) ^^^ (-1))) &&& mk (j + 1) = x &&& mk j := by
  apply b_ext
  intro i hi
  rw [b_and, b_and, b_and, b_xor, b_shl (31 - j) (by omega) 1 hi, b_m1 i hi, bt_mk (by omega) hi, bt_mk (by omega) hi]
  by_cases h1 : 31 - j ≤ i
  · rw [decide_eq_true h1, b_one (by omega), Bool.true_and]
    by_cases h2 : i = 31 - j
    · rw [decide_eq_true (show i - (31 - j) = 0 by omega), decide_eq_false (show ¬ 32 - j ≤ i by omega)]; simp
    · rw [decide_eq_false (show ¬ i - (31 - j) = 0 by omega), decide_eq_true (show 32 - j ≤ i by omega), decide_eq_true (show 32 - (j + 1) ≤ i by omega)]; simp
  · rw [decide_eq_false h1, decide_eq_false (show ¬ 32 - j ≤ i by omega), decide_eq_false (show ¬ 32 - (j + 1) ≤ i by omega)]; simp
theorem pg_cutTo : ∀ (c n j : Nat) (ms : MS) (x : Int32), j + c = 32 → c < n → pg_X10_cutTo_4 n ms x (nI j) = some (x &&& mk j, ms) := by
  intro c
  induction c with
  | zero =>
    intro n j ms x h1 h2
    obtain ⟨n', rfl⟩ : ∃ n', n = n' + 1 := ⟨n - 1, by omega⟩
    have : j = 32 := by omega
    subst this
    rw [pg_X10_cutTo_4, if_pos (by decide), mk32]
    congr 2
    exact b_ext (fun i hi => by rw [b_and, b_m1 i hi, Bool.and_true])
  | succ c ih =>
    intro n j ms x h1 h2
    obtain ⟨n', rfl⟩ : ∃ n', n = n' + 1 := ⟨n - 1, by omega⟩
    rw [pg_X10_cutTo_4, if_neg (show ¬ (32 : Int32) ≤ nI j from nI_ge (b := 32) (by omega) (by omega)), show (31 : Int32) - nI j = nI (31 - j) from pk_sub (a := 31) (by omega), nI_1, ih n' (j + 1) ms _ (by omega) (by omega), cutS (by omega)]
theorem p_cutTo_eq (ms : MS) (e : Int32) {n : Nat} (hn : n ≤ 32) : p_X10_cutTo ms e (nI n) = some (e &&& mk n, ms) := pg_cutTo (32 - n) h_hN n ms e (by omega) (h_hN_lt (by omega))
-- other entries, or children, in the prefix of length n round an endpoint
def inE (ms : MS) (ep : Int32) (n : Nat) (but : Option Nat) (k : Nat) : Bool := !decide (but = some k) && (liveE ms k && (decide (n ≤ ln (ms.2.1 8 k)) && ag n ep (ms.2.1 7 k)))
def inC (ms : MS) (s : Nat) (ep : Int32) (n : Nat) (c : Nat) : Bool := decide (ms.2.1 6 c = nI s) && (decide (n ≤ ln (ms.2.1 5 c)) && ag n ep (ms.2.1 4 c))
def crowd (ms : MS) (s : Nat) (ep : Int32) (n : Nat) (but : Option Nat) : Bool := (ff (inE ms ep n but) (16 * s) 16).isSome || (ff (inC ms s ep n) 0 8).isSome
theorem p_isCrowded_eq (ms : MS) (ep : Int32) (but : Option Nat) {s n : Nat} (hs : s < 8) (hn : n ≤ 32) (hb : ∀ j, but = some j → j < 128) (hL : ∀ k, k < 128 → Ln (ms.2.1 8 k)) (hP : ∀ k, k < 8 → Ln (ms.2.1 5 k)) : p_X10_isCrowded ms (nI s) ep (nI n) (o2i but) = some (b2i (crowd ms s ep n but), ms) := by
  unfold p_X10_isCrowded
  have hLn : Ln (nI n) := ⟨n, hn, rfl⟩
  have hln : ln (nI n) = n := nI_clamp (by omega)
  have key2 := lp_find (fun m k => pg_X10_isCrowded_72 m ms (nI s) ep (nI n) k) 8 (inC ms s ep n) (fun _ => some (1, ms)) (some (0, ms))
    (fun m => by show pg_X10_isCrowded_72 (m + 1) ms (nI s) ep (nI n) (nI 8) = _; rw [pg_X10_isCrowded_72, if_pos (by decide)])
    (fun m i hi => by
      show pg_X10_isCrowded_72 (m + 1) ms (nI s) ep (nI n) (nI i) = _
      rw [pg_X10_isCrowded_72, if_neg (show ¬ (8 : Int32) ≤ nI i from nI_ge (b := 8) hi (by omega)), k_aI_nI (show i < k_len 6 from hi), k_aI_nI (show i < k_len 4 from hi), k_aI_nI (show i < k_len 5 from hi), nI_1]
      simp only [h_b1_s]
      unfold inC
      by_cases h1 : ms.2.1 6 i = nI s
      · rw [if_pos h1, decide_eq_true h1, p_holds_L ms _ _ hLn (hP i hi), hln, k_bd_s]
        cases (decide (n ≤ ln (ms.2.1 5 i)) && ag n ep (ms.2.1 4 i)) <;> rfl
      · rw [if_neg h1, decide_eq_false h1]; rfl) 8 h_hN 0 rfl (h_hN_lt (by omega))
  have key := lp_find (fun m k => pg_X10_isCrowded_6 m ms (nI s) ep (nI n) (o2i but) k) (16 * s + 16) (inE ms ep n but) (fun _ => some (1, ms)) (pg_X10_isCrowded_72 h_hN ms (nI s) ep (nI n) 0)
    (fun m => by show pg_X10_isCrowded_6 (m + 1) ms (nI s) ep (nI n) (o2i but) (nI (16 * s + 16)) = _; rw [pg_X10_isCrowded_6, nI_m16, nI_a16, if_pos (Int32.le_refl _)])
    (fun m i hi => by
      show pg_X10_isCrowded_6 (m + 1) ms (nI s) ep (nI n) (o2i but) (nI i) = _
      rw [pg_X10_isCrowded_6, nI_m16, nI_a16, if_neg (nI_ge hi (by omega)), k_aI_nI (show i < k_len 12 by show i < 128; omega), k_aI_nI (show i < k_len 7 by show i < 128; omega), k_aI_nI (show i < k_len 8 by show i < 128; omega), nI_1]
      simp only [h_b1_s]
      unfold inE liveE
      by_cases h0 : nI i = o2i but
      · have hbut := (o2i_some (by omega) (fun j hj => by have := hb j hj; omega)).mp h0
        rw [if_pos h0, decide_eq_true hbut]; rfl
      · have hbut : ¬ but = some i := fun z => h0 ((o2i_some (by omega) (fun j hj => by have := hb j hj; omega)).mpr z)
        rw [if_neg h0, decide_eq_false hbut]
        by_cases h1 : ms.2.1 12 i ≤ ms.1 1
        · rw [if_pos h1, decide_eq_false (Int32.not_lt.mpr h1)]; rfl
        · rw [if_neg h1, decide_eq_true (Int32.not_le.mp h1), p_holds_L ms _ _ hLn (hL i (by omega)), hln, k_bd_s]
          cases (decide (n ≤ ln (ms.2.1 8 i)) && ag n ep (ms.2.1 7 i)) <;> rfl) 16 h_hN (16 * s) rfl (h_hN_lt (by omega))
  rw [nI_m16]
  refine key.trans ?_
  unfold crowd
  cases ff (inE ms ep n but) (16 * s) 16 with
  | some j => rfl
  | none =>
    show pg_X10_isCrowded_72 h_hN ms (nI s) ep (nI n) (nI 0) = _
    refine key2.trans ?_
    cases ff (inC ms s ep n) 0 8 <;> rfl
-- a site's own prefixes
theorem p_hasEndpoint_eq (ms : MS) (ep : Int32) {s c : Nat} (hs : s < 8) (hc : ms.2.1 15 s = nI c) (hc4 : c ≤ 4) (hL : ∀ k, k < 32 → Ln (ms.2.1 17 k)) : p_X10_hasEndpoint ms (nI s) ep = some (b2i (ff (fun k => ag (ln (ms.2.1 17 k)) (ms.2.1 16 k) ep) (4 * s) c).isSome, ms) := by
  unfold p_X10_hasEndpoint
  have key := lp_find (fun n k => pg_X10_hasEndpoint_4 n ms (nI s) ep k) (4 * s + c) (fun k => ag (ln (ms.2.1 17 k)) (ms.2.1 16 k) ep) (fun _ => some (1, ms)) (some (0, ms))
    (fun n => by
      show pg_X10_hasEndpoint_4 (n + 1) ms (nI s) ep (nI (4 * s + c)) = _
      rw [pg_X10_hasEndpoint_4, k_aI_nI (show s < k_len 15 from hs), h_b1_s, hc, nI_m4, nI_add, if_pos (Int32.le_refl _)])
    (fun n i hi => by
      show pg_X10_hasEndpoint_4 (n + 1) ms (nI s) ep (nI i) = _
      rw [pg_X10_hasEndpoint_4, k_aI_nI (show s < k_len 15 from hs), h_b1_s, hc, nI_m4, nI_add, if_neg (nI_ge hi (by omega)), k_aI_nI (show i < k_len 16 by show i < 32; omega), k_aI_nI (show i < k_len 17 by show i < 32; omega), nI_1]
      simp only [h_b1_s]
      rw [p_begin_L ms _ _ (hL i (by omega)), k_bd_s]
      cases ag (ln (ms.2.1 17 i)) (ms.2.1 16 i) ep <;> rfl) c h_hN (4 * s) rfl (h_hN_lt (by omega))
  rw [nI_m4]
  refine key.trans ?_
  cases ff (fun k => ag (ln (ms.2.1 17 k)) (ms.2.1 16 k) ep) (4 * s) c <;> rfl
-- whose own a prefix is
def ownS (ms : MS) (b : Int32) (n : Nat) (i : Nat) (w : Nat) : Nat := if (decide (¬ ms.2.1 3 i = 0) && (decide (ln (ms.2.1 5 i) ≤ n) && ag (ln (ms.2.1 5 i)) (ms.2.1 4 i) b)) = true then (if ms.2.1 5 i < ms.2.1 5 w then w else i) else w
def ownW (ms : MS) (b : Int32) (n : Nat) : Nat := fo (ownS ms b n) 0 8 0
def ownX (ms : MS) (b : Int32) (n : Nat) (w : Nat) (i : Nat) : Bool := !decide (i = w) && (decide (¬ ms.2.1 3 i = 0) && (decide (n ≤ ln (ms.2.1 5 i)) && ag n b (ms.2.1 4 i)))
def ownE (ms : MS) (b : Int32) (n : Nat) : Option Nat := match ff (ownX ms b n (ownW ms b n)) 0 8 with
  | none => some (ownW ms b n)
  | some _ => none
theorem p_owner_eq (ms : MS) (b : Int32) {n : Nat} (hn : n ≤ 32) (hP : ∀ k, k < 8 → Ln (ms.2.1 5 k)) : p_X10_owner ms b (nI n) = some (o2i (ownE ms b n), ms) := by
  unfold p_X10_owner
  have hLn : Ln (nI n) := ⟨n, hn, rfl⟩
  have hln : ln (nI n) = n := nI_clamp (by omega)
  have key2 : ∀ w : Nat, w < 8 → pg_X10_owner_72 h_hN ms b (nI n) (nI w) 0 = some (o2i (match ff (ownX ms b n w) 0 8 with
      | none => some w
      | some _ => none), ms) := by
    intro w hw
    have key := lp_find (fun m k => pg_X10_owner_72 m ms b (nI n) (nI w) k) 8 (ownX ms b n w) (fun _ => some (-1, ms)) (some (nI w, ms))
      (fun m => by show pg_X10_owner_72 (m + 1) ms b (nI n) (nI w) (nI 8) = _; rw [pg_X10_owner_72, if_pos (by decide)])
      (fun m i hi => by
        show pg_X10_owner_72 (m + 1) ms b (nI n) (nI w) (nI i) = _
        rw [pg_X10_owner_72, if_neg (show ¬ (8 : Int32) ≤ nI i from nI_ge (b := 8) hi (by omega)), k_aI_nI (show i < k_len 3 from hi), k_aI_nI (show i < k_len 4 from hi), k_aI_nI (show i < k_len 5 from hi), nI_1]
        simp only [h_b1_s]
        unfold ownX
        by_cases h0 : i = w
        · rw [if_pos (by rw [h0]), decide_eq_true h0]; rfl
        · rw [if_neg (fun z => h0 ((nI_eq (by omega) (by omega)).mp z)), decide_eq_false h0]
          by_cases h1 : ms.2.1 3 i = 0
          · rw [if_pos h1, decide_eq_false (fun z => z h1)]; rfl
          · rw [if_neg h1, decide_eq_true h1, p_holds_L ms _ _ hLn (hP i hi), hln, k_bd_s]
            cases (decide (n ≤ ln (ms.2.1 5 i)) && ag n b (ms.2.1 4 i)) <;> rfl) 8 h_hN 0 rfl (h_hN_lt (by omega))
    refine key.trans ?_
    cases ff (ownX ms b n w) 0 8 <;> rfl
  have key := lp_fold (S := Nat) (fun m w k => pg_X10_owner_5 m ms b (nI n) (nI w) k) 8 (ownS ms b n) (fun w => some (o2i (match ff (ownX ms b n w) 0 8 with
      | none => some w
      | some _ => none), ms)) (fun _ w => w < 8)
    (fun i w hi hw => by
      unfold ownS
      split
      · split
        · exact hw
        · exact hi
      · exact hw)
    (fun m w hw => by show pg_X10_owner_5 (m + 1) ms b (nI n) (nI w) (nI 8) = _; rw [pg_X10_owner_5, if_pos (by decide)]; exact key2 w hw)
    (fun m i w hi hw => by
      show pg_X10_owner_5 (m + 1) ms b (nI n) (nI w) (nI i) = pg_X10_owner_5 m ms b (nI n) (nI (ownS ms b n i w)) (nI (i + 1))
      rw [pg_X10_owner_5, if_neg (show ¬ (8 : Int32) ≤ nI i from nI_ge (b := 8) hi (by omega)), k_aI_nI (show i < k_len 3 from hi), k_aI_nI (show i < k_len 4 from hi), k_aI_nI (show i < k_len 5 from hi), nI_1]
      simp only [h_b1_s]
      unfold ownS
      by_cases h1 : ms.2.1 3 i = 0
      · rw [if_pos h1, decide_eq_false (fun z => z h1)]; rfl
      · rw [if_neg h1, decide_eq_true h1, p_holds_L ms _ _ (hP i hi) hLn, hln, k_bd_s, Bool.true_and]
        cases hh : (decide (ln (ms.2.1 5 i) ≤ n) && ag (ln (ms.2.1 5 i)) (ms.2.1 4 i) b)
        · rfl
        · rw [if_neg (by decide), k_aI_nI (show i < k_len 5 from hi), k_aI_nI (show w < k_len 5 from hw), h_b1_s, h_b1_s]
          simp only [if_true]
          by_cases h3 : ms.2.1 5 i < ms.2.1 5 w
          · rw [if_pos h3, if_pos h3]
          · rw [if_neg h3, if_neg h3]) 8 h_hN 0 0 (by omega) rfl (h_hN_lt (by omega))
  exact key
end
