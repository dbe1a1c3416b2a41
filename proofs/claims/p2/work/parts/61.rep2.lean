/-! SITES AND THEIR NOTES; the two sides held together -/
/-- a note's five numbers: bits, length, place, version, end -/
abbrev N5 : Type := Int32 × Int32 × Int32 × Int32 × Int32
def nV (σ : HS) (a : Nat) : N5 := (h_iv σ ((h_rv σ a 0).getD 0) 0, h_iv σ ((h_rv σ a 0).getD 0) 1, h_iv σ a 1, h_iv σ a 2, h_iv σ a 3)
def nOk (σ : HS) (a : Nat) : Prop := h_tg σ a = 2 ∧ ∃ p b n, h_rv σ a 0 = some p ∧ hP σ p b n
theorem nOk.to {σ σ' : HS} {a : Nat} (h : nOk σ a) (ht : ∀ b, h_tg σ b = 2 ∨ h_tg σ b = 5 → Sm σ σ' b) : nOk σ' a ∧ nV σ' a = nV σ a := by
  obtain ⟨h1, p, b, n, h2, h3⟩ := h
  have s1 := ht a (Or.inl h1)
  have s2 := ht p (Or.inr h3.1)
  have er : h_rv σ' a 0 = some p := by rw [s1.2.2.2.1]; exact h2
  refine ⟨⟨by rw [s1.1]; exact h1, p, b, n, er, h3.to s2⟩, ?_⟩
  unfold nV
  rw [er, h2, s1.2.2.1, s1.2.2.1, s1.2.2.1]
  show (h_iv σ' p 0, h_iv σ' p 1, _) = (h_iv σ p 0, h_iv σ p 1, _)
  rw [s2.2.2.1, s2.2.2.1]
/-- those of a range for which P holds -/
def lL {α : Type} (P : α → Bool) (f : Nat → Option α) : Nat → Nat → List α
  | _, 0 => []
  | i, c + 1 => match f i with
    | some q => if P q = true then q :: lL P f (i + 1) c else lL P f (i + 1) c
    | none => lL P f (i + 1) c
theorem lL_congr {α : Type} {P : α → Bool} {f f' : Nat → Option α} : ∀ (c i : Nat), (∀ j, i ≤ j → j < i + c → f j = f' j) → lL P f i c = lL P f' i c
  | 0, i, _ => rfl
  | c + 1, i, h => by
    unfold lL
    rw [h i (Nat.le_refl i) (by omega), lL_congr c (i + 1) (fun j h1 h2 => h j (by omega) (by omega))]
def nC (σ : HS) (e : Nat) (j : Nat) : Option N5 := (h_rv σ e j).map (nV σ)
def nM (ms : MS) (k : Nat) : Option (N5 × Int32) := some ((ms.2.1 19 k, ms.2.1 20 k, ms.2.1 21 k, ms.2.1 22 k, ms.2.1 23 k), ms.2.1 24 k)
def nP (now : Int32) (q : N5) : Bool := decide (now < q.2.2.2.2)
/-- two notes are one, but for the version of a HOLE that is held loosely -/
def nR (fx : Bool) (q r : N5) : Prop := q.1 = r.1 ∧ q.2.1 = r.2.1 ∧ q.2.2.1 = r.2.2.1 ∧ q.2.2.2.2 = r.2.2.2.2 ∧ (q.2.2.2.1 = r.2.2.2.1 ∨ (fx = false ∧ q.2.2.1 = -1))
def fa2 {α β : Type} (R : α → β → Prop) : List α → List β → Prop
  | [], [] => True
  | a :: l, b :: r => R a b ∧ fa2 R l r
  | _, _ => False
/-- the notes of a site: on the one side in the order of their making, on the other with a number for it -/
def NtR (fx : Bool) (cl : List N5) (rl : List (N5 × Int32)) : Prop := ∃ L : List (N5 × Int32), L.Perm rl ∧ L.Pairwise (fun a b => a.2 < b.2) ∧ fa2 (fun q r => nR fx q r.1) cl L
def SiR (fx : Bool) (σ : HS) (G : Nat → Nat → Nat) (ms : MS) (s : Nat) : Prop := h_tg σ (G 3 s) = 8 ∧ h_iv σ (G 3 s) 0 = ms.2.1 14 s ∧ h_iv σ (G 3 s) 1 = ms.2.1 18 s ∧ h_iv σ (G 3 s) 3 = ms.2.1 15 s ∧ (h_rv σ (G 3 s) 2 = some (G 4 s) ∧ h_tg σ (G 4 s) = 106 ∧ h_ln σ (G 4 s) = 4) ∧
  (∃ c, c ≤ 4 ∧ ms.2.1 15 s = nI c ∧ ∀ k, k < c → ∃ p n, h_rv σ (G 4 s) k = some p ∧ ms.2.1 17 (4 * s + k) = nI n ∧ hP σ p (ms.2.1 16 (4 * s + k)) n) ∧ (h_rv σ (G 3 s) 4 = some (G 5 s) ∧ h_tg σ (G 5 s) = 3) ∧ (h_rv σ (G 5 s) 0 = some (G 6 s) ∧ h_tg σ (G 6 s) = 104 ∧ h_ln σ (G 6 s) = 6) ∧
  ∃ z, z ≤ 6 ∧ h_iv σ (G 5 s) 1 = nI z ∧ (∀ j, j < z → ∃ a, h_rv σ (G 6 s) j = some a ∧ nOk σ a) ∧ NtR fx (lL (nP (ms.1 1)) (nC σ (G 6 s)) 0 z) (lL (fun q => nP (ms.1 1) q.1) (nM ms) (6 * s) 6)
theorem SiR.to {fx : Bool} {σ σ' : HS} {G : Nat → Nat → Nat} {ms ms' : MS} {s : Nat} (h : SiR fx σ G ms s) (ht : ∀ b, h_tg σ b = 2 ∨ h_tg σ b = 3 ∨ h_tg σ b = 5 ∨ h_tg σ b = 8 ∨ h_tg σ b = 104 ∨ h_tg σ b = 106 → Sm σ σ' b) (e1 : ms'.1 1 = ms.1 1) (e2 : ∀ k j, 14 ≤ k → k ≤ 24 → ms'.2.1 k j = ms.2.1 k j) : SiR fx σ' G ms' s := by
  obtain ⟨a1, a2, a3, a4, ⟨a5, a6, a7⟩, ⟨c, c1, c2, c3⟩, ⟨a8, a9⟩, ⟨b1, b2, b3⟩, z, z1, z2, z3, z4⟩ := h
  have s3 := ht (G 3 s) (by rw [a1]; decide)
  have s4 := ht (G 4 s) (by rw [a6]; decide)
  have s5 := ht (G 5 s) (by rw [a9]; decide)
  have s6 := ht (G 6 s) (by rw [b2]; decide)
  have h25 : ∀ b, h_tg σ b = 2 ∨ h_tg σ b = 5 → Sm σ σ' b := fun b hb => ht b (by rcases hb with h | h <;> rw [h] <;> decide)
  refine ⟨by rw [s3.1]; exact a1, by rw [s3.2.2.1, e2 14 s (by omega) (by omega)]; exact a2, by rw [s3.2.2.1, e2 18 s (by omega) (by omega)]; exact a3, by rw [s3.2.2.1, e2 15 s (by omega) (by omega)]; exact a4, ⟨by rw [s3.2.2.2.1]; exact a5, by rw [s4.1]; exact a6, by rw [s4.2.1]; exact a7⟩, ⟨c, c1, by rw [e2 15 s (by omega) (by omega)]; exact c2, fun k hk => ?_⟩, ⟨by rw [s3.2.2.2.1]; exact a8, by rw [s5.1]; exact a9⟩, ⟨by rw [s5.2.2.2.1]; exact b1, by rw [s6.1]; exact b2, by rw [s6.2.1]; exact b3⟩, z, z1, by rw [s5.2.2.1]; exact z2, fun j hj => ?_, ?_⟩
  · obtain ⟨p, n, d1, d2, d3⟩ := c3 k hk
    exact ⟨p, n, by rw [s4.2.2.2.1]; exact d1, by rw [e2 17 _ (by omega) (by omega)]; exact d2, by rw [e2 16 _ (by omega) (by omega)]; exact d3.to (ht p (by rw [d3.1]; decide))⟩
  · obtain ⟨a, d1, d2⟩ := z3 j hj
    exact ⟨a, by rw [s6.2.2.2.1]; exact d1, (d2.to h25).1⟩
  · have ec : lL (nP (ms'.1 1)) (nC σ' (G 6 s)) 0 z = lL (nP (ms.1 1)) (nC σ (G 6 s)) 0 z := by
      rw [e1]
      refine lL_congr z 0 (fun j _ hj => ?_)
      obtain ⟨a, d1, d2⟩ := z3 j (by omega)
      unfold nC
      rw [s6.2.2.2.1, d1]
      exact congrArg some (d2.to h25).2
    have em : lL (fun q => nP (ms'.1 1) q.1) (nM ms') (6 * s) 6 = lL (fun q => nP (ms.1 1) q.1) (nM ms) (6 * s) 6 := by
      rw [e1]
      refine lL_congr 6 (6 * s) (fun j _ hj => ?_)
      unfold nM
      rw [e2 19 j (by omega) (by omega), e2 20 j (by omega) (by omega), e2 21 j (by omega) (by omega), e2 22 j (by omega) (by omega), e2 23 j (by omega) (by omega), e2 24 j (by omega) (by omega)]
    rw [ec, em]
    exact z4
def Tx (fx : Bool) (σ : HS) (x : Nat) (G : Nat → Nat → Nat) (ms : MS) : Prop := (∀ i j, i < 8 → j < 8 → ¬ ms.2.1 14 i = -1 → ¬ ms.2.1 14 j = -1 → (G 3 i = G 3 j ∨ G 4 i = G 4 j ∨ G 5 i = G 5 j ∨ G 6 i = G 6 j) → i = j) ∧ ∀ s, s < 8 → (ms.2.1 14 s = -1 → h_rv σ (x + 7) s = none) ∧ (¬ ms.2.1 14 s = -1 → h_rv σ (x + 7) s = some (G 3 s) ∧ SiR fx σ G ms s)
theorem Tx.to {fx : Bool} {σ σ' : HS} {x : Nat} {G : Nat → Nat → Nat} {ms ms' : MS} (T : Tx fx σ x G ms) (h7 : Sm σ σ' (x + 7)) (ht : ∀ b, h_tg σ b = 2 ∨ h_tg σ b = 3 ∨ h_tg σ b = 5 ∨ h_tg σ b = 8 ∨ h_tg σ b = 104 ∨ h_tg σ b = 106 → Sm σ σ' b) (e1 : ms'.1 1 = ms.1 1) (e2 : ∀ k j, 14 ≤ k → k ≤ 24 → ms'.2.1 k j = ms.2.1 k j) : Tx fx σ' x G ms' := by
  obtain ⟨t1, t2⟩ := T
  have e14 : ∀ i, ms'.2.1 14 i = ms.2.1 14 i := fun i => e2 14 i (by omega) (by omega)
  refine ⟨fun i j hi hj p1 p2 h => t1 i j hi hj (by rw [← e14]; exact p1) (by rw [← e14]; exact p2) h, fun s hs => ⟨fun h => ?_, fun h => ?_⟩⟩
  · rw [h7.2.2.2.1]; exact (t2 s hs).1 (by rw [← e14]; exact h)
  · obtain ⟨a1, a2⟩ := (t2 s hs).2 (by rw [← e14]; exact h)
    exact ⟨by rw [h7.2.2.2.1]; exact a1, a2.to ht e1 e2⟩
/-- nothing bears a tag behind the heap's end; the other side's cells are what they are -/
def Zx (σ : HS) (x : Nat) : Prop := x + 50 ≤ h_sz σ ∧ (∀ a, h_sz σ ≤ a → h_tg σ a = 0) ∧ ∀ a, x + 15 ≤ a → a ≤ x + 49 → h_tg σ a = 11 ∨ h_tg σ a = 100 ∨ h_tg σ a = 101 ∨ h_tg σ a = 102
/-- all of it -/
def Rep (fx : Bool) (σ : HS) (x : Nat) (G : Nat → Nat → Nat) (ms : MS) : Prop := Zx σ x ∧ Fx σ x ∧ Nx σ x ms ∧ Rx fx σ x ms ∧ Wx σ x ms ∧ Kx σ x G ms ∧ Sx σ x G ms ∧ Tx fx σ x G ms
/-- every cell but a is the same; a is none that the rest of Rep reads -/
def Eq1 (σ σ' : HS) (a : Nat) : Prop := ∀ b, b ≠ a → Sm σ σ' b
theorem Eq1.ne {σ σ' : HS} {a b : Nat} (h : Eq1 σ σ' a) (hb : h_tg σ b ≠ h_tg σ a) : Sm σ σ' b := h b (fun e => hb (by rw [e]))
theorem Eq1_I {σ : HS} {a k : Nat} {v : Int32} : Eq1 σ (h_setI σ a k v) a := fun _ h => Sm_I h
theorem Eq1_R {σ : HS} {a k : Nat} {v : Option Nat} : Eq1 σ (h_setR σ a k v) a := fun _ h => Sm_R h
theorem Eq1_L {σ : HS} {a k : Nat} {v : Int64} : Eq1 σ (h_setL σ a k v) a := fun _ h => Sm_L h
theorem Eq1_A {σ : HS} {a : Nat} {g : Nat → Int32} : Eq1 σ (h_setA σ a g) a := fun _ h => Sm_A h
theorem Eq1_P {σ : HS} {t n k : Nat} : Eq1 σ (h_push σ t n k) (h_sz σ) := fun _ h => Sm_P h
theorem Eq1.tr {σ σ1 σ2 : HS} {a : Nat} (h : Eq1 σ σ1 a) (h' : Eq1 σ1 σ2 a) : Eq1 σ σ2 a := fun b hb => (h b hb).tr (h' b hb)
