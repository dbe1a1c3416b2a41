/-! ONE CALL: object and reference side by side -/
def lcV (cd : Nat → Option Int32) (F9 : Option (Except Nat Unit × HS)) (F10 : HS → Option (Unit × HS)) (x mo : Option Nat) (σ : HS) (K : HS → Prop) : Prop := ∃ q r σ1, h_rcv σ x 10 = some q ∧ F9 = some (r, σ1) ∧ (∀ k, r = .error k → (cd k).isSome = true) ∧ ∀ k σ2, h_hp cd (fun _ τ => some τ) r σ1 k σ2 → ∃ q2, h_rcv σ2 mo 11 = some q2 ∧ ∃ σ3, F10 σ2 = some ((), σ3) ∧ ∃ q3, h_rcv σ3 mo 11 = some q3 ∧ ∃ σ4, f_X10_thrown σ3 mo = some (k, σ4) ∧ K σ4
/-- what a caught exception may have left -/
def Bmp (σ1 σ2 : HS) : Prop := ∃ z w, h_sz σ1 ≤ z ∧ z ≤ h_sz σ1 + 1 ∧ w ≤ h_sl σ1 + 6 ∧ σ2 = h_bump σ1 z w
theorem lcV_of {cd : Nat → Option Int32} {F9 : Option (Except Nat Unit × HS)} {F10 : HS → Option (Unit × HS)} {x m : Nat} {A : Nat → Nat} {ms ms' : MS} {σ σ1 : HS} {r : Except Nat Unit} {c0 : Int32} {p : Option (Unit × MS)} {K : HS → Prop} (hx : h_tg σ x = 10) (h9 : F9 = some (r, σ1)) (hr : (r = .ok () ∧ c0 = 0) ∨ ∃ k, r = .error k ∧ cd k = some c0) (V : MV σ1 m A ms) (hp : p = some ((), ms')) (hc : ms'.1 0 = c0) (lift : ∀ τ, MV τ m A ms → Rl τ m A (F10 τ) p)
    (hK : ∀ σ2 σ4, (σ2 = σ1 ∧ r = .ok ()) ∨ Bmp σ1 σ2 → MF σ2 σ4 m A → MV σ4 m A ms' → K σ4) : lcV cd F9 F10 (some x) (some m) σ K := by
  refine ⟨x, r, σ1, rcv_s hx, h9, fun k hk => ?_, fun k σ2 h => ?_⟩
  · rcases hr with ⟨h, -⟩ | ⟨k', h, h2⟩
    · rw [h] at hk; cases hk
    · rw [h] at hk; cases hk; rw [h2]; rfl
  · have key : ((σ2 = σ1 ∧ r = .ok ()) ∨ Bmp σ1 σ2) ∧ k = c0 ∧ MV σ2 m A ms := by
      rcases hr with ⟨h1, h2⟩ | ⟨k', h1, h2⟩
      · subst h1
        have h' : k = 0 ∧ some σ1 = some σ2 := h
        obtain ⟨g1, g2⟩ := h'
        cases g2
        exact ⟨Or.inl ⟨rfl, rfl⟩, g1.trans h2.symm, V⟩
      · subst h1
        have h' : cd k' = some k ∧ ∃ z w, h_sz σ1 ≤ z ∧ z ≤ h_sz σ1 + 1 ∧ w ≤ h_sl σ1 + 6 ∧ σ2 = h_bump σ1 z w := h
        obtain ⟨g1, z, w, g2, g3, g4, g5⟩ := h'
        rw [h2] at g1
        refine ⟨Or.inr ⟨z, w, g2, g3, g4, g5⟩, (Option.some.inj g1).symm, ?_⟩
        rw [g5]; exact V
    obtain ⟨k1, k2, k3⟩ := key
    obtain ⟨σ3, l1, l2, l3⟩ := lift σ2 k3 _ _ hp
    obtain ⟨σ4, t1, t2, t3⟩ := q_X10_thrown l2 _ _ rfl
    refine ⟨m, rcv_s k3.1, σ3, l1, m, rcv_s l2.1, σ4, ?_, hK σ2 σ4 k1 (l3.tr t3) t2⟩
    rw [t1, hc, k2]
def lcI (cd : Nat → Option Int32) (F9 : Option (Except Nat Int32 × HS)) (F10 : HS → Option (Int32 × HS)) (x mo o : Option Nat) (σ : HS) (K : HS → Prop) : Prop := ∃ q r σ1, h_rcv σ x 10 = some q ∧ F9 = some (r, σ1) ∧ (∀ k, r = .error k → (cd k).isSome = true) ∧ (∀ v, r = .ok v → (h_sL σ1 o 101 0 (Int32.toInt64 v)).isSome = true) ∧ ∀ k σ2, h_hp cd (fun v τ => h_sL τ o 101 0 (Int32.toInt64 v)) r σ1 k σ2 → ∃ q2, h_rcv σ2 mo 11 = some q2 ∧ ∃ v σ3, F10 σ2 = some (v, σ3) ∧ ∃ q3, h_rcv σ3 mo 11 = some q3 ∧ ∃ σ4, f_X10_thrown σ3 mo = some (k, σ4) ∧ (k = 0 → h_aL σ4 o 101 0 = some (Int32.toInt64 v)) ∧ K σ4
theorem lcI_of {cd : Nat → Option Int32} {F9 : Option (Except Nat Int32 × HS)} {F10 : HS → Option (Int32 × HS)} {x m o : Nat} {A : Nat → Nat} {ms ms' : MS} {σ σ1 : HS} {r : Except Nat Int32} {v c0 : Int32} {p : Option (Int32 × MS)} {K : HS → Prop} (hx : h_tg σ x = 10) (ho : h_tg σ1 o = 101 ∧ h_ln σ1 o = 1) (hoA : o ≠ m ∧ ∀ k, k_tag k ≠ 0 → o ≠ A k) (h9 : F9 = some (r, σ1)) (hr : (r = .ok v ∧ c0 = 0) ∨ ∃ k, r = .error k ∧ cd k = some c0 ∧ ¬ c0 = 0) (V : MV σ1 m A ms) (hp : p = some (v, ms')) (hc : ms'.1 0 = c0) (lift : ∀ τ, MV τ m A ms → Rl τ m A (F10 τ) p)
    (hK : ∀ σ2 σ4, (σ2 = h_setL σ1 o 0 (Int32.toInt64 v) ∧ r = .ok v) ∨ Bmp σ1 σ2 → MF σ2 σ4 m A → MV σ4 m A ms' → K σ4) : lcI cd F9 F10 (some x) (some m) (some o) σ K := by
  have hsL : ∀ w : Int64, h_sL σ1 (some o) 101 0 w = some (h_setL σ1 o 0 w) := fun w => sL_s (i := 0) (n := 1) ho.1 ho.2 (by decide) (by decide)
  refine ⟨x, r, σ1, rcv_s hx, h9, fun k hk => ?_, fun w _ => by rw [hsL]; rfl, fun k σ2 h => ?_⟩
  · rcases hr with ⟨h, -⟩ | ⟨k', h, h2, -⟩
    · rw [h] at hk; cases hk
    · rw [h] at hk; cases hk; rw [h2]; rfl
  · have key : ((σ2 = h_setL σ1 o 0 (Int32.toInt64 v) ∧ r = .ok v) ∨ Bmp σ1 σ2) ∧ k = c0 ∧ MV σ2 m A ms ∧ (k = 0 → σ2 = h_setL σ1 o 0 (Int32.toInt64 v)) := by
      rcases hr with ⟨h1, h2⟩ | ⟨k', h1, h2, h3⟩
      · subst h1
        have h' : k = 0 ∧ h_sL σ1 (some o) 101 0 (Int32.toInt64 v) = some σ2 := h
        obtain ⟨g1, g2⟩ := h'
        rw [hsL] at g2
        have g3 := Option.some.inj g2
        refine ⟨Or.inl ⟨g3.symm, rfl⟩, g1.trans h2.symm, ?_, fun _ => g3.symm⟩
        rw [← g3]
        exact V.to (Sm_L (Ne.symm hoA.1)) (fun k hk => Sm_L (Ne.symm (hoA.2 k hk)))
      · subst h1
        have h' : cd k' = some k ∧ ∃ z w, h_sz σ1 ≤ z ∧ z ≤ h_sz σ1 + 1 ∧ w ≤ h_sl σ1 + 6 ∧ σ2 = h_bump σ1 z w := h
        obtain ⟨g1, z, w, g2, g3, g4, g5⟩ := h'
        rw [h2] at g1
        have hk := (Option.some.inj g1).symm
        refine ⟨Or.inr ⟨z, w, g2, g3, g4, g5⟩, hk, ?_, fun z => absurd (hk.symm.trans z) h3⟩
        rw [g5]; exact V
    obtain ⟨k1, k2, k3, k4⟩ := key
    obtain ⟨σ3, l1, l2, l3⟩ := lift σ2 k3 _ _ hp
    obtain ⟨σ4, t1, t2, t3⟩ := q_X10_thrown l2 _ _ rfl
    refine ⟨m, rcv_s k3.1, v, σ3, l1, m, rcv_s l2.1, σ4, ?_, fun hk0 => ?_, hK σ2 σ4 k1 (l3.tr t3) t2⟩
    · rw [t1, hc, k2]
    · have F := l3.tr t3
      obtain ⟨f1, f2, f3, f4, f5, f6, f7, f8⟩ := F
      have e2 := k4 hk0
      have g1 : h_tg σ4 o = 101 := by rw [f1, e2]; exact ho.1
      have g2 : h_ln σ4 o = 1 := by rw [f2, e2]; exact ho.2
      have g3 : h_lv σ4 o 0 = Int32.toInt64 v := by rw [(f8 o hoA.1 hoA.2 0).2, e2]; exact lv_sL
      have g4 := aL_s (i := 0) (n := 1) g1 g2 (by decide) (by decide)
      rw [g3] at g4
      exact g4
def lcN (F9 : Option (Int32 × HS)) (F10 : HS → Option (Int32 × HS)) (x mo : Option Nat) (σ : HS) (K : HS → Prop) : Prop := ∃ q v σ1, h_rcv σ x 10 = some q ∧ F9 = some (v, σ1) ∧ ∃ q2, h_rcv σ1 mo 11 = some q2 ∧ ∃ σ2, F10 σ1 = some (v, σ2) ∧ K σ2
theorem lcN_of {F9 : Option (Int32 × HS)} {F10 : HS → Option (Int32 × HS)} {x m : Nat} {A : Nat → Nat} {ms ms' : MS} {σ σ1 : HS} {v : Int32} {p : Option (Int32 × MS)} {K : HS → Prop} (hx : h_tg σ x = 10) (h9 : F9 = some (v, σ1)) (V : MV σ1 m A ms) (hp : p = some (v, ms')) (lift : Rl σ1 m A (F10 σ1) p) (hK : ∀ σ4, MF σ1 σ4 m A → MV σ4 m A ms' → K σ4) : lcN F9 F10 (some x) (some m) σ K := by
  obtain ⟨σ3, l1, l2, l3⟩ := lift _ _ hp
  exact ⟨x, v, σ1, rcv_s hx, h9, m, rcv_s V.1, σ3, l1, hK σ3 l3 l2⟩
theorem thr_of {α : Type} {k : Nat} {σ : HS} (h1 : h_sz σ + 1 ≤ h_cz σ) (h2 : h_sl σ + 6 ≤ h_ck σ) : (h_thr k σ : Option (Except Nat α × HS)) = some (.error k, σ) := if_pos ⟨h1, h2⟩
theorem f_ne {b : Bool} (h : b = false) : ¬ b = true := by rw [h]; decide
section PSS
variable {fx : Bool} {σ : HS} {x : Nat} {G : Nat → Nat → Nat} {ms : MS}
theorem c_pass (F : Fx σ x) (N : Nx σ x ms) (ht : (h_thr 1 σ : Option (Except Nat Unit × HS)) = some (.error 1, σ)) (t : Int32) : f_X9_pass σ (some x) t = some (if passB ms t = true then (.ok (), h_setI σ x 9 (ms.1 1 + t)) else (.error 1, σ)) := by
  unfold f_X9_pass passB
  by_cases h1 : t < 1
  · rw [if_pos h1, ht, decide_eq_false (fun z => absurd h1 (Int32.not_lt.mpr z.1)), Bool.false_and, if_neg (by decide)]
  · rw [if_neg h1]
    by_cases h2 : 1000 < t
    · rw [if_pos h2, ht, decide_eq_false (fun z => absurd h2 (Int32.not_lt.mpr z.2)), Bool.false_and, if_neg (by decide)]
    · rw [if_neg h2, decide_eq_true ⟨Int32.not_lt.mp h1, Int32.not_lt.mp h2⟩, gI_s F.1, N.2.1, h_b1_s, Bool.true_and]
      by_cases h3 : ms.1 1 + t ≤ 1000000
      · rw [if_pos h3, h_b1_s, pI_s F.1, h_b1_s, decide_eq_true h3, if_pos rfl]
      · rw [if_neg h3, ht, decide_eq_false h3, if_neg (by decide)]
end PSS
theorem p_run_0 {ms : MS} (h : ms.1 36 = 0) (a : Int32) : p_X10_run ms a = some (0, if 0 ≤ a ∧ a ≤ 1000 then okM ms else noM ms) := by
  unfold p_X10_run
  rw [p_in_eq, k_bd_s]
  by_cases hc : 0 ≤ a ∧ a ≤ 1000
  · rw [decide_eq_true hc, if_neg (by decide), if_pos hc]
    show pg_X10_run_22 (1999 + 1) (okM ms) a 0 = _
    rw [pg_X10_run_22, if_pos okM_0]
    by_cases h2 : a ≤ 0
    · rw [if_pos h2]
    · rw [if_neg h2, okM_1 (by decide), h, if_pos (by decide)]
  · rw [decide_eq_false hc, if_pos (by decide), if_neg hc]
    show pg_X10_run_22 (1999 + 1) (noM ms) a 0 = _
    rw [pg_X10_run_22, noM_0, if_neg (by decide)]
