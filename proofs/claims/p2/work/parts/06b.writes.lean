/-! ROWS OF THE WALK: what writes, what makes -/
section HP1
variable {p : Program} {l : Launch} {e : Env} {R : Room} {s : State} {m : MethodId} {args : Array Value} {below : List Frame} {meth : Method} {c : Code} {D : va_G} {dA : Nat → ClassId} {bs nL : Nat} {Q : State → Prop} {cc : ByteArray} {own : String} {σ : HS} {pc : Nat} {lv : List (Nat × Value)} {rest : List Value}
theorem h_tyI {kd : Nat} {x : Int32} (h0 : kd = 0) : ∀ ty : FieldType, (kd = 0 ∧ ty = .int) ∨ (kd = 2 ∧ ty = .long) ∨ (kd = 1 ∧ ty.isReference = true) → narrow ty (.int x) = .int x ∧ fits ty (.int x) = true := by
  intro ty h
  rcases h with ⟨-, rfl⟩ | ⟨h, -⟩ | ⟨h, -⟩
  · exact ⟨rfl, rfl⟩
  · omega
  · omega
theorem h_tyL {kd : Nat} {x : Int64} (h0 : kd = 2) : ∀ ty : FieldType, (kd = 0 ∧ ty = .int) ∨ (kd = 2 ∧ ty = .long) ∨ (kd = 1 ∧ ty.isReference = true) → narrow ty (.long x) = .long x ∧ fits ty (.long x) = true := by
  intro ty h
  rcases h with ⟨h, -⟩ | ⟨-, rfl⟩ | ⟨h, -⟩
  · omega
  · exact ⟨rfl, rfl⟩
  · omega
theorem h_tyR {kd : Nat} {x : Option Nat} (h0 : kd = 1) : ∀ ty : FieldType, (kd = 0 ∧ ty = .int) ∨ (kd = 2 ∧ ty = .long) ∨ (kd = 1 ∧ ty.isReference = true) → narrow ty (va_rf x) = va_rf x ∧ fits ty (va_rf x) = true := by
  intro ty h
  rcases h with ⟨h, -⟩ | ⟨h, -⟩ | ⟨-, h⟩
  · omega
  · omega
  · cases ty <;> first | (simp [FieldType.isReference] at h; done) | (cases x <;> exact ⟨rfl, rfl⟩)
theorem h_kdW {idx t k kd : Nat} (h : h_FW own idx t k kd) : h_kd t k = kd ∧ t < 100 := by
  obtain ⟨_, _, _, h1, -, h2, -⟩ := h
  exact ⟨h2, h1.2.1⟩
theorem h_kdF {idx t k kd : Nat} (h : h_FF own idx t k kd) : h_kd t k = kd ∧ t < 100 := by
  obtain ⟨_, _, _, h1, -, h2, -⟩ := h
  exact ⟨h2, h1.2.1⟩
theorem V_putI (C : h_C p m c cc nL s args own D dA) {idx t k : Nat} (fl : h_FW own idx t k 0) (d : decode cc pc = .ok (.putfield idx, 3)) {r : Option Nat} {x : Int32} {σ' : HS} (e0 : h_pI σ r t k x = some σ') (kk : V p l e R s m args below meth c D dA bs nL Q σ' (pc + 3) lv rest) : V p l e R s m args below meth c D dA bs nL Q σ pc lv (.int x :: va_rf r :: rest) := by
  obtain ⟨a, rfl, ht, rfl⟩ := h_rd e0
  exact h_putO C (Or.inl fl) d ht (h_putI (fun _ => (h_kdW fl).1) (fun h => absurd h (by have := (h_kdW fl).2; omega))) (h_tyI rfl) kk
theorem V_putR (C : h_C p m c cc nL s args own D dA) {idx t k : Nat} (fl : h_FW own idx t k 1) (d : decode cc pc = .ok (.putfield idx, 3)) {r x : Option Nat} {σ' : HS} (e0 : h_pR σ r t k x = some σ') (kk : V p l e R s m args below meth c D dA bs nL Q σ' (pc + 3) lv rest) : V p l e R s m args below meth c D dA bs nL Q σ pc lv (va_rf x :: va_rf r :: rest) := by
  obtain ⟨a, rfl, ht, rfl⟩ := h_rd e0
  exact h_putO C (Or.inl fl) d ht (h_putR (fun _ => (h_kdW fl).1) (fun h => absurd h (by have := (h_kdW fl).2; omega))) (h_tyR rfl) kk
theorem V_putFI (C : h_C p m c cc nL s args own D dA) (hin : meth.name = "<init>") {idx t k : Nat} (fl : h_FF own idx t k 0) (d : decode cc pc = .ok (.putfield idx, 3)) {r : Option Nat} {x : Int32} {σ' : HS} (e0 : h_pI σ r t k x = some σ') (kk : V p l e R s m args below meth c D dA bs nL Q σ' (pc + 3) lv rest) : V p l e R s m args below meth c D dA bs nL Q σ pc lv (.int x :: va_rf r :: rest) := by
  obtain ⟨a, rfl, ht, rfl⟩ := h_rd e0
  exact h_putO C (Or.inr ⟨fl, hin⟩) d ht (h_putI (fun _ => (h_kdF fl).1) (fun h => absurd h (by have := (h_kdF fl).2; omega))) (h_tyI rfl) kk
theorem V_putFR (C : h_C p m c cc nL s args own D dA) (hin : meth.name = "<init>") {idx t k : Nat} (fl : h_FF own idx t k 1) (d : decode cc pc = .ok (.putfield idx, 3)) {r x : Option Nat} {σ' : HS} (e0 : h_pR σ r t k x = some σ') (kk : V p l e R s m args below meth c D dA bs nL Q σ' (pc + 3) lv rest) : V p l e R s m args below meth c D dA bs nL Q σ pc lv (va_rf x :: va_rf r :: rest) := by
  obtain ⟨a, rfl, ht, rfl⟩ := h_rd e0
  exact h_putO C (Or.inr ⟨fl, hin⟩) d ht (h_putR (fun _ => (h_kdF fl).1) (fun h => absurd h (by have := (h_kdF fl).2; omega))) (h_tyR rfl) kk
end HP1
