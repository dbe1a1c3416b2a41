/-! ROWS OF THE WALK: what writes, what makes -/
section HP4
variable {p : Program} {l : Launch} {e : Env} {R : Room} {s : State} {m : MethodId} {args : Array Value} {below : List Frame} {meth : Method} {c : Code} {D : va_G} {dA : Nat → ClassId} {bs nL : Nat} {Q : State → Prop} {cc : ByteArray} {own : String} {σ : HS} {pc : Nat} {lv : List (Nat × Value)} {rest : List Value}
theorem V_zald (C : h_C p m c cc nL s args own D dA) (d : decode cc pc = .ok (.baload, 1)) {r : Option Nat} {i x : Int32} (e0 : h_aI σ r 102 i = some x) (kk : V p l e R s m args below meth c D dA bs nL Q σ (pc + 1) lv (.int x :: rest)) : V p l e R s m args below meth c D dA bs nL Q σ pc lv (.int i :: va_rf r :: rest) := fun H locs ls I => by
  obtain ⟨a, rfl, ht, hin, rfl⟩ := h_rdA e0
  have hlt : i.toNatClampNeg < h_ln σ a := Nat.not_le.mp fun q => hin (Or.inr q)
  exact W.zald (v := .int (h_iv σ a i.toNatClampNeg)) C.1.1 C.1.2.1 (h_ar I.1 ht (by omega)) (h_arr C (i := 2) h_ty2 _ _) (fun q => by cases q) (by rw [arrV_size]; exact hin) (by rw [arrV_read _ _ hlt]; rfl) rfl rfl d (kk H locs ls I)
theorem V_zast (C : h_C p m c cc nL s args own D dA) (d : decode cc pc = .ok (.bastore, 1)) {r : Option Nat} {i x : Int32} {σ' : HS} (hx : x = 0 ∨ x = 1) (e0 : h_sI σ r 102 i x = some σ') (kk : V p l e R s m args below meth c D dA bs nL Q σ' (pc + 1) lv rest) : V p l e R s m args below meth c D dA bs nL Q σ pc lv (.int x :: .int i :: va_rf r :: rest) := fun H locs ls I => by
  obtain ⟨a, rfl, ht, hin, rfl⟩ := h_rdA e0
  refine W.zast C.1.1 C.1.2.1 (h_ar I.1 ht (by omega)) (h_arr C (i := 2) h_ty2 _ _) (fun q => by cases q) (by rw [arrV_size]; exact hin) rfl rfl d fun H1 e1 z1 o1 => ?_
  refine W.tight (kk H1 _ ls (h_stA I ht (by omega) (h_putI (t := 102) (fun h => absurd h (by omega)) (fun _ => rfl)) ?_ z1 o1))
  rcases hx with rfl | rfl <;> exact e1
end HP4
