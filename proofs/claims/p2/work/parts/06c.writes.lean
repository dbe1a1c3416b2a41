/-! ROWS OF THE WALK: what writes, what makes -/
section HP2
variable {p : Program} {l : Launch} {e : Env} {R : Room} {s : State} {m : MethodId} {args : Array Value} {below : List Frame} {meth : Method} {c : Code} {D : va_G} {dA : Nat → ClassId} {bs nL : Nat} {Q : State → Prop} {cc : ByteArray} {own : String} {σ : HS} {pc : Nat} {lv : List (Nat × Value)} {rest : List Value}
-- arrays
theorem h_ar {H : Heap} {a t : Nat} (hg : hG D dA bs σ H) (ht : h_tg σ a = t) (h : 100 ≤ t) : H[a]? = some (arrV (dA (t - 100)) (h_ln σ a) (fun j => h_val (h_ak t) σ a j)) := by
  have := (hg.2.2.2.2.2 a (by omega)).2 (by omega)
  rw [ht] at this
  exact this
theorem h_arr (C : h_C p m c cc nL s args own D dA) {i : Nat} {ty : FieldType} (ht : (h_tys dA)[i]? = some (dA i, ty)) (n : Nat) (z : Nat → Value) : s.isArrayOf (arrV (dA i) n z) ty := (C.2.1.2 i _ ht).1 n z
theorem V_iald (C : h_C p m c cc nL s args own D dA) (d : decode cc pc = .ok (.iaload, 1)) {r : Option Nat} {i x : Int32} (e0 : h_aI σ r 100 i = some x) (kk : V p l e R s m args below meth c D dA bs nL Q σ (pc + 1) lv (.int x :: rest)) : V p l e R s m args below meth c D dA bs nL Q σ pc lv (.int i :: va_rf r :: rest) := fun H locs ls I => by
  obtain ⟨a, rfl, ht, hin, rfl⟩ := h_rdA e0
  have hlt : i.toNatClampNeg < h_ln σ a := Nat.not_le.mp fun q => hin (Or.inr q)
  exact W.iald (v := .int (h_iv σ a i.toNatClampNeg)) C.1.1 C.1.2.1 (h_ar I.1 ht (by omega)) (h_arr C (i := 0) h_ty0 _ _) (fun q => by cases q) (by rw [arrV_size]; exact hin) (by rw [arrV_read _ _ hlt]; rfl) rfl rfl d (kk H locs ls I)
theorem V_lald (C : h_C p m c cc nL s args own D dA) (d : decode cc pc = .ok (.laload, 1)) {r : Option Nat} {i : Int32} {x : Int64} (e0 : h_aL σ r 101 i = some x) (kk : V p l e R s m args below meth c D dA bs nL Q σ (pc + 1) lv (.long x :: rest)) : V p l e R s m args below meth c D dA bs nL Q σ pc lv (.int i :: va_rf r :: rest) := fun H locs ls I => by
  obtain ⟨a, rfl, ht, hin, rfl⟩ := h_rdA e0
  have hlt : i.toNatClampNeg < h_ln σ a := Nat.not_le.mp fun q => hin (Or.inr q)
  exact W.lald (v := .long (h_lv σ a i.toNatClampNeg)) C.1.1 C.1.2.1 (h_ar I.1 ht (by omega)) (h_arr C (i := 1) h_ty1 _ _) (fun q => by cases q) (by rw [arrV_size]; exact hin) (by rw [arrV_read _ _ hlt]; rfl) rfl rfl d (kk H locs ls I)
/-- an array of references: its tag, the tag of its objects -/
def h_AT (t u : Nat) : Prop := 103 ≤ t ∧ 0 < u ∧ u < 100 ∧ ∃ (Cn : String) (T : u_T) (N : Nat), classes[u - 1]? = some (Cn, T, N) ∧ ∀ dA : Nat → ClassId, (h_tys dA)[t - 100]? = some (dA (t - 100), .object Cn)
theorem h_ak1 {t : Nat} (h : 103 ≤ t) : h_ak t = 1 := by
  unfold h_ak
  rw [if_neg (by omega), if_neg (by omega)]
theorem V_aald (C : h_C p m c cc nL s args own D dA) {t u : Nat} (hat : h_AT t u) (d : decode cc pc = .ok (.aaload, 1)) {r : Option Nat} {i : Int32} {x : Option Nat} (e0 : h_aR σ r t i = some x) (kk : V p l e R s m args below meth c D dA bs nL Q σ (pc + 1) lv (va_rf x :: rest)) : V p l e R s m args below meth c D dA bs nL Q σ pc lv (.int i :: va_rf r :: rest) := fun H locs ls I => by
  obtain ⟨a, rfl, ht, hin, rfl⟩ := h_rdA e0
  obtain ⟨h1, -, -, Cn, T, N, h2, h3⟩ := hat
  have hlt : i.toNatClampNeg < h_ln σ a := Nat.not_le.mp fun q => hin (Or.inr q)
  exact W.aald (v := va_rf (h_rv σ a i.toNatClampNeg)) (ty := .object Cn) C.1.1 C.1.2.1 (h_ar I.1 ht (by omega)) (h_arr C (h3 dA) _ _) rfl (fun q => by cases q) (by rw [arrV_size]; exact hin) (by rw [arrV_read _ _ hlt]; simp [h_val, h_ak1 h1]) rfl rfl d (kk H locs ls I)
theorem V_alen (C : h_C p m c cc nL s args own D dA) {t : Nat} {ty : FieldType} (h1 : 100 ≤ t) (h3 : (h_tys dA)[t - 100]? = some (dA (t - 100), ty)) (d : decode cc pc = .ok (.arraylength, 1)) {r : Option Nat} {x : Int32} (e0 : h_len σ r t = some x) (kk : V p l e R s m args below meth c D dA bs nL Q σ (pc + 1) lv (.int x :: rest)) : V p l e R s m args below meth c D dA bs nL Q σ pc lv (va_rf r :: rest) := fun H locs ls I => by
  obtain ⟨a, rfl, ht, rfl⟩ := h_rd e0
  exact W.alen C.1.1 C.1.2.1 (h_ar I.1 ht h1) (h_arr C h3 _ _) (by rw [arrV_size] <;> rfl) rfl rfl d (kk H locs ls I)
end HP2
