/-! ROWS OF THE WALK: what writes, what makes -/
section HP3
variable {p : Program} {l : Launch} {e : Env} {R : Room} {s : State} {m : MethodId} {args : Array Value} {below : List Frame} {meth : Method} {c : Code} {D : va_G} {dA : Nat → ClassId} {bs nL : Nat} {Q : State → Prop} {cc : ByteArray} {own : String} {σ : HS} {pc : Nat} {lv : List (Nat × Value)} {rest : List Value}
theorem h_stA {σ' : HS} {H H1 : Heap} {locs : List Loc} {ls : Array Slot} {a t k : Nat} {v : Value} (I : h_I R s D dA bs nL σ lv H locs ls) (ht : h_tg σ a = t) (h1 : 100 ≤ t) (hp : h_put σ σ' a t k v) (e1 : H1[a]? = some ((arrV (dA (t - 100)) (h_ln σ a) (fun j => h_val (h_ak t) σ a j)).setSlot k v)) (z1 : H1.size = H.size) (o1 : ∀ q, q ≠ a → H1[q]? = H[q]?) : h_I R s D dA bs nL σ' lv H1 (locs ++ [⟨a, k⟩]) ls := by
  refine h_I_put I hp (by omega) (h_ar I.1 ht h1) e1 (k2_slotsz _ _ _) z1 o1 ?_
  intro hne
  have htt : h_tg σ' a = t := by rw [hp.1]; exact ht
  rw [htt]
  refine ⟨fun h => absurd h (by omega), fun _ => ?_⟩
  rw [e1, arrV_store, hp.2.1]
  congr 2
  funext j
  by_cases hj : j = k
  · subst hj
    simp only [updV, if_true]
    exact (hp.2.2.2.2.2.2.2.2.2 h1).symm
  · simp only [updV, hj, if_false]
    exact (hp.2.2.2.2.2.2.2.1 j hj _).symm
theorem V_iast (C : h_C p m c cc nL s args own D dA) (d : decode cc pc = .ok (.iastore, 1)) {r : Option Nat} {i x : Int32} {σ' : HS} (e0 : h_sI σ r 100 i x = some σ') (kk : V p l e R s m args below meth c D dA bs nL Q σ' (pc + 1) lv rest) : V p l e R s m args below meth c D dA bs nL Q σ pc lv (.int x :: .int i :: va_rf r :: rest) := fun H locs ls I => by
  obtain ⟨a, rfl, ht, hin, rfl⟩ := h_rdA e0
  refine W.iast C.1.1 C.1.2.1 (h_ar I.1 ht (by omega)) (h_arr C (i := 0) h_ty0 _ _) (fun q => by cases q) (by rw [arrV_size]; exact hin) rfl rfl d fun H1 e1 z1 o1 => ?_
  exact W.tight (kk H1 _ ls (h_stA I ht (by omega) (h_putI (t := 100) (fun h => absurd h (by omega)) (fun _ => rfl)) e1 z1 o1))
theorem V_last (C : h_C p m c cc nL s args own D dA) (d : decode cc pc = .ok (.lastore, 1)) {r : Option Nat} {i : Int32} {x : Int64} {σ' : HS} (e0 : h_sL σ r 101 i x = some σ') (kk : V p l e R s m args below meth c D dA bs nL Q σ' (pc + 1) lv rest) : V p l e R s m args below meth c D dA bs nL Q σ pc lv (.long x :: .int i :: va_rf r :: rest) := fun H locs ls I => by
  obtain ⟨a, rfl, ht, hin, rfl⟩ := h_rdA e0
  refine W.last C.1.1 C.1.2.1 (h_ar I.1 ht (by omega)) (h_arr C (i := 1) h_ty1 _ _) (fun q => by cases q) (by rw [arrV_size]; exact hin) rfl rfl d fun H1 e1 z1 o1 => ?_
  exact W.tight (kk H1 _ ls (h_stA I ht (by omega) (h_putL (t := 101) (fun h => absurd h (by omega)) (fun _ => rfl)) e1 z1 o1))
theorem V_aast (C : h_C p m c cc nL s args own D dA) {t u : Nat} (hat : h_AT t u) (d : decode cc pc = .ok (.aastore, 1)) {r : Option Nat} {i : Int32} {x : Option Nat} {σ' : HS} (e0 : h_sR σ r t u i x = some σ') (kk : V p l e R s m args below meth c D dA bs nL Q σ' (pc + 1) lv rest) : V p l e R s m args below meth c D dA bs nL Q σ pc lv (va_rf x :: .int i :: va_rf r :: rest) := fun H locs ls I => by
  obtain ⟨a, rfl, hu, hv, rfl⟩ : ∃ a, r = some a ∧ h_ok σ a t i = true ∧ h_fitR σ u x = true ∧ σ' = h_setR σ a i.toNatClampNeg x := by
    cases r with
    | none => cases e0
    | some a =>
      have h' : (if (h_ok σ a t i && h_fitR σ u x) = true then some (h_setR σ a i.toNatClampNeg x) else none) = some σ' := e0
      by_cases hh : (h_ok σ a t i && h_fitR σ u x) = true
      · rw [if_pos hh] at h'
        rw [Bool.and_eq_true] at hh
        exact ⟨a, rfl, hh.1, hh.2, (Option.some.inj h').symm⟩
      · rw [if_neg hh] at h'
        cases h'
  obtain ⟨a9, e9, ht, hin, -⟩ := h_rdA (σ := σ) (r := some a) (t := t) (i := i) (f := fun _ => 0) (x := 0) (by show (if h_ok σ a t i = true then some 0 else none) = some 0; rw [if_pos hu])
  cases e9
  obtain ⟨h1, h0, h5, Cn, T, N, h2, h3⟩ := hat
  have hlt : i.toNatClampNeg < h_ln σ a := Nat.not_le.mp fun q => hin (Or.inr q)
  have hi0 : ¬ i < 0 := fun q => hin (Or.inl q)
  have hput : h_put σ (h_setR σ a i.toNatClampNeg x) a t i.toNatClampNeg (va_rf x) := h_putR (fun h => absurd h (by omega)) (fun _ => h_ak1 h1)
  cases x with
  | none =>
    refine va_WaastN (C := Cn) C.1.1 C.1.2.1 (h_ar I.1 ht (by omega)) (h_arr C (h3 dA) _ _) (fun q => by cases q) (by rw [arrV_size]; exact hin) rfl rfl d fun H1 e1 z1 o1 => ?_
    exact W.tight (kk H1 _ ls (h_stA I ht (by omega) hput e1 z1 o1))
  | some b =>
    have hb : h_tg σ b = u := by simpa [h_fitR] using hv
    obtain ⟨rr, r1, cellV, g1, g2, g3, -⟩ := (I.1.2.2.2.2.2 b (by omega)).1 (by omega)
    rw [hb] at g2
    have hcls := (C.2.1.1 (u - 1) _ h2).2
    obtain ⟨kA, comp, k1, k2, k3, -⟩ := (C.2.1.2 (t - 100) _ (h3 dA)).2
    have hcomp : comp = D.1 (u - 1) := Option.some.inj (k3.symm.trans hcls.1)
    subst hcomp
    obtain ⟨kC, hkC, hkk⟩ := hcls.2
    refine W.aast C.1.1 C.1.2.1 (h_ar I.1 ht (by omega)) (fun q h => by cases h) (fun h => by cases h) k1 k2 rfl hkC ⟨hi0, by rw [arrV_size]; exact hlt⟩ g1 (fun q h => by rw [g3] at h; cases h) (by rw [g2]; exact hkC) (by rw [g2]; exact va_assign hcls) rfl rfl d fun H1 e1 z1 o1 => ?_
    exact W.tight (kk H1 _ ls (h_stA I ht (by omega) hput e1 z1 o1))
end HP3
