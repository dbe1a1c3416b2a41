/-! ROWS OF THE WALK: what writes, what makes -/
section HP9
variable {p : Program} {l : Launch} {e : Env} {R : Room} {s : State} {m : MethodId} {args : Array Value} {below : List Frame} {meth : Method} {c : Code} {D : va_G} {dA : Nat → ClassId} {bs nL : Nat} {Q : State → Prop} {cc : ByteArray} {own : String} {σ : HS} {pc : Nat} {lv : List (Nat × Value)} {rest : List Value}
theorem h_setA_val {a : Nat} {g : Nat → Int32} : (∀ b, b ≠ a → ∀ kd j, h_val kd (h_setA σ a g) b j = h_val kd σ b j) ∧ ∀ j, h_val 0 (h_setA σ a g) a j = .int (g j) := by
  refine ⟨fun b hb kd j => ?_, fun j => ?_⟩
  · simp [h_val, h_setA, h_iv, h_rv, h_lv, h_upA, hb]
  · simp [h_val, h_setA, h_iv, h_upA]
theorem V_copyI (C : h_C p m c cc nL s args own D dA) {idx : Nat} (hlink : Cond.methodLink own idx arraycopyName ∈ h_ws) (hnat : Cond.native arraycopyName ∈ h_ws) (hstat : Cond.static arraycopyName ∈ h_ws) (hini : Cond.initialized "java/lang/System" ∈ h_ws) (hframes : 1 ≤ R.frames) (hlocals : (rest.map fun v => v.category).sum + (nativeFrameWords "java/lang/System" "arraycopy" 5 + 11) ≤ R.locals) (d : decode cc pc = .ok (.invokestatic idx, 3)) {rs rd : Option Nat} {sp dp n : Int32} {σ' : HS} (e0 : h_cpI σ rs sp rd dp n = some σ') (kk : V p l e R s m args below meth c D dA bs nL Q σ' (pc + 3) lv rest) : V p l e R s m args below meth c D dA bs nL Q σ pc lv (.int n :: .int dp :: va_rf rd :: .int sp :: va_rf rs :: rest) := fun H locs ls I => by
  obtain ⟨a0, a, rfl, rfl, ⟨ta0, ta, h1, h2, h3, h4, h5⟩, rfl⟩ : ∃ a b, rs = some a ∧ rd = some b ∧ (h_tg σ a = 100 ∧ h_tg σ b = 100 ∧ ¬ sp < 0 ∧ ¬ dp < 0 ∧ ¬ n < 0 ∧ sp.toNatClampNeg + n.toNatClampNeg ≤ h_ln σ a ∧ dp.toNatClampNeg + n.toNatClampNeg ≤ h_ln σ b) ∧ σ' = h_setA σ b (va_cpy (h_iv σ a) (h_iv σ b) sp.toNatClampNeg dp.toNatClampNeg n.toNatClampNeg) := by
    cases rs with
    | none => cases e0
    | some a =>
      cases rd with
      | none => cases e0
      | some b =>
        have h' : (if h_tg σ a = 100 ∧ h_tg σ b = 100 ∧ ¬ sp < 0 ∧ ¬ dp < 0 ∧ ¬ n < 0 ∧ sp.toNatClampNeg + n.toNatClampNeg ≤ h_ln σ a ∧ dp.toNatClampNeg + n.toNatClampNeg ≤ h_ln σ b then some (h_setA σ b (va_cpy (h_iv σ a) (h_iv σ b) sp.toNatClampNeg dp.toNatClampNeg n.toNatClampNeg)) else none) = some σ' := e0
        by_cases hh : h_tg σ a = 100 ∧ h_tg σ b = 100 ∧ ¬ sp < 0 ∧ ¬ dp < 0 ∧ ¬ n < 0 ∧ sp.toNatClampNeg + n.toNatClampNeg ≤ h_ln σ a ∧ dp.toNatClampNeg + n.toNatClampNeg ≤ h_ln σ b
        · rw [if_pos hh] at h'
          exact ⟨a, b, rfl, rfl, hh, (Option.some.inj h').symm⟩
        · rw [if_neg hh] at h'
          cases h'
  have hts := C.1.2.2.2.2
  have nn : ∀ z : Int32, ¬ z < 0 → z.toInt = (z.toNatClampNeg : Int) := by
    intro z hz
    have hz0 : (0 : Int) ≤ z.toInt := by
      have := Int32.not_lt.mp hz
      simpa using Int32.le_iff_toInt_le.mp this
    show z.toInt = ((z.toInt.toNat : Nat) : Int)
    omega
  have hc0 : H[a0]? = some (vp_cell (dA 0) (h_ln σ a0, .inl (h_iv σ a0))) := h_ar I.1 ta0 (by omega)
  have hc1 : H[a]? = some (vp_cell (dA 0) (h_ln σ a, .inl (h_iv σ a))) := h_ar I.1 ta (by omega)
  obtain ⟨-, k0, hk0, cm0, hkk0⟩ := (C.2.1.2 0 _ h_ty0).1 (h_ln σ a0) (fun j => .int (h_iv σ a0 j))
  obtain ⟨-, k1, hk1, cm1, hkk1⟩ := (C.2.1.2 0 _ h_ty0).1 (h_ln σ a) (fun j => .int (h_iv σ a j))
  intro T hT X
  obtain ⟨vm', X', step⟩ := X.arraycopy C.1.1 C.1.2.2.2.1 (hts _ hlink) (hts _ hnat) (hts _ hstat) (hts _ hini) (src := a0) (dst := a) (cs := vp_cell (dA 0) (h_ln σ a0, .inl (h_iv σ a0))) (cd := vp_cell (dA 0) (h_ln σ a, .inl (h_iv σ a))) (srcPos := sp) (destPos := dp) (n := n) (by rw [hT]; exact hc0) (by rw [hT]; exact hc1)
    (fun _ h => by cases h) (fun _ h => by cases h) (fun h => by cases h) (fun h => by cases h) hk0 hk1 hkk0 hkk1 (by simp [refKind]) h1 h2 h3
    (by rw [nn sp h1, nn n h3]; show ¬ _ > ((arrV (dA 0) (h_ln σ a0) (fun j => .int (h_iv σ a0 j))).slots.size : Int); rw [arrV_size]; omega)
    (by rw [nn dp h2, nn n h3]; show ¬ _ > ((arrV (dA 0) (h_ln σ a) (fun j => .int (h_iv σ a j))).slots.size : Int); rw [arrV_size]; omega)
    (fun vm₁ _ i hi => by
      have e : (vp_cell (dA 0) (h_ln σ a0, .inl (h_iv σ a0))).slots.getD (sp.toNatClampNeg + i) .null = .int (h_iv σ a0 (sp.toNatClampNeg + i)) := by
        show (arrV (dA 0) (h_ln σ a0) (fun j => .int (h_iv σ a0 j))).slots.getD _ _ = _
        rw [Array.getD_eq_getD_getElem?, arrV_read _ _ (by omega)]
        rfl
      refine ⟨?_, ?_⟩
      · rw [e]
        rfl
      · rw [e]
        exact trivial)
    (g := F0 m pc ls (.int n :: .int dp :: .ref a :: .int sp :: .ref a0 :: rest)) rfl (by rw [C.1.2.2.1]; exact I.2.2.1.1.1) (rest := rest) rfl (by rw [C.1.2.1]; exact d) hframes (by show 2 * 0 + _ + _ ≤ _; omega)
  have e1 : copied (vp_cell (dA 0) (h_ln σ a0, .inl (h_iv σ a0))) (vp_cell (dA 0) (h_ln σ a, .inl (h_iv σ a))) sp dp n = vp_cell (dA 0) (h_ln σ a, .inl (va_cpy (h_iv σ a0) (h_iv σ a) sp.toNatClampNeg dp.toNatClampNeg n.toNatClampNeg)) := va_copied (fun z => .int z) (dA 0) (dA 0) (h_iv σ a0) (h_iv σ a) h4
  rw [e1] at X' step
  have hl : a < H.size := (Array.getElem?_eq_some_iff.mp hc1).1
  have hheap : ((T.setVm vm').setCell a (vp_cell (dA 0) (h_ln σ a, .inl (va_cpy (h_iv σ a0) (h_iv σ a) sp.toNatClampNeg dp.toNatClampNeg n.toNatClampNeg)))).heap = H.setIfInBounds a (vp_cell (dA 0) (h_ln σ a, .inl (va_cpy (h_iv σ a0) (h_iv σ a) sp.toNatClampNeg dp.toNatClampNeg n.toNatClampNeg))) := by rw [← hT]; rfl
  generalize hH1 : H.setIfInBounds a (vp_cell (dA 0) (h_ln σ a, .inl (va_cpy (h_iv σ a0) (h_iv σ a) sp.toNatClampNeg dp.toNatClampNeg n.toNatClampNeg))) = H1 at hheap
  have oq : ∀ q : Nat, q ≠ a → H1[q]? = H[q]? := fun q hq => by rw [← hH1]; simp [Array.getElem?_setIfInBounds, Ne.symm hq]
  have z1 : H1.size = H.size := by rw [← hH1]; simp
  have ea : H1[a]? = some (vp_cell (dA 0) (h_ln σ a, .inl (va_cpy (h_iv σ a0) (h_iv σ a) sp.toNatClampNeg dp.toNatClampNeg n.toNatClampNeg))) := by rw [← hH1]; simp [Array.getElem?_setIfInBounds, hl]
  have hsv := h_setA_val (σ := σ) (a := a) (g := va_cpy (h_iv σ a0) (h_iv σ a) sp.toNatClampNeg dp.toNatClampNeg n.toNatClampNeg)
  have I' : ∀ L' : List Loc, (∀ q ∈ L', q.base = a) → h_I R s D dA bs nL (h_setA σ a (va_cpy (h_iv σ a0) (h_iv σ a) sp.toNatClampNeg dp.toNatClampNeg n.toNatClampNeg)) lv H1 (locs ++ L') ls := by
    intro L' hL'
    refine ⟨hG_set I.1 rfl rfl rfl rfl rfl rfl hsv.1 hc1 ea (by rw [vp_cell_i, vp_cell_i, arrV_size, arrV_size]) z1 oq ?_, ⟨by rw [z1]; exact I.2.1.1, fun q g1 g2 => ?_, fun q hq => ?_⟩, I.2.2.1, I.2.2.2⟩
    · intro hne
      have htt : h_tg (h_setA σ a (va_cpy (h_iv σ a0) (h_iv σ a) sp.toNatClampNeg dp.toNatClampNeg n.toNatClampNeg)) a = 100 := ta
      rw [htt]
      refine ⟨fun h => absurd h (by omega), fun _ => ?_⟩
      rw [ea, vp_cell_i]
      congr 2
      funext j
      exact (hsv.2 j).symm
    · rw [oq q (fun e => g2 (by rw [e]; exact I.1.2.2.2.2.1 a (by omega)))]
      exact I.2.1.2.1 q g1 g2
    · rcases List.mem_append.mp hq with h | h
      · exact I.2.1.2.2 q h
      · rw [hL' q h]
        exact I.1.2.2.2.2.1 a (by omega)
  obtain ⟨t, a1, b1⟩ := W.tight (kk H1 _ ls (I' _ (fun q hq => by obtain ⟨z, -, hz⟩ := List.mem_map.mp hq; rw [← hz]))) _ hheap X'
  exact ⟨t, step t a1, b1⟩
end HP9
