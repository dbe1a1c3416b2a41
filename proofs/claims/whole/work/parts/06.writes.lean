/-! ROWS OF THE WALK: what writes, what makes -/
section HP
variable {p : Program} {l : Launch} {e : Env} {R : Room} {s : State} {m : MethodId} {args : Array Value} {below : List Frame} {meth : Method} {c : Code} {D : va_G} {dA : Nat → ClassId} {bs nL : Nat} {Q : State → Prop} {cc : ByteArray} {own : String} {σ : HS} {pc : Nat} {lv : List (Nat × Value)} {rest : List Value}
/-- σ' is σ with the value v in the field k of a -/
def h_put (σ σ' : HS) (a t k : Nat) (v : Value) : Prop := h_tg σ' = h_tg σ ∧ h_ln σ' = h_ln σ ∧ h_sz σ' = h_sz σ ∧ h_sl σ' = h_sl σ ∧ h_cz σ' = h_cz σ ∧ h_ck σ' = h_ck σ ∧
  (∀ b, b ≠ a → ∀ kd j, h_val kd σ' b j = h_val kd σ b j) ∧ (∀ j, j ≠ k → ∀ kd, h_val kd σ' a j = h_val kd σ a j) ∧ (t < 100 → h_val (h_kd t k) σ' a k = v) ∧ (100 ≤ t → h_val (h_ak t) σ' a k = v)
theorem h_putI {a t k : Nat} {v : Int32} (h1 : t < 100 → h_kd t k = 0) (h2 : 100 ≤ t → h_ak t = 0) : h_put σ (h_setI σ a k v) a t k (.int v) := by
  refine ⟨rfl, rfl, rfl, rfl, rfl, rfl, fun b hb kd j => ?_, fun j hj kd => ?_, fun h => ?_, fun h => ?_⟩
  · simp [h_val, h_setI, h_iv, h_rv, h_lv, h_up2, hb]
  · simp [h_val, h_setI, h_iv, h_rv, h_lv, h_up2, hj]
  · rw [h1 h]; simp [h_val, h_setI, h_iv, h_up2]
  · rw [h2 h]; simp [h_val, h_setI, h_iv, h_up2]
theorem h_putR {a t k : Nat} {v : Option Nat} (h1 : t < 100 → h_kd t k = 1) (h2 : 100 ≤ t → h_ak t = 1) : h_put σ (h_setR σ a k v) a t k (va_rf v) := by
  refine ⟨rfl, rfl, rfl, rfl, rfl, rfl, fun b hb kd j => ?_, fun j hj kd => ?_, fun h => ?_, fun h => ?_⟩
  · simp [h_val, h_setR, h_iv, h_rv, h_lv, h_up2, hb]
  · simp [h_val, h_setR, h_iv, h_rv, h_lv, h_up2, hj]
  · rw [h1 h]; simp [h_val, h_setR, h_rv, h_up2]
  · rw [h2 h]; simp [h_val, h_setR, h_rv, h_up2]
theorem h_putL {a t k : Nat} {v : Int64} (h1 : t < 100 → h_kd t k = 2) (h2 : 100 ≤ t → h_ak t = 2) : h_put σ (h_setL σ a k v) a t k (.long v) := by
  refine ⟨rfl, rfl, rfl, rfl, rfl, rfl, fun b hb kd j => ?_, fun j hj kd => ?_, fun h => ?_, fun h => ?_⟩
  · simp [h_val, h_setL, h_iv, h_rv, h_lv, h_up2, hb]
  · simp [h_val, h_setL, h_iv, h_rv, h_lv, h_up2, hj]
  · rw [h1 h]; simp [h_val, h_setL, h_lv, h_up2]
  · rw [h2 h]; simp [h_val, h_setL, h_lv, h_up2]
theorem h_I_put {σ' : HS} {H H1 : Heap} {locs : List Loc} {ls : Array Slot} {a t k i : Nat} {v : Value} {c0 c1 : Cell} (I : h_I R s D dA bs nL σ lv H locs ls) (hp : h_put σ σ' a t k v) (h0 : h_tg σ a ≠ 0) (e0 : H[a]? = some c0) (e1 : H1[a]? = some c1) (es : c1.slots.size = c0.slots.size) (z1 : H1.size = H.size) (o1 : ∀ q, q ≠ a → H1[q]? = H[q]?) (ha : h_at D dA σ' a H1) : h_I R s D dA bs nL σ' lv H1 (locs ++ [⟨a, i⟩]) ls := by
  obtain ⟨q1, q2, q3, q4, q5, q6, q7, -⟩ := hp
  exact ⟨hG_set I.1 q1 q2 q3 q4 q5 q6 q7 e0 e1 es z1 o1 ha, I.2.1.put z1 o1 (I.1.2.2.2.2.1 a h0), I.2.2.1, by rw [q5]; exact I.2.2.2.1, by rw [q6]; exact I.2.2.2.2.1, I.2.2.2.2.2⟩
theorem h_putO (C : h_C p m c cc nL s args own D dA) {idx t k : Nat} {σ' : HS} {kd : Nat} (fl : h_FW own idx t k kd ∨ (h_FF own idx t k kd ∧ meth.name = "<init>")) (d : decode cc pc = .ok (.putfield idx, 3)) {a : Nat} {v : Value} (ht : h_tg σ a = t) (hp : h_put σ σ' a t k v)
    (hty : ∀ ty : FieldType, (kd = 0 ∧ ty = .int) ∨ (kd = 2 ∧ ty = .long) ∨ (kd = 1 ∧ ty.isReference = true) → narrow ty v = v ∧ fits ty v = true)
    (kk : V p l e R s m args below meth c D dA bs nL Q σ' (pc + 3) lv rest) : V p l e R s m args below meth c D dA bs nL Q σ pc lv (v :: .ref a :: rest) := fun H locs ls I => by
  have hfl : ∃ (Cn : String) (T : u_T) (N : Nat), h_CL t Cn T N ∧ k < N ∧ h_kd t k = kd ∧ Cond.fieldLink own idx (T k).1 (T k).2.1 (T k).2.2.1 ∈ h_ws ∧ ((T k).2.2.2 = false ∨ ((T k).2.2.2 = true ∧ (T k).1 = own ∧ meth.name = "<init>")) := by
    rcases fl with ⟨Cn, T, N, h1, h2, h3, h4, h5⟩ | ⟨⟨Cn, T, N, h1, h2, h3, h4, h5, h6⟩, h7⟩
    · exact ⟨Cn, T, N, h1, h2, h3, h4, Or.inl h5⟩
    · exact ⟨Cn, T, N, h1, h2, h3, h4, Or.inr ⟨h5, h6, h7⟩⟩
  obtain ⟨Cn, T, N, hc, hk, hkd, hw, hfin⟩ := hfl
  obtain ⟨t0, t1, hcl, hin, hins, hini, ty0, hty0, hnm, hkt⟩ := id hc
  have hts := C.1.2.2.2.2
  have hap := va_apart (own := own) hts hin ty0 hty0 hnm C.2 hcl
  obtain ⟨r, r1, cell, q1, q2, q3, q4⟩ := (I.1.2.2.2.2.2 a (by omega)).1 (by omega)
  rw [ht] at r1 q2 q4
  have hr : r = (Cn, T, N) := Option.some.inj (r1.symm.trans hcl)
  subst hr
  obtain ⟨hS, hfc, kC, hkC, hkind⟩ := C.2.1 (t - 1) _ hcl
  obtain ⟨cf, kf, fi, f, hi, hsl⟩ := hS k hk
  have hlay := hts _ (hin _ (u_in_lay hk))
  have hst := (u_facts hfc hkC (u_lays hts hin hk) hi).1
  obtain ⟨hn, hfit⟩ := hty (ty0 k) (by rw [← hkd]; exact hkt k hk)
  have fin : ∀ H' : Heap, H'[a]? = some (cell.setSlot f.slot v) → H'.size = H.size → (∀ q, q ≠ a → H'[q]? = H[q]?) → W p l e R s m args below meth c H' (locs ++ [⟨a, f.slot⟩]) (H.size - s.heap.size) (slotSum H - slotSum s.heap) Q (F0 m (pc + 3) ls rest) := by
    intro H' e1 e2 e3
    refine W.tight (kk H' _ ls (h_I_put I hp (by omega) q1 e1 (k2_slotsz _ _ _) e2 e3 ?_))
    intro hne
    have htt : h_tg σ' a = t := by rw [hp.1]; exact ht
    rw [htt]
    refine ⟨fun _ => ⟨_, hcl, ?_⟩, fun h => absurd h (by omega)⟩
    rw [hsl] at e1
    refine t_OB.to (V := updV (fun k => h_val (h_kd t k) σ a k) k v) ⟨_, e1, q2, q3, t_set q4 hap hk v⟩ (fun j _ => ?_)
    by_cases hj : j = k
    · subst hj
      simp only [updV, if_true]
      exact (hp.2.2.2.2.2.2.2.2.1 t1).symm
    · simp only [updV, hj, if_false]
      exact (hp.2.2.2.2.2.2.2.1 j hj _).symm
  rcases hfin with hfin | ⟨hfin, hdecl, hin2⟩
  · unfold u_lay at hlay
    rw [if_neg (by rw [hfin]; decide)] at hlay
    have h6 := u_store hfc hkC hkind hlay hi (hty0 k hk) hn hfit
    exact W.putK C.1.1 C.1.2.1 (f := f) ⟨C.1.2.2.2.1, hts _ hw, ⟨_, _, _, hi⟩, hst⟩ (by rw [q2]; exact h6) q1 q3 (by rw [hsl]; exact k2_hasslot (q4 k hk)) rfl rfl d fin
  · unfold u_lay at hlay
    rw [if_pos hfin] at hlay
    have hcf : m.cls = cf := by
      obtain ⟨_, _, c', _, _, _, -, -, hf', -, -, -, hown2, -⟩ := Cond.laysFinal_spec hlay
      have e1 : c' = cf := by have := hi.symm.trans hf'; simp at this; exact this.1.symm
      rw [hdecl] at hown2
      rw [← e1]; exact Option.some.inj (C.1.2.2.2.1.symm.trans hown2)
    have h6 := u_fits hfc hkC hkind (Or.inr hlay) hi (hty0 k hk) hn hfit
    exact W.putFinK C.1.1 C.1.2.1 C.1.2.2.2.1 (hts _ hw) hi hst hcf hin2 (by rw [q2]; exact h6) q1 q3 (by rw [hsl]; exact k2_hasslot (q4 k hk)) rfl rfl d fin
theorem h_tyI {kd : Nat} {x : Int32} (h0 : kd = 0) : ∀ ty : FieldType, (kd = 0 ∧ ty = .int) ∨ (kd = 2 ∧ ty = .long) ∨ (kd = 1 ∧ ty.isReference = true) → narrow ty (.int x) = .int x ∧ fits ty (.int x) = true := by
  intro ty h
  rcases h with ⟨-, rfl⟩ | ⟨h, -⟩ | ⟨h, -⟩
  · exact ⟨rfl, rfl⟩
  · omega
  · omega
theorem h_tyL {kd : Nat} {x : Int64} (h0 : kd = 2) : ∀ ty : FieldType, (kd = 0 ∧ ty = .int) ∨ (kd = 2 ∧ ty = .long) ∨ (kd = 1 ∧ ty.isReference = true) → narrow ty (.long x) = .long x ∧ fits ty (.long x) = true := by
  intro ty h
  rcases h with ⟨h, -⟩ | ⟨-, rfl⟩ | ⟨h, -⟩
  · omega
  · exact ⟨rfl, rfl⟩
  · omega
theorem h_tyR {kd : Nat} {x : Option Nat} (h0 : kd = 1) : ∀ ty : FieldType, (kd = 0 ∧ ty = .int) ∨ (kd = 2 ∧ ty = .long) ∨ (kd = 1 ∧ ty.isReference = true) → narrow ty (va_rf x) = va_rf x ∧ fits ty (va_rf x) = true := by
  intro ty h
  rcases h with ⟨h, -⟩ | ⟨h, -⟩ | ⟨-, h⟩
  · omega
  · omega
  · cases ty <;> first | (simp [FieldType.isReference] at h; done) | (cases x <;> exact ⟨rfl, rfl⟩)
theorem h_kdW {idx t k kd : Nat} (h : h_FW own idx t k kd) : h_kd t k = kd ∧ t < 100 := by
  obtain ⟨_, _, _, h1, -, h2, -⟩ := h
  exact ⟨h2, h1.2.1⟩
theorem h_kdF {idx t k kd : Nat} (h : h_FF own idx t k kd) : h_kd t k = kd ∧ t < 100 := by
  obtain ⟨_, _, _, h1, -, h2, -⟩ := h
  exact ⟨h2, h1.2.1⟩
theorem V_putI (C : h_C p m c cc nL s args own D dA) {idx t k : Nat} (fl : h_FW own idx t k 0) (d : decode cc pc = .ok (.putfield idx, 3)) {r : Option Nat} {x : Int32} {σ' : HS} (e0 : h_pI σ r t k x = some σ') (kk : V p l e R s m args below meth c D dA bs nL Q σ' (pc + 3) lv rest) : V p l e R s m args below meth c D dA bs nL Q σ pc lv (.int x :: va_rf r :: rest) := by
  obtain ⟨a, rfl, ht, rfl⟩ := h_rd e0
  exact h_putO C (Or.inl fl) d ht (h_putI (fun _ => (h_kdW fl).1) (fun h => absurd h (by have := (h_kdW fl).2; omega))) (h_tyI rfl) kk
theorem V_putR (C : h_C p m c cc nL s args own D dA) {idx t k : Nat} (fl : h_FW own idx t k 1) (d : decode cc pc = .ok (.putfield idx, 3)) {r x : Option Nat} {σ' : HS} (e0 : h_pR σ r t k x = some σ') (kk : V p l e R s m args below meth c D dA bs nL Q σ' (pc + 3) lv rest) : V p l e R s m args below meth c D dA bs nL Q σ pc lv (va_rf x :: va_rf r :: rest) := by
  obtain ⟨a, rfl, ht, rfl⟩ := h_rd e0
  exact h_putO C (Or.inl fl) d ht (h_putR (fun _ => (h_kdW fl).1) (fun h => absurd h (by have := (h_kdW fl).2; omega))) (h_tyR rfl) kk
theorem V_putFI (C : h_C p m c cc nL s args own D dA) (hin : meth.name = "<init>") {idx t k : Nat} (fl : h_FF own idx t k 0) (d : decode cc pc = .ok (.putfield idx, 3)) {r : Option Nat} {x : Int32} {σ' : HS} (e0 : h_pI σ r t k x = some σ') (kk : V p l e R s m args below meth c D dA bs nL Q σ' (pc + 3) lv rest) : V p l e R s m args below meth c D dA bs nL Q σ pc lv (.int x :: va_rf r :: rest) := by
  obtain ⟨a, rfl, ht, rfl⟩ := h_rd e0
  exact h_putO C (Or.inr ⟨fl, hin⟩) d ht (h_putI (fun _ => (h_kdF fl).1) (fun h => absurd h (by have := (h_kdF fl).2; omega))) (h_tyI rfl) kk
theorem V_putFR (C : h_C p m c cc nL s args own D dA) (hin : meth.name = "<init>") {idx t k : Nat} (fl : h_FF own idx t k 1) (d : decode cc pc = .ok (.putfield idx, 3)) {r x : Option Nat} {σ' : HS} (e0 : h_pR σ r t k x = some σ') (kk : V p l e R s m args below meth c D dA bs nL Q σ' (pc + 3) lv rest) : V p l e R s m args below meth c D dA bs nL Q σ pc lv (va_rf x :: va_rf r :: rest) := by
  obtain ⟨a, rfl, ht, rfl⟩ := h_rd e0
  exact h_putO C (Or.inr ⟨fl, hin⟩) d ht (h_putR (fun _ => (h_kdF fl).1) (fun h => absurd h (by have := (h_kdF fl).2; omega))) (h_tyR rfl) kk
-- arrays
theorem h_ar {H : Heap} {a t : Nat} (hg : hG D dA bs σ H) (ht : h_tg σ a = t) (h : 100 ≤ t) : H[a]? = some (arrV (dA (t - 100)) (h_ln σ a) (fun j => h_val (h_ak t) σ a j)) := by
  have := (hg.2.2.2.2.2 a (by omega)).2 (by omega)
  rw [ht] at this
  exact this
theorem h_arr (C : h_C p m c cc nL s args own D dA) {i : Nat} {ty : FieldType} (ht : (h_tys dA)[i]? = some (dA i, ty)) (n : Nat) (z : Nat → Value) : s.isArrayOf (arrV (dA i) n z) ty := (C.2.2 i _ ht).1 n z
theorem V_iald (C : h_C p m c cc nL s args own D dA) (d : decode cc pc = .ok (.iaload, 1)) {r : Option Nat} {i x : Int32} (e0 : h_aI σ r 100 i = some x) (kk : V p l e R s m args below meth c D dA bs nL Q σ (pc + 1) lv (.int x :: rest)) : V p l e R s m args below meth c D dA bs nL Q σ pc lv (.int i :: va_rf r :: rest) := fun H locs ls I => by
  obtain ⟨a, rfl, ht, hin, rfl⟩ := h_rdA e0
  have hlt : i.toNatClampNeg < h_ln σ a := Nat.not_le.mp fun q => hin (Or.inr q)
  exact W.iald (v := .int (h_iv σ a i.toNatClampNeg)) C.1.1 C.1.2.1 (h_ar I.1 ht (by omega)) (h_arr C (i := 0) h_ty0 _ _) (fun q => by cases q) (by rw [arrV_size]; exact hin) (by rw [arrV_read _ _ hlt]; rfl) rfl rfl d (kk H locs ls I)
theorem V_lald (C : h_C p m c cc nL s args own D dA) (d : decode cc pc = .ok (.laload, 1)) {r : Option Nat} {i : Int32} {x : Int64} (e0 : h_aL σ r 101 i = some x) (kk : V p l e R s m args below meth c D dA bs nL Q σ (pc + 1) lv (.long x :: rest)) : V p l e R s m args below meth c D dA bs nL Q σ pc lv (.int i :: va_rf r :: rest) := fun H locs ls I => by
  obtain ⟨a, rfl, ht, hin, rfl⟩ := h_rdA e0
  have hlt : i.toNatClampNeg < h_ln σ a := Nat.not_le.mp fun q => hin (Or.inr q)
  exact W.lald (v := .long (h_lv σ a i.toNatClampNeg)) C.1.1 C.1.2.1 (h_ar I.1 ht (by omega)) (h_arr C (i := 1) h_ty1 _ _) (fun q => by cases q) (by rw [arrV_size]; exact hin) (by rw [arrV_read _ _ hlt]; rfl) rfl rfl d (kk H locs ls I)
/-- an array of references: its tag, the tag of its objects -/
def h_AT (t u : Nat) : Prop := 103 ≤ t ∧ 0 < u ∧ u < 100 ∧ ∃ (Cn : String) (T : u_T) (N : Nat), classes[u - 1]? = some (Cn, T, N) ∧ ∀ dA : Nat → ClassId, (h_tys dA)[t - 100]? = some (dA (t - 100), .object Cn)
theorem h_ak1 {t : Nat} (h : 103 ≤ t) : h_ak t = 1 := by
  unfold h_ak
  rw [if_neg (by omega), if_neg (by omega)]
theorem V_aald (C : h_C p m c cc nL s args own D dA) {t u : Nat} (hat : h_AT t u) (d : decode cc pc = .ok (.aaload, 1)) {r : Option Nat} {i : Int32} {x : Option Nat} (e0 : h_aR σ r t i = some x) (kk : V p l e R s m args below meth c D dA bs nL Q σ (pc + 1) lv (va_rf x :: rest)) : V p l e R s m args below meth c D dA bs nL Q σ pc lv (.int i :: va_rf r :: rest) := fun H locs ls I => by
  obtain ⟨a, rfl, ht, hin, rfl⟩ := h_rdA e0
  obtain ⟨h1, -, -, Cn, T, N, h2, h3⟩ := hat
  have hlt : i.toNatClampNeg < h_ln σ a := Nat.not_le.mp fun q => hin (Or.inr q)
  exact W.aald (v := va_rf (h_rv σ a i.toNatClampNeg)) (ty := .object Cn) C.1.1 C.1.2.1 (h_ar I.1 ht (by omega)) (h_arr C (h3 dA) _ _) rfl (fun q => by cases q) (by rw [arrV_size]; exact hin) (by rw [arrV_read _ _ hlt]; simp [h_val, h_ak1 h1]) rfl rfl d (kk H locs ls I)
theorem V_alen (C : h_C p m c cc nL s args own D dA) {t : Nat} {ty : FieldType} (h1 : 100 ≤ t) (h3 : (h_tys dA)[t - 100]? = some (dA (t - 100), ty)) (d : decode cc pc = .ok (.arraylength, 1)) {r : Option Nat} {x : Int32} (e0 : h_len σ r t = some x) (kk : V p l e R s m args below meth c D dA bs nL Q σ (pc + 1) lv (.int x :: rest)) : V p l e R s m args below meth c D dA bs nL Q σ pc lv (va_rf r :: rest) := fun H locs ls I => by
  obtain ⟨a, rfl, ht, rfl⟩ := h_rd e0
  exact W.alen C.1.1 C.1.2.1 (h_ar I.1 ht h1) (h_arr C h3 _ _) (by rw [arrV_size] <;> rfl) rfl rfl d (kk H locs ls I)
theorem h_stA {σ' : HS} {H H1 : Heap} {locs : List Loc} {ls : Array Slot} {a t k : Nat} {v : Value} (I : h_I R s D dA bs nL σ lv H locs ls) (ht : h_tg σ a = t) (h1 : 100 ≤ t) (hp : h_put σ σ' a t k v) (e1 : H1[a]? = some ((arrV (dA (t - 100)) (h_ln σ a) (fun j => h_val (h_ak t) σ a j)).setSlot k v)) (z1 : H1.size = H.size) (o1 : ∀ q, q ≠ a → H1[q]? = H[q]?) : h_I R s D dA bs nL σ' lv H1 (locs ++ [⟨a, k⟩]) ls := by
  refine h_I_put I hp (by omega) (h_ar I.1 ht h1) e1 (k2_slotsz _ _ _) z1 o1 ?_
  intro hne
  have htt : h_tg σ' a = t := by rw [hp.1]; exact ht
  rw [htt]
  refine ⟨fun h => absurd h (by omega), fun _ => ?_⟩
  rw [e1, arrV_store, hp.2.1]
  congr 2
  funext j
  by_cases hj : j = k
  · subst hj
    simp only [updV, if_true]
    exact (hp.2.2.2.2.2.2.2.2.2 h1).symm
  · simp only [updV, hj, if_false]
    exact (hp.2.2.2.2.2.2.2.1 j hj _).symm
theorem V_iast (C : h_C p m c cc nL s args own D dA) (d : decode cc pc = .ok (.iastore, 1)) {r : Option Nat} {i x : Int32} {σ' : HS} (e0 : h_sI σ r 100 i x = some σ') (kk : V p l e R s m args below meth c D dA bs nL Q σ' (pc + 1) lv rest) : V p l e R s m args below meth c D dA bs nL Q σ pc lv (.int x :: .int i :: va_rf r :: rest) := fun H locs ls I => by
  obtain ⟨a, rfl, ht, hin, rfl⟩ := h_rdA e0
  refine W.iast C.1.1 C.1.2.1 (h_ar I.1 ht (by omega)) (h_arr C (i := 0) h_ty0 _ _) (fun q => by cases q) (by rw [arrV_size]; exact hin) rfl rfl d fun H1 e1 z1 o1 => ?_
  exact W.tight (kk H1 _ ls (h_stA I ht (by omega) (h_putI (t := 100) (fun h => absurd h (by omega)) (fun _ => rfl)) e1 z1 o1))
theorem V_last (C : h_C p m c cc nL s args own D dA) (d : decode cc pc = .ok (.lastore, 1)) {r : Option Nat} {i : Int32} {x : Int64} {σ' : HS} (e0 : h_sL σ r 101 i x = some σ') (kk : V p l e R s m args below meth c D dA bs nL Q σ' (pc + 1) lv rest) : V p l e R s m args below meth c D dA bs nL Q σ pc lv (.long x :: .int i :: va_rf r :: rest) := fun H locs ls I => by
  obtain ⟨a, rfl, ht, hin, rfl⟩ := h_rdA e0
  refine W.last C.1.1 C.1.2.1 (h_ar I.1 ht (by omega)) (h_arr C (i := 1) h_ty1 _ _) (fun q => by cases q) (by rw [arrV_size]; exact hin) rfl rfl d fun H1 e1 z1 o1 => ?_
  exact W.tight (kk H1 _ ls (h_stA I ht (by omega) (h_putL (t := 101) (fun h => absurd h (by omega)) (fun _ => rfl)) e1 z1 o1))
theorem V_aast (C : h_C p m c cc nL s args own D dA) {t u : Nat} (hat : h_AT t u) (d : decode cc pc = .ok (.aastore, 1)) {r : Option Nat} {i : Int32} {x : Option Nat} {σ' : HS} (e0 : h_sR σ r t u i x = some σ') (kk : V p l e R s m args below meth c D dA bs nL Q σ' (pc + 1) lv rest) : V p l e R s m args below meth c D dA bs nL Q σ pc lv (va_rf x :: .int i :: va_rf r :: rest) := fun H locs ls I => by
  obtain ⟨a, rfl, hu, hv, rfl⟩ : ∃ a, r = some a ∧ h_ok σ a t i = true ∧ h_fitR σ u x = true ∧ σ' = h_setR σ a i.toNatClampNeg x := by
    cases r with
    | none => cases e0
    | some a =>
      have h' : (if (h_ok σ a t i && h_fitR σ u x) = true then some (h_setR σ a i.toNatClampNeg x) else none) = some σ' := e0
      by_cases hh : (h_ok σ a t i && h_fitR σ u x) = true
      · rw [if_pos hh] at h'
        rw [Bool.and_eq_true] at hh
        exact ⟨a, rfl, hh.1, hh.2, (Option.some.inj h').symm⟩
      · rw [if_neg hh] at h'
        cases h'
  obtain ⟨-, e9, ht, hin, -⟩ := h_rdA (σ := σ) (r := some a) (t := t) (i := i) (f := fun _ => 0) (x := 0) (by show (if h_ok σ a t i = true then some 0 else none) = some 0; rw [if_pos hu])
  cases e9
  obtain ⟨h1, h0, h5, Cn, T, N, h2, h3⟩ := hat
  have hlt : i.toNatClampNeg < h_ln σ a := Nat.not_le.mp fun q => hin (Or.inr q)
  have hi0 : ¬ i < 0 := fun q => hin (Or.inl q)
  have hput : h_put σ (h_setR σ a i.toNatClampNeg x) a t i.toNatClampNeg (va_rf x) := h_putR (fun h => absurd h (by omega)) (fun _ => h_ak1 h1)
  cases x with
  | none =>
    refine va_WaastN (C := Cn) C.1.1 C.1.2.1 (h_ar I.1 ht (by omega)) (h_arr C (h3 dA) _ _) (fun q => by cases q) (by rw [arrV_size]; exact hin) rfl rfl d fun H1 e1 z1 o1 => ?_
    exact W.tight (kk H1 _ ls (h_stA I ht (by omega) hput e1 z1 o1))
  | some b =>
    have hb : h_tg σ b = u := by simpa [h_fitR] using hv
    obtain ⟨rr, r1, cellV, g1, g2, g3, -⟩ := (I.1.2.2.2.2.2 b (by omega)).1 (by omega)
    rw [hb] at g2
    have hcls := (C.2.1 (u - 1) _ h2).2
    obtain ⟨kA, comp, k1, k2, k3, -⟩ := (C.2.2 (t - 100) _ (h3 dA)).2
    have hcomp : comp = D.1 (u - 1) := Option.some.inj (k3.symm.trans hcls.1)
    subst hcomp
    obtain ⟨kC, hkC, hkk⟩ := hcls.2
    refine W.aast C.1.1 C.1.2.1 (h_ar I.1 ht (by omega)) (fun q h => by cases h) (fun h => by cases h) k1 k2 rfl hkC ⟨hi0, by rw [arrV_size]; exact hlt⟩ g1 (fun q h => by rw [g3] at h; cases h) (by rw [g2]; exact hkC) (by rw [g2]; exact va_assign hcls) rfl rfl d fun H1 e1 z1 o1 => ?_
    exact W.tight (kk H1 _ ls (h_stA I ht (by omega) hput e1 z1 o1))
theorem V_zald (C : h_C p m c cc nL s args own D dA) (d : decode cc pc = .ok (.baload, 1)) {r : Option Nat} {i x : Int32} (e0 : h_aI σ r 102 i = some x) (kk : V p l e R s m args below meth c D dA bs nL Q σ (pc + 1) lv (.int x :: rest)) : V p l e R s m args below meth c D dA bs nL Q σ pc lv (.int i :: va_rf r :: rest) := fun H locs ls I => by
  obtain ⟨a, rfl, ht, hin, rfl⟩ := h_rdA e0
  have hlt : i.toNatClampNeg < h_ln σ a := Nat.not_le.mp fun q => hin (Or.inr q)
  exact W.zald (v := .int (h_iv σ a i.toNatClampNeg)) C.1.1 C.1.2.1 (h_ar I.1 ht (by omega)) (h_arr C (i := 2) h_ty2 _ _) (fun q => by cases q) (by rw [arrV_size]; exact hin) (by rw [arrV_read _ _ hlt]; rfl) rfl rfl d (kk H locs ls I)
theorem V_zast (C : h_C p m c cc nL s args own D dA) (d : decode cc pc = .ok (.bastore, 1)) {r : Option Nat} {i x : Int32} {σ' : HS} (hx : x = 0 ∨ x = 1) (e0 : h_sI σ r 102 i x = some σ') (kk : V p l e R s m args below meth c D dA bs nL Q σ' (pc + 1) lv rest) : V p l e R s m args below meth c D dA bs nL Q σ pc lv (.int x :: .int i :: va_rf r :: rest) := fun H locs ls I => by
  obtain ⟨a, rfl, ht, hin, rfl⟩ := h_rdA e0
  refine W.zast C.1.1 C.1.2.1 (h_ar I.1 ht (by omega)) (h_arr C (i := 2) h_ty2 _ _) (fun q => by cases q) (by rw [arrV_size]; exact hin) rfl rfl d fun H1 e1 z1 o1 => ?_
  refine W.tight (kk H1 _ ls (h_stA I ht (by omega) (h_putI (t := 102) (fun h => absurd h (by omega)) (fun _ => rfl)) ?_ z1 o1))
  rcases hx with rfl | rfl <;> exact e1
theorem h_mk_some {t n : Nat} {r : Option Nat} {σ' : HS} (h : h_mk σ t n = some (r, σ')) : h_sz σ + 1 ≤ h_cz σ ∧ h_sl σ + n ≤ h_ck σ ∧ r = some (h_sz σ) ∧ σ' = h_push σ t 0 n := by
  unfold h_mk at h
  by_cases hc : h_sz σ + 1 ≤ h_cz σ ∧ h_sl σ + n ≤ h_ck σ
  · rw [if_pos hc] at h
    cases h
    exact ⟨hc.1, hc.2, rfl, rfl⟩
  · rw [if_neg hc] at h
    cases h
theorem h_mkA_some {t : Nat} {n : Int32} {r : Option Nat} {σ' : HS} (h : h_mkA σ t n = some (r, σ')) : ¬ n < 0 ∧ n.toNatClampNeg ≤ 60000000 ∧ h_sz σ + 1 ≤ h_cz σ ∧ h_sl σ + n.toNatClampNeg ≤ h_ck σ ∧ r = some (h_sz σ) ∧ σ' = h_push σ t n.toNatClampNeg n.toNatClampNeg := by
  unfold h_mkA at h
  by_cases hc : ¬ n < 0 ∧ n.toNatClampNeg ≤ 60000000 ∧ h_sz σ + 1 ≤ h_cz σ ∧ h_sl σ + n.toNatClampNeg ≤ h_ck σ
  · rw [if_pos hc] at h
    cases h
    exact ⟨hc.1, hc.2.1, hc.2.2.1, hc.2.2.2, rfl, rfl⟩
  · rw [if_neg hc] at h
    cases h
theorem h_tg_push {t n k : Nat} : h_tg (h_push σ t n k) (h_sz σ) = t := va_up_self _ _ _
theorem h_ln_push {t n k : Nat} : h_ln (h_push σ t n k) (h_sz σ) = n := va_up_self _ _ _
theorem h_val_push {t n k kd j : Nat} : h_val kd (h_push σ t n k) (h_sz σ) j = if kd = 0 then .int 0 else if kd = 1 then va_rf none else .long 0 := by
  simp [h_val, h_push, h_iv, h_rv, h_lv, h_upA]
theorem h_I_push {H : Heap} {locs : List Loc} {ls : Array Slot} {t n k : Nat} {c1 : Cell} (I : h_I R s D dA bs nL σ lv H locs ls) (hk : c1.slots.size = k) (hc1 : h_sz σ + 1 ≤ h_cz σ) (hc2 : h_sl σ + k ≤ h_ck σ) (ha : h_at D dA (h_push σ t n k) H.size (H.push c1)) : h_I R s D dA bs nL (h_push σ t n k) lv (H.push c1) locs ls := by
  have hle : s.heap.size ≤ H.size := I.2.1.1
  refine ⟨hG_push I.1 (Nat.le_trans I.2.2.2.2.2 hle) hk hc1 hc2 ha, ⟨by rw [Array.size_push]; omega, fun q h1 h2 => ?_, I.2.1.2.2⟩, I.2.2⟩
  rw [Array.getElem?_push, if_neg (by omega)]
  exact I.2.1.2.1 q h1 h2
theorem V_new (C : h_C p m c cc nL s args own D dA) {idx t N : Nat} {Cn : String} {T : u_T} (hc : h_CL t Cn T N) (hw : Cond.classLink own idx Cn ∈ h_ws) (d : decode cc pc = .ok (.new idx, 3)) {r : Option Nat} {σ' : HS} (e0 : h_mk σ t N = some (r, σ')) (kk : V p l e R s m args below meth c D dA bs nL Q σ' (pc + 3) lv (va_rf r :: rest)) : V p l e R s m args below meth c D dA bs nL Q σ pc lv rest := fun H locs ls I => by
  obtain ⟨m1, m2, rfl, rfl⟩ := h_mk_some e0
  obtain ⟨t0, t1, hcl, hin, hins, hini, ty0, hty0, hnm, hkt⟩ := hc
  have hts := C.1.2.2.2.2
  have hKn := C.2.1 (t - 1) _ hcl
  have hz : H.size = h_sz σ := I.1.1
  have hs : slotSum H = h_sl σ := I.1.2.1
  have hle : s.heap.size ≤ H.size := I.2.1.1
  have c1 : s.heap.size + R.cells = h_cz σ := I.2.2.2.1
  have c2 : slotSum s.heap + R.slots = h_ck σ := I.2.2.2.2.1
  intro T0 hT X
  have hge : slotSum s.heap ≤ slotSum H := by rw [← hT]; exact h_sumge X
  refine W.newc C.1.1 C.1.2.1 C.1.2.2.2.1 (hts _ hw) (hts _ hins) (hts _ hini) rfl d (by omega) (by omega) (fun cC kC f1 f2 f3 f4 => ?_) T0 hT X
  have hcC : cC = D.1 (t - 1) := Option.some.inj (f1.symm.trans hKn.2.1)
  subst hcC
  refine W.tight ?_
  rw [hz]
  refine kk _ locs ls (h_I_push I ?_ m1 m2 ?_)
  · simpa using f4
  · rw [hz]
    intro hne
    rw [h_tg_push]
    refine ⟨fun _ => ⟨_, hcl, ?_⟩, fun h => absurd h (by omega)⟩
    have e1 : (H.push ({ cls := D.1 (t - 1), slots := kC.instanceTypes.map defaultValue, vm := .none } : Cell))[h_sz σ]? = some (blank (D.1 (t - 1)) kC) := by
      rw [← hz, Array.getElem?_push_size]; rfl
    refine (u_born ty0 hts hin hKn f2 e1 hty0).to (fun k hk => ?_)
    rw [h_val_push]
    rcases hkt k hk with ⟨h1, h2⟩ | ⟨h1, h2⟩ | ⟨h1, h2⟩
    · rw [h1, h2]; rfl
    · rw [h1, h2]; rfl
    · rw [h1]
      revert h2
      cases ty0 k <;> intro h2 <;> first | rfl | (simp [FieldType.isReference] at h2; done)
theorem V_newI (C : h_C p m c cc nL s args own D dA) (hw : Cond.arrayClass .int ∈ h_ws) (d : decode cc pc = .ok (.newarray .int, 2)) {n : Int32} {r : Option Nat} {σ' : HS} (e0 : h_mkA σ 100 n = some (r, σ')) (kk : V p l e R s m args below meth c D dA bs nL Q σ' (pc + 2) lv (va_rf r :: rest)) : V p l e R s m args below meth c D dA bs nL Q σ pc lv (.int n :: rest) := fun H locs ls I => by
  obtain ⟨m0, m9, m1, m2, rfl, rfl⟩ := h_mkA_some e0
  have hts := C.1.2.2.2.2
  have hz : H.size = h_sz σ := I.1.1
  have hs : slotSum H = h_sl σ := I.1.2.1
  have hle : s.heap.size ≤ H.size := I.2.1.1
  have c1 : s.heap.size + R.cells = h_cz σ := I.2.2.2.1
  have c2 : slotSum s.heap + R.slots = h_ck σ := I.2.2.2.2.1
  intro T0 hT X
  have hge : slotSum s.heap ≤ slotSum H := by rw [← hT]; exact h_sumge X
  refine W.newa C.1.1 C.1.2.1 (hts _ hw) rfl d rfl m0 (by show n.toNatClampNeg * 4 ≤ _; omega) (by omega) (by omega) (fun cA kA comp f1 f2 f3 => ?_) T0 hT X
  have hcA : cA = dA 0 := Option.some.inj (f1.symm.trans (C.2.2 0 _ h_ty0).2)
  subst hcA
  refine W.tight ?_
  rw [hz]
  refine kk _ locs ls (h_I_push I (by simp) m1 m2 ?_)
  rw [hz]
  intro hne
  rw [h_tg_push]
  refine ⟨fun h => absurd h (by omega), fun _ => ?_⟩
  rw [← hz, Array.getElem?_push_size, hz, h_ln_push, arrV_new]
  congr 2
  funext j
  rw [h_val_push]
  rfl
theorem V_newL (C : h_C p m c cc nL s args own D dA) (hw : Cond.arrayClass .long ∈ h_ws) (d : decode cc pc = .ok (.newarray .long, 2)) {n : Int32} {r : Option Nat} {σ' : HS} (e0 : h_mkA σ 101 n = some (r, σ')) (kk : V p l e R s m args below meth c D dA bs nL Q σ' (pc + 2) lv (va_rf r :: rest)) : V p l e R s m args below meth c D dA bs nL Q σ pc lv (.int n :: rest) := fun H locs ls I => by
  obtain ⟨m0, m9, m1, m2, rfl, rfl⟩ := h_mkA_some e0
  have hts := C.1.2.2.2.2
  have hz : H.size = h_sz σ := I.1.1
  have hs : slotSum H = h_sl σ := I.1.2.1
  have hle : s.heap.size ≤ H.size := I.2.1.1
  have c1 : s.heap.size + R.cells = h_cz σ := I.2.2.2.1
  have c2 : slotSum s.heap + R.slots = h_ck σ := I.2.2.2.2.1
  intro T0 hT X
  have hge : slotSum s.heap ≤ slotSum H := by rw [← hT]; exact h_sumge X
  refine W.newa C.1.1 C.1.2.1 (hts _ hw) rfl d rfl m0 (by show n.toNatClampNeg * 8 ≤ _; omega) (by omega) (by omega) (fun cA kA comp f1 f2 f3 => ?_) T0 hT X
  have hcA : cA = dA 1 := Option.some.inj (f1.symm.trans (C.2.2 1 _ h_ty1).2)
  subst hcA
  refine W.tight ?_
  rw [hz]
  refine kk _ locs ls (h_I_push I (by simp) m1 m2 ?_)
  rw [hz]
  intro hne
  rw [h_tg_push]
  refine ⟨fun h => absurd h (by omega), fun _ => ?_⟩
  rw [← hz, Array.getElem?_push_size, hz, h_ln_push, arrV_new]
  congr 2
  funext j
  rw [h_val_push]
  rfl
theorem V_newZ (C : h_C p m c cc nL s args own D dA) (hw : Cond.arrayClass .boolean ∈ h_ws) (d : decode cc pc = .ok (.newarray .boolean, 2)) {n : Int32} {r : Option Nat} {σ' : HS} (e0 : h_mkA σ 102 n = some (r, σ')) (kk : V p l e R s m args below meth c D dA bs nL Q σ' (pc + 2) lv (va_rf r :: rest)) : V p l e R s m args below meth c D dA bs nL Q σ pc lv (.int n :: rest) := fun H locs ls I => by
  obtain ⟨m0, m9, m1, m2, rfl, rfl⟩ := h_mkA_some e0
  have hts := C.1.2.2.2.2
  have hz : H.size = h_sz σ := I.1.1
  have hs : slotSum H = h_sl σ := I.1.2.1
  have hle : s.heap.size ≤ H.size := I.2.1.1
  have c1 : s.heap.size + R.cells = h_cz σ := I.2.2.2.1
  have c2 : slotSum s.heap + R.slots = h_ck σ := I.2.2.2.2.1
  intro T0 hT X
  have hge : slotSum s.heap ≤ slotSum H := by rw [← hT]; exact h_sumge X
  refine W.newa C.1.1 C.1.2.1 (hts _ hw) rfl d rfl m0 (by show n.toNatClampNeg * 1 ≤ _; omega) (by omega) (by omega) (fun cA kA comp f1 f2 f3 => ?_) T0 hT X
  have hcA : cA = dA 2 := Option.some.inj (f1.symm.trans (C.2.2 2 _ h_ty2).2)
  subst hcA
  refine W.tight ?_
  rw [hz]
  refine kk _ locs ls (h_I_push I (by simp) m1 m2 ?_)
  rw [hz]
  intro hne
  rw [h_tg_push]
  refine ⟨fun h => absurd h (by omega), fun _ => ?_⟩
  rw [← hz, Array.getElem?_push_size, hz, h_ln_push, arrV_new]
  congr 2
  funext j
  rw [h_val_push]
  rfl
theorem V_anew (C : h_C p m c cc nL s args own D dA) {idx t u : Nat} {Cn : String} {T : u_T} {N : Nat} (h1 : 103 ≤ t) (hcl : classes[u - 1]? = some (Cn, T, N)) (h3 : (h_tys dA)[t - 100]? = some (dA (t - 100), .object Cn)) (hw : Cond.classLink own idx Cn ∈ h_ws) (hw2 : Cond.arrayOver (.object Cn) ∈ h_ws) (d : decode cc pc = .ok (.anewarray idx, 3)) {n : Int32} {r : Option Nat} {σ' : HS} (e0 : h_mkA σ t n = some (r, σ')) (kk : V p l e R s m args below meth c D dA bs nL Q σ' (pc + 3) lv (va_rf r :: rest)) : V p l e R s m args below meth c D dA bs nL Q σ pc lv (.int n :: rest) := fun H locs ls I => by
  obtain ⟨m0, m9, m1, m2, rfl, rfl⟩ := h_mkA_some e0
  have hts := C.1.2.2.2.2
  have hz : H.size = h_sz σ := I.1.1
  have hs : slotSum H = h_sl σ := I.1.2.1
  have hle : s.heap.size ≤ H.size := I.2.1.1
  have c1 : s.heap.size + R.cells = h_cz σ := I.2.2.2.1
  have c2 : slotSum s.heap + R.slots = h_ck σ := I.2.2.2.2.1
  intro T0 hT X
  have hge : slotSum s.heap ≤ slotSum H := by rw [← hT]; exact h_sumge X
  refine W.anew C.1.1 C.1.2.1 C.1.2.2.2.1 (hts _ hw) (hts _ hw2) rfl d rfl m0 (by omega) (by omega) (by omega) (fun cA kA comp f1 f2 f3 f4 => ?_) T0 hT X
  have hcA : cA = dA (t - 100) := by
    obtain ⟨kA', comp', -, -, -, g4⟩ := (C.2.2 (t - 100) _ h3).2
    exact Option.some.inj (f1.symm.trans g4)
  subst hcA
  refine W.tight ?_
  rw [hz]
  refine kk _ locs ls (h_I_push I (by simp) m1 m2 ?_)
  rw [hz]
  intro hne
  rw [h_tg_push]
  refine ⟨fun h => absurd h (by omega), fun _ => ?_⟩
  rw [← hz, Array.getElem?_push_size, hz, h_ln_push, arrV_new]
  congr 2
  funext j
  rw [h_val_push, h_ak1 h1]
  rfl
theorem h_setA_val {a : Nat} {g : Nat → Int32} : (∀ b, b ≠ a → ∀ kd j, h_val kd (h_setA σ a g) b j = h_val kd σ b j) ∧ ∀ j, h_val 0 (h_setA σ a g) a j = .int (g j) := by
  refine ⟨fun b hb kd j => ?_, fun j => ?_⟩
  · simp [h_val, h_setA, h_iv, h_rv, h_lv, h_upA, hb]
  · simp [h_val, h_setA, h_iv, h_upA]
theorem V_copyI (C : h_C p m c cc nL s args own D dA) {idx : Nat} (hlink : Cond.methodLink own idx arraycopyName ∈ h_ws) (hnat : Cond.native arraycopyName ∈ h_ws) (hstat : Cond.static arraycopyName ∈ h_ws) (hini : Cond.initialized "java/lang/System" ∈ h_ws) (hframes : 1 ≤ R.frames) (hlocals : (rest.map fun v => v.category).sum + (nativeFrameWords "java/lang/System" "arraycopy" 5 + 11) ≤ R.locals) (d : decode cc pc = .ok (.invokestatic idx, 3)) {rs rd : Option Nat} {sp dp n : Int32} {σ' : HS} (e0 : h_cpI σ rs sp rd dp n = some σ') (kk : V p l e R s m args below meth c D dA bs nL Q σ' (pc + 3) lv rest) : V p l e R s m args below meth c D dA bs nL Q σ pc lv (.int n :: .int dp :: va_rf rd :: .int sp :: va_rf rs :: rest) := fun H locs ls I => by
  obtain ⟨a0, a, rfl, rfl, ⟨ta0, ta, h1, h2, h3, h4, h5⟩, rfl⟩ : ∃ a b, rs = some a ∧ rd = some b ∧ (h_tg σ a = 100 ∧ h_tg σ b = 100 ∧ ¬ sp < 0 ∧ ¬ dp < 0 ∧ ¬ n < 0 ∧ sp.toNatClampNeg + n.toNatClampNeg ≤ h_ln σ a ∧ dp.toNatClampNeg + n.toNatClampNeg ≤ h_ln σ b) ∧ σ' = h_setA σ b (va_cpy (h_iv σ a) (h_iv σ b) sp.toNatClampNeg dp.toNatClampNeg n.toNatClampNeg) := by
    cases rs with
    | none => cases e0
    | some a =>
      cases rd with
      | none => cases e0
      | some b =>
        have h' : (if h_tg σ a = 100 ∧ h_tg σ b = 100 ∧ ¬ sp < 0 ∧ ¬ dp < 0 ∧ ¬ n < 0 ∧ sp.toNatClampNeg + n.toNatClampNeg ≤ h_ln σ a ∧ dp.toNatClampNeg + n.toNatClampNeg ≤ h_ln σ b then some (h_setA σ b (va_cpy (h_iv σ a) (h_iv σ b) sp.toNatClampNeg dp.toNatClampNeg n.toNatClampNeg)) else none) = some σ' := e0
        by_cases hh : h_tg σ a = 100 ∧ h_tg σ b = 100 ∧ ¬ sp < 0 ∧ ¬ dp < 0 ∧ ¬ n < 0 ∧ sp.toNatClampNeg + n.toNatClampNeg ≤ h_ln σ a ∧ dp.toNatClampNeg + n.toNatClampNeg ≤ h_ln σ b
        · rw [if_pos hh] at h'
          exact ⟨a, b, rfl, rfl, hh, (Option.some.inj h').symm⟩
        · rw [if_neg hh] at h'
          cases h'
  have hts := C.1.2.2.2.2
  have nn : ∀ z : Int32, ¬ z < 0 → z.toInt = (z.toNatClampNeg : Int) := by
    intro z hz
    have hz0 : (0 : Int) ≤ z.toInt := by
      have := Int32.not_lt.mp hz
      simpa using Int32.le_iff_toInt_le.mp this
    show z.toInt = ((z.toInt.toNat : Nat) : Int)
    omega
  have hc0 : H[a0]? = some (vp_cell (dA 0) (h_ln σ a0, .inl (h_iv σ a0))) := h_ar I.1 ta0 (by omega)
  have hc1 : H[a]? = some (vp_cell (dA 0) (h_ln σ a, .inl (h_iv σ a))) := h_ar I.1 ta (by omega)
  obtain ⟨-, k0, hk0, cm0, hkk0⟩ := (C.2.2 0 _ h_ty0).1 (h_ln σ a0) (fun j => .int (h_iv σ a0 j))
  obtain ⟨-, k1, hk1, cm1, hkk1⟩ := (C.2.2 0 _ h_ty0).1 (h_ln σ a) (fun j => .int (h_iv σ a j))
  intro T hT X
  obtain ⟨vm', X', step⟩ := X.arraycopy C.1.1 C.1.2.2.2.1 (hts _ hlink) (hts _ hnat) (hts _ hstat) (hts _ hini) (src := a0) (dst := a) (cs := vp_cell (dA 0) (h_ln σ a0, .inl (h_iv σ a0))) (cd := vp_cell (dA 0) (h_ln σ a, .inl (h_iv σ a))) (srcPos := sp) (destPos := dp) (n := n) (by rw [hT]; exact hc0) (by rw [hT]; exact hc1)
    (fun _ h => by cases h) (fun _ h => by cases h) (fun h => by cases h) (fun h => by cases h) hk0 hk1 hkk0 hkk1 (by simp [refKind]) h1 h2 h3
    (by rw [nn sp h1, nn n h3]; show ¬ _ > ((arrV (dA 0) (h_ln σ a0) (fun j => .int (h_iv σ a0 j))).slots.size : Int); rw [arrV_size]; omega)
    (by rw [nn dp h2, nn n h3]; show ¬ _ > ((arrV (dA 0) (h_ln σ a) (fun j => .int (h_iv σ a j))).slots.size : Int); rw [arrV_size]; omega)
    (fun vm₁ _ i hi => by
      have e : (vp_cell (dA 0) (h_ln σ a0, .inl (h_iv σ a0))).slots.getD (sp.toNatClampNeg + i) .null = .int (h_iv σ a0 (sp.toNatClampNeg + i)) := by
        show (arrV (dA 0) (h_ln σ a0) (fun j => .int (h_iv σ a0 j))).slots.getD _ _ = _
        rw [Array.getD_eq_getD_getElem?, arrV_read _ _ (by omega)]
        rfl
      refine ⟨?_, ?_⟩
      · rw [e]
        rfl
      · rw [e]
        exact trivial)
    (g := F0 m pc ls (.int n :: .int dp :: .ref a :: .int sp :: .ref a0 :: rest)) rfl (by rw [C.1.2.2.1]; exact I.2.2.1.1.1) (rest := rest) rfl (by rw [C.1.2.1]; exact d) hframes (by show 2 * 0 + _ + _ ≤ _; omega)
  have e1 : copied (vp_cell (dA 0) (h_ln σ a0, .inl (h_iv σ a0))) (vp_cell (dA 0) (h_ln σ a, .inl (h_iv σ a))) sp dp n = vp_cell (dA 0) (h_ln σ a, .inl (va_cpy (h_iv σ a0) (h_iv σ a) sp.toNatClampNeg dp.toNatClampNeg n.toNatClampNeg)) := va_copied (fun z => .int z) (dA 0) (dA 0) (h_iv σ a0) (h_iv σ a) h4
  rw [e1] at X' step
  have hl : a < H.size := (Array.getElem?_eq_some_iff.mp hc1).1
  have hheap : ((T.setVm vm').setCell a (vp_cell (dA 0) (h_ln σ a, .inl (va_cpy (h_iv σ a0) (h_iv σ a) sp.toNatClampNeg dp.toNatClampNeg n.toNatClampNeg)))).heap = H.setIfInBounds a (vp_cell (dA 0) (h_ln σ a, .inl (va_cpy (h_iv σ a0) (h_iv σ a) sp.toNatClampNeg dp.toNatClampNeg n.toNatClampNeg))) := by rw [← hT]; rfl
  generalize hH1 : H.setIfInBounds a (vp_cell (dA 0) (h_ln σ a, .inl (va_cpy (h_iv σ a0) (h_iv σ a) sp.toNatClampNeg dp.toNatClampNeg n.toNatClampNeg))) = H1 at hheap
  have oq : ∀ q : Nat, q ≠ a → H1[q]? = H[q]? := fun q hq => by rw [← hH1]; simp [Array.getElem?_setIfInBounds, Ne.symm hq]
  have z1 : H1.size = H.size := by rw [← hH1]; simp
  have ea : H1[a]? = some (vp_cell (dA 0) (h_ln σ a, .inl (va_cpy (h_iv σ a0) (h_iv σ a) sp.toNatClampNeg dp.toNatClampNeg n.toNatClampNeg))) := by rw [← hH1]; simp [Array.getElem?_setIfInBounds, hl]
  have hsv := h_setA_val (σ := σ) (a := a) (g := va_cpy (h_iv σ a0) (h_iv σ a) sp.toNatClampNeg dp.toNatClampNeg n.toNatClampNeg)
  have I' : h_I R s D dA bs nL (h_setA σ a (va_cpy (h_iv σ a0) (h_iv σ a) sp.toNatClampNeg dp.toNatClampNeg n.toNatClampNeg)) lv H1 _ ls := by
    refine ⟨hG_set I.1 rfl rfl rfl rfl rfl rfl hsv.1 hc1 ea (by rw [vp_cell_i, vp_cell_i, arrV_size, arrV_size]) z1 oq ?_, ⟨by rw [z1]; exact I.2.1.1, fun q g1 g2 => ?_, fun q hq => ?_⟩, I.2.2.1, I.2.2.2⟩
    · intro hne
      have htt : h_tg (h_setA σ a (va_cpy (h_iv σ a0) (h_iv σ a) sp.toNatClampNeg dp.toNatClampNeg n.toNatClampNeg)) a = 100 := ta
      rw [htt]
      refine ⟨fun h => absurd h (by omega), fun _ => ?_⟩
      rw [ea, vp_cell_i]
      congr 2
      funext j
      exact (hsv.2 j).symm
    · rw [oq q (fun e => g2 (by rw [e]; exact I.1.2.2.2.2.1 a (by omega)))]
      exact I.2.1.2.1 q g1 g2
    · rcases List.mem_append.mp hq with h | h
      · exact I.2.1.2.2 q h
      · obtain ⟨z, -, hz⟩ := List.mem_map.mp h
        rw [← hz]
        exact I.1.2.2.2.2.1 a (by omega)
  obtain ⟨t, a1, b1⟩ := W.tight (kk H1 _ ls I') _ hheap X'
  exact ⟨t, step t a1, b1⟩
theorem V_objInit (C : h_C p m c cc nL s args own D dA) {idx : Nat} (w1 : Cond.methodLink own idx Lib.objectInit ∈ h_ws) (w2 : Cond.instanceMethod Lib.objectInit ∈ h_ws) (w3 : Cond.code Lib.objectInit ⟨#[0xb1]⟩ 1 none ∈ h_ws) (d : decode cc pc = .ok (.invokespecial idx, 3)) {r : Option Nat} {a : Nat} (hr : r = some a) (hf : 1 ≤ R.frames) (hl : (rest.map fun v => v.category).sum + 12 ≤ R.locals) (kk : V p l e R s m args below meth c D dA bs nL Q σ (pc + 3) lv rest) : V p l e R s m args below meth c D dA bs nL Q σ pc lv (va_rf r :: rest) := fun H locs ls I => by
  subst hr
  have hts := C.1.2.2.2.2
  refine W.objInit C.1.1 C.1.2.1 C.1.2.2.2.1 (hts _ w1) (hts _ w2) (hts _ w3) rfl (by rw [C.1.2.2.1]; exact I.2.2.1.1.1) rfl d hf (by show 2 * 0 + _ + _ ≤ _; omega) ?_
  exact kk H locs ls I
end HP
