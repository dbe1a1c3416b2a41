/-! ROWS OF THE WALK: what writes, what makes -/
section HP0
variable {p : Program} {l : Launch} {e : Env} {R : Room} {s : State} {m : MethodId} {args : Array Value} {below : List Frame} {meth : Method} {c : Code} {D : va_G} {dA : Nat → ClassId} {bs nL : Nat} {Q : State → Prop} {cc : ByteArray} {own : String} {σ : HS} {pc : Nat} {lv : List (Nat × Value)} {rest : List Value}
/-- σ' is σ with the value v in the field k of a -/
def h_put (σ σ' : HS) (a t k : Nat) (v : Value) : Prop := h_tg σ' = h_tg σ ∧ h_ln σ' = h_ln σ ∧ h_sz σ' = h_sz σ ∧ h_sl σ' = h_sl σ ∧ h_cz σ' = h_cz σ ∧ h_ck σ' = h_ck σ ∧
  (∀ b, b ≠ a → ∀ kd j, h_val kd σ' b j = h_val kd σ b j) ∧ (∀ j, j ≠ k → ∀ kd, h_val kd σ' a j = h_val kd σ a j) ∧ (t < 100 → h_val (h_kd t k) σ' a k = v) ∧ (100 ≤ t → h_val (h_ak t) σ' a k = v)
theorem h_putI {a t k : Nat} {v : Int32} (h1 : t < 100 → h_kd t k = 0) (h2 : 100 ≤ t → h_ak t = 0) : h_put σ (h_setI σ a k v) a t k (.int v) := by
  refine ⟨rfl, rfl, rfl, rfl, rfl, rfl, fun b hb kd j => ?_, fun j hj kd => ?_, fun h => ?_, fun h => ?_⟩
  · simp [h_val, h_setI, h_iv, h_rv, h_lv, h_up2, hb]
  · simp [h_val, h_setI, h_iv, h_rv, h_lv, h_up2, hj]
  · rw [h1 h]; simp [h_val, h_setI, h_iv, h_up2]
  · rw [h2 h]; simp [h_val, h_setI, h_iv, h_up2]
theorem h_putR {a t k : Nat} {v : Option Nat} (h1 : t < 100 → h_kd t k = 1) (h2 : 100 ≤ t → h_ak t = 1) : h_put σ (h_setR σ a k v) a t k (va_rf v) := by
  refine ⟨rfl, rfl, rfl, rfl, rfl, rfl, fun b hb kd j => ?_, fun j hj kd => ?_, fun h => ?_, fun h => ?_⟩
  · simp [h_val, h_setR, h_iv, h_rv, h_lv, h_up2, hb]
  · simp [h_val, h_setR, h_iv, h_rv, h_lv, h_up2, hj]
  · rw [h1 h]; simp [h_val, h_setR, h_rv, h_up2]
  · rw [h2 h]; simp [h_val, h_setR, h_rv, h_up2]
theorem h_putL {a t k : Nat} {v : Int64} (h1 : t < 100 → h_kd t k = 2) (h2 : 100 ≤ t → h_ak t = 2) : h_put σ (h_setL σ a k v) a t k (.long v) := by
  refine ⟨rfl, rfl, rfl, rfl, rfl, rfl, fun b hb kd j => ?_, fun j hj kd => ?_, fun h => ?_, fun h => ?_⟩
  · simp [h_val, h_setL, h_iv, h_rv, h_lv, h_up2, hb]
  · simp [h_val, h_setL, h_iv, h_rv, h_lv, h_up2, hj]
  · rw [h1 h]; simp [h_val, h_setL, h_lv, h_up2]
  · rw [h2 h]; simp [h_val, h_setL, h_lv, h_up2]
theorem h_I_put {σ' : HS} {H H1 : Heap} {locs : List Loc} {ls : Array Slot} {a t k i : Nat} {v : Value} {c0 c1 : Cell} (I : h_I R s D dA bs nL σ lv H locs ls) (hp : h_put σ σ' a t k v) (h0 : h_tg σ a ≠ 0) (e0 : H[a]? = some c0) (e1 : H1[a]? = some c1) (es : c1.slots.size = c0.slots.size) (z1 : H1.size = H.size) (o1 : ∀ q, q ≠ a → H1[q]? = H[q]?) (ha : h_at D dA σ' a H1) : h_I R s D dA bs nL σ' lv H1 (locs ++ [⟨a, i⟩]) ls := by
  obtain ⟨q1, q2, q3, q4, q5, q6, q7, -⟩ := hp
  exact ⟨hG_set I.1 q1 q2 q3 q4 q5 q6 q7 e0 e1 es z1 o1 ha, I.2.1.put z1 o1 (I.1.2.2.2.2.1 a h0), I.2.2.1, by rw [q5]; exact I.2.2.2.1, by rw [q6]; exact I.2.2.2.2.1, I.2.2.2.2.2⟩
theorem h_putO (C : h_C p m c cc nL s args own D dA) {idx t k : Nat} {σ' : HS} {kd : Nat} (fl : h_FW own idx t k kd ∨ (h_FF own idx t k kd ∧ meth.name = "<init>")) (d : decode cc pc = .ok (.putfield idx, 3)) {a : Nat} {v : Value} (ht : h_tg σ a = t) (hp : h_put σ σ' a t k v)
    (hty : ∀ ty : FieldType, (kd = 0 ∧ ty = .int) ∨ (kd = 2 ∧ ty = .long) ∨ (kd = 1 ∧ ty.isReference = true) → narrow ty v = v ∧ fits ty v = true)
    (kk : V p l e R s m args below meth c D dA bs nL Q σ' (pc + 3) lv rest) : V p l e R s m args below meth c D dA bs nL Q σ pc lv (v :: .ref a :: rest) := fun H locs ls I => by
  have hfl : ∃ (Cn : String) (T : u_T) (N : Nat), h_CL t Cn T N ∧ k < N ∧ h_kd t k = kd ∧ Cond.fieldLink own idx (T k).1 (T k).2.1 (T k).2.2.1 ∈ h_ws ∧ ((T k).2.2.2 = false ∨ ((T k).2.2.2 = true ∧ (T k).1 = own ∧ meth.name = "<init>")) := by
    rcases fl with ⟨Cn, T, N, h1, h2, h3, h4, h5⟩ | ⟨⟨Cn, T, N, h1, h2, h3, h4, h5, h6⟩, h7⟩
    · exact ⟨Cn, T, N, h1, h2, h3, h4, Or.inl h5⟩
    · exact ⟨Cn, T, N, h1, h2, h3, h4, Or.inr ⟨h5, h6, h7⟩⟩
  obtain ⟨Cn, T, N, hc, hk, hkd, hw, hfin⟩ := hfl
  obtain ⟨t0, t1, hcl, hin, hins, hini, ty0, hty0, hnm, hkt⟩ := id hc
  have hts := C.1.2.2.2.2
  have hap := va_apart (own := own) hts hin ty0 hty0 hnm C.2.1 hcl
  obtain ⟨r, r1, cell, q1, q2, q3, q4⟩ := (I.1.2.2.2.2.2 a (by omega)).1 (by omega)
  rw [ht] at r1 q2 q4
  have hr : r = (Cn, T, N) := Option.some.inj (r1.symm.trans hcl)
  subst hr
  obtain ⟨hS, hfc, kC, hkC, hkind⟩ := C.2.1.1 (t - 1) _ hcl
  obtain ⟨cf, kf, fi, f, hi, hsl⟩ := hS k hk
  have hlay := hts _ (hin _ (u_in_lay hk))
  have hst := (u_facts hfc hkC (u_lays hts hin hk) hi).1
  obtain ⟨hn, hfit⟩ := hty (ty0 k) (by rw [← hkd]; exact hkt k hk)
  have fin : ∀ H' : Heap, H'[a]? = some (cell.setSlot f.slot v) → H'.size = H.size → (∀ q, q ≠ a → H'[q]? = H[q]?) → W p l e R s m args below meth c H' (locs ++ [⟨a, f.slot⟩]) (H.size - s.heap.size) (slotSum H - slotSum s.heap) Q (F0 m (pc + 3) ls rest) := by
    intro H' e1 e2 e3
    refine W.tight (kk H' _ ls (h_I_put I hp (by omega) q1 e1 (k2_slotsz _ _ _) e2 e3 ?_))
    intro hne
    have htt : h_tg σ' a = t := by rw [hp.1]; exact ht
    rw [htt]
    refine ⟨fun _ => ⟨_, hcl, ?_⟩, fun h => absurd h (by omega)⟩
    rw [hsl] at e1
    refine t_OB.to (V := updV (fun k => h_val (h_kd t k) σ a k) k v) ⟨_, e1, q2, q3, t_set q4 hap hk v⟩ (fun j _ => ?_)
    by_cases hj : j = k
    · subst hj
      simp only [updV, if_true]
      exact (hp.2.2.2.2.2.2.2.2.1 t1).symm
    · simp only [updV, hj, if_false]
      exact (hp.2.2.2.2.2.2.2.1 j hj _).symm
  rcases hfin with hfin | ⟨hfin, hdecl, hin2⟩
  · unfold u_lay at hlay
    rw [if_neg (by rw [hfin]; decide)] at hlay
    have h6 := u_store hfc hkC hkind hlay hi (hty0 k hk) hn hfit
    exact W.putK C.1.1 C.1.2.1 (f := f) ⟨C.1.2.2.2.1, hts _ hw, ⟨_, _, _, hi⟩, hst⟩ (by rw [q2]; exact h6) q1 q3 (by rw [hsl]; exact k2_hasslot (q4 k hk)) rfl rfl d fin
  · unfold u_lay at hlay
    rw [if_pos hfin] at hlay
    have hcf : m.cls = cf := by
      obtain ⟨_, _, c', _, _, _, -, -, hf', -, -, -, hown2, -⟩ := Cond.laysFinal_spec hlay
      have e1 : c' = cf := by have := hi.symm.trans hf'; simp at this; exact this.1.symm
      rw [hdecl] at hown2
      rw [← e1]; exact Option.some.inj (C.1.2.2.2.1.symm.trans hown2)
    have h6 := u_fits hfc hkC hkind (Or.inr hlay) hi (hty0 k hk) hn hfit
    exact W.putFinK C.1.1 C.1.2.1 C.1.2.2.2.1 (hts _ hw) hi hst hcf hin2 (by rw [q2]; exact h6) q1 q3 (by rw [hsl]; exact k2_hasslot (q4 k hk)) rfl rfl d fin
end HP0
