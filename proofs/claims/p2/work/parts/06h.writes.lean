/-! ROWS OF THE WALK: what writes, what makes -/
section HP7
variable {p : Program} {l : Launch} {e : Env} {R : Room} {s : State} {m : MethodId} {args : Array Value} {below : List Frame} {meth : Method} {c : Code} {D : va_G} {dA : Nat → ClassId} {bs nL : Nat} {Q : State → Prop} {cc : ByteArray} {own : String} {σ : HS} {pc : Nat} {lv : List (Nat × Value)} {rest : List Value}
theorem h_I_arr {t n : Nat} {d : Value} {H : Heap} {locs : List Loc} {ls : Array Slot} (I : h_I R s D dA bs nL σ lv H locs ls) (m1 : h_sz σ + 1 ≤ h_cz σ) (m2 : h_sl σ + n ≤ h_ck σ) (h1 : 100 ≤ t) (hd : (if h_ak t = 0 then Value.int 0 else if h_ak t = 1 then va_rf none else .long 0) = d) : h_I R s D dA bs nL (h_push σ t n n) lv (H.push ({ cls := dA (t - 100), slots := Array.replicate n d, vm := .none } : Cell)) locs ls := by
  have hz : H.size = h_sz σ := I.1.1
  refine h_I_push I (by simp) m1 m2 ?_
  rw [hz]
  intro hne
  rw [h_tg_push]
  refine ⟨fun h => absurd h (by omega), fun _ => ?_⟩
  rw [← hz, Array.getElem?_push_size, hz, h_ln_push, arrV_new]
  congr 2
  funext j
  rw [h_val_push]
  exact hd.symm
theorem V_newI (C : h_C p m c cc nL s args own D dA) (hw : Cond.arrayClass .int ∈ h_ws) (d : decode cc pc = .ok (.newarray .int, 2)) {n : Int32} {r : Option Nat} {σ' : HS} (e0 : h_mkA σ 100 n = some (r, σ')) (kk : V p l e R s m args below meth c D dA bs nL Q σ' (pc + 2) lv (va_rf r :: rest)) : V p l e R s m args below meth c D dA bs nL Q σ pc lv (.int n :: rest) := fun H locs ls I => by
  obtain ⟨m0, m9, m1, m2, hr, hs'⟩ := h_mkA_some e0
  have hts := C.1.2.2.2.2
  have hz : H.size = h_sz σ := I.1.1
  have hcA := (C.2.1.2 0 _ h_ty0).2
  intro T0 hT X
  have hge : slotSum s.heap ≤ slotSum H := by rw [← hT]; exact h_sumge X
  obtain ⟨q1, q2⟩ := h_room I hge m1 m2
  have hby : n.toNatClampNeg * 4 ≤ 536870912 := by omega
  have key : W p l e R s m args below meth c H locs (H.size - s.heap.size) (slotSum H - slotSum s.heap) Q (F0 m pc ls (.int n :: rest)) := by
    refine W.newa (atype := .int) C.1.1 C.1.2.1 (hts _ hw) rfl d rfl m0 hby q1 q2 (fun cA kA comp f1 f2 f3 => ?_)
    have e : cA = dA 0 := Option.some.inj (f1.symm.trans hcA)
    rw [e]
    have hV := kk (H.push ({ cls := dA 0, slots := Array.replicate n.toNatClampNeg (.int 0), vm := .none } : Cell)) locs ls (by rw [hs']; exact h_I_arr (t := 100) I m1 m2 (by decide) rfl)
    rw [hr, ← hz] at hV
    exact W.tight hV
  exact key T0 hT X
theorem V_newL (C : h_C p m c cc nL s args own D dA) (hw : Cond.arrayClass .long ∈ h_ws) (d : decode cc pc = .ok (.newarray .long, 2)) {n : Int32} {r : Option Nat} {σ' : HS} (e0 : h_mkA σ 101 n = some (r, σ')) (kk : V p l e R s m args below meth c D dA bs nL Q σ' (pc + 2) lv (va_rf r :: rest)) : V p l e R s m args below meth c D dA bs nL Q σ pc lv (.int n :: rest) := fun H locs ls I => by
  obtain ⟨m0, m9, m1, m2, hr, hs'⟩ := h_mkA_some e0
  have hts := C.1.2.2.2.2
  have hz : H.size = h_sz σ := I.1.1
  have hcA := (C.2.1.2 1 _ h_ty1).2
  intro T0 hT X
  have hge : slotSum s.heap ≤ slotSum H := by rw [← hT]; exact h_sumge X
  obtain ⟨q1, q2⟩ := h_room I hge m1 m2
  have hby : n.toNatClampNeg * 8 ≤ 536870912 := by omega
  have key : W p l e R s m args below meth c H locs (H.size - s.heap.size) (slotSum H - slotSum s.heap) Q (F0 m pc ls (.int n :: rest)) := by
    refine W.newa (atype := .long) C.1.1 C.1.2.1 (hts _ hw) rfl d rfl m0 hby q1 q2 (fun cA kA comp f1 f2 f3 => ?_)
    have e : cA = dA 1 := Option.some.inj (f1.symm.trans hcA)
    rw [e]
    have hV := kk (H.push ({ cls := dA 1, slots := Array.replicate n.toNatClampNeg (.long 0), vm := .none } : Cell)) locs ls (by rw [hs']; exact h_I_arr (t := 101) I m1 m2 (by decide) rfl)
    rw [hr, ← hz] at hV
    exact W.tight hV
  exact key T0 hT X
theorem V_newZ (C : h_C p m c cc nL s args own D dA) (hw : Cond.arrayClass .boolean ∈ h_ws) (d : decode cc pc = .ok (.newarray .boolean, 2)) {n : Int32} {r : Option Nat} {σ' : HS} (e0 : h_mkA σ 102 n = some (r, σ')) (kk : V p l e R s m args below meth c D dA bs nL Q σ' (pc + 2) lv (va_rf r :: rest)) : V p l e R s m args below meth c D dA bs nL Q σ pc lv (.int n :: rest) := fun H locs ls I => by
  obtain ⟨m0, m9, m1, m2, hr, hs'⟩ := h_mkA_some e0
  have hts := C.1.2.2.2.2
  have hz : H.size = h_sz σ := I.1.1
  have hcA := (C.2.1.2 2 _ h_ty2).2
  intro T0 hT X
  have hge : slotSum s.heap ≤ slotSum H := by rw [← hT]; exact h_sumge X
  obtain ⟨q1, q2⟩ := h_room I hge m1 m2
  have hby : n.toNatClampNeg * 1 ≤ 536870912 := by omega
  have key : W p l e R s m args below meth c H locs (H.size - s.heap.size) (slotSum H - slotSum s.heap) Q (F0 m pc ls (.int n :: rest)) := by
    refine W.newa (atype := .boolean) C.1.1 C.1.2.1 (hts _ hw) rfl d rfl m0 hby q1 q2 (fun cA kA comp f1 f2 f3 => ?_)
    have e : cA = dA 2 := Option.some.inj (f1.symm.trans hcA)
    rw [e]
    have hV := kk (H.push ({ cls := dA 2, slots := Array.replicate n.toNatClampNeg (.int 0), vm := .none } : Cell)) locs ls (by rw [hs']; exact h_I_arr (t := 102) I m1 m2 (by decide) rfl)
    rw [hr, ← hz] at hV
    exact W.tight hV
  exact key T0 hT X
theorem V_anew (C : h_C p m c cc nL s args own D dA) {idx t u : Nat} {Cn : String} {T : u_T} {N : Nat} (h1 : 103 ≤ t) (hcl : classes[u - 1]? = some (Cn, T, N)) (h3 : (h_tys dA)[t - 100]? = some (dA (t - 100), .object Cn)) (hw : Cond.classLink own idx Cn ∈ h_ws) (hw2 : Cn ∈ h_aos) (d : decode cc pc = .ok (.anewarray idx, 3)) {n : Int32} {r : Option Nat} {σ' : HS} (e0 : h_mkA σ t n = some (r, σ')) (kk : V p l e R s m args below meth c D dA bs nL Q σ' (pc + 3) lv (va_rf r :: rest)) : V p l e R s m args below meth c D dA bs nL Q σ pc lv (.int n :: rest) := fun H locs ls I => by
  obtain ⟨m0, m9, m1, m2, hr, hs'⟩ := h_mkA_some e0
  have hts := C.1.2.2.2.2
  have hz : H.size = h_sz σ := I.1.1
  obtain ⟨kA', comp', -, -, -, hcA⟩ := (C.2.1.2 (t - 100) _ h3).2
  intro T0 hT X
  have hge : slotSum s.heap ≤ slotSum H := by rw [← hT]; exact h_sumge X
  obtain ⟨q1, q2⟩ := h_room I hge m1 m2
  have hby : n.toNatClampNeg * 4 ≤ 536870912 := by omega
  have key : W p l e R s m args below meth c H locs (H.size - s.heap.size) (slotSum H - slotSum s.heap) Q (F0 m pc ls (.int n :: rest)) := by
    refine W.anew C.1.1 C.1.2.1 C.1.2.2.2.1 (hts _ hw) (va_AO.use (C.2.2 Cn hw2)) rfl d rfl m0 hby q1 q2 (fun cA kA comp f1 f2 f3 f4 => ?_)
    have e : cA = dA (t - 100) := Option.some.inj (f1.symm.trans hcA)
    rw [e]
    have hV := kk (H.push ({ cls := dA (t - 100), slots := Array.replicate n.toNatClampNeg .null, vm := .none } : Cell)) locs ls (by rw [hs']; exact h_I_arr (t := t) I m1 m2 (by omega) (by rw [h_ak1 h1]; rfl))
    rw [hr, ← hz] at hV
    exact W.tight hV
  exact key T0 hT X
end HP7
