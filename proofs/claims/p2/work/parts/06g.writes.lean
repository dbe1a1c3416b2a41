/-! ROWS OF THE WALK: what writes, what makes -/
section HP6
variable {p : Program} {l : Launch} {e : Env} {R : Room} {s : State} {m : MethodId} {args : Array Value} {below : List Frame} {meth : Method} {c : Code} {D : va_G} {dA : Nat → ClassId} {bs nL : Nat} {Q : State → Prop} {cc : ByteArray} {own : String} {σ : HS} {pc : Nat} {lv : List (Nat × Value)} {rest : List Value}
theorem h_I_new (C : h_C p m c cc nL s args own D dA) {t N : Nat} {Cn : String} {T : u_T} (hc : h_CL t Cn T N) {H : Heap} {locs : List Loc} {ls : Array Slot} (I : h_I R s D dA bs nL σ lv H locs ls) (m1 : h_sz σ + 1 ≤ h_cz σ) (m2 : h_sl σ + N ≤ h_ck σ) {kC : Class} (f2 : s.vm.classes[D.1 (t - 1)]? = some kC) (f4 : kC.instanceTypes.size = N) : h_I R s D dA bs nL (h_push σ t 0 N) lv (H.push (blank (D.1 (t - 1)) kC)) locs ls := by
  obtain ⟨t0, t1, hcl, hin, hins, hini, ty0, hty0, hnm, hkt⟩ := hc
  have hts := C.1.2.2.2.2
  have hKn := C.2.1.1 (t - 1) _ hcl
  have hz : H.size = h_sz σ := I.1.1
  refine h_I_push I ?_ m1 m2 ?_
  · rw [← f4]; simp [blank]
  · rw [hz]
    intro hne
    rw [h_tg_push]
    refine ⟨fun _ => ⟨_, hcl, ?_⟩, fun h => absurd h (by omega)⟩
    have e1 : (H.push (blank (D.1 (t - 1)) kC))[h_sz σ]? = some (blank (D.1 (t - 1)) kC) := by
      rw [← hz, Array.getElem?_push_size]
    refine (u_born ty0 hts hin hKn f2 e1 hty0).to (fun k hk => ?_)
    rw [h_val_push]
    rcases hkt k hk with ⟨h1, h2⟩ | ⟨h1, h2⟩ | ⟨h1, h2⟩
    · rw [h1, h2]; rfl
    · rw [h1, h2]; rfl
    · rw [h1]
      revert h2
      cases ty0 k <;> intro h2 <;> first | rfl | (simp [FieldType.isReference] at h2; done)
theorem h_room {H : Heap} {locs : List Loc} {ls : Array Slot} {n : Nat} (I : h_I R s D dA bs nL σ lv H locs ls) (hge : slotSum s.heap ≤ slotSum H) (m1 : h_sz σ + 1 ≤ h_cz σ) (m2 : h_sl σ + n ≤ h_ck σ) : H.size - s.heap.size + 1 ≤ R.cells ∧ slotSum H - slotSum s.heap + n ≤ R.slots := by
  have hz : H.size = h_sz σ := I.1.1
  have hs : slotSum H = h_sl σ := I.1.2.1
  have hle : s.heap.size ≤ H.size := I.2.1.1
  have c1 : s.heap.size + R.cells = h_cz σ := I.2.2.2.1
  have c2 : slotSum s.heap + R.slots = h_ck σ := I.2.2.2.2.1
  omega
theorem V_new (C : h_C p m c cc nL s args own D dA) {idx t N : Nat} {Cn : String} {T : u_T} (hc : h_CL t Cn T N) (hw : Cond.classLink own idx Cn ∈ h_ws) (d : decode cc pc = .ok (.new idx, 3)) {r : Option Nat} {σ' : HS} (e0 : h_mk σ t N = some (r, σ')) (kk : V p l e R s m args below meth c D dA bs nL Q σ' (pc + 3) lv (va_rf r :: rest)) : V p l e R s m args below meth c D dA bs nL Q σ pc lv rest := fun H locs ls I => by
  obtain ⟨m1, m2, hr, hs'⟩ := h_mk_some e0
  have hts := C.1.2.2.2.2
  have hz : H.size = h_sz σ := I.1.1
  have hcC := (C.2.1.1 (t - 1) _ hc.2.2.1).2.1
  intro T0 hT X
  have hge : slotSum s.heap ≤ slotSum H := by rw [← hT]; exact h_sumge X
  obtain ⟨q1, q2⟩ := h_room I hge m1 m2
  have key : W p l e R s m args below meth c H locs (H.size - s.heap.size) (slotSum H - slotSum s.heap) Q (F0 m pc ls rest) := by
    refine W.newc C.1.1 C.1.2.1 C.1.2.2.2.1 (hts _ hw) (hts _ hc.2.2.2.2.1) (hts _ hc.2.2.2.2.2.1) rfl d q1 q2 (fun cC kC f1 f2 f3 f4 => ?_)
    have e : cC = D.1 (t - 1) := Option.some.inj (f1.symm.trans hcC)
    rw [e] at f2 ⊢
    have hV := kk (H.push (blank (D.1 (t - 1)) kC)) locs ls (by rw [hs']; exact h_I_new C hc I m1 m2 f2 f4)
    rw [hr, ← hz] at hV
    exact W.tight hV
  exact key T0 hT X
end HP6
