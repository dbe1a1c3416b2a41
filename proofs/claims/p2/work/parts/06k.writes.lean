/-! ROWS OF THE WALK: what writes, what makes -/
section HP10
variable {p : Program} {l : Launch} {e : Env} {R : Room} {s : State} {m : MethodId} {args : Array Value} {below : List Frame} {meth : Method} {c : Code} {D : va_G} {dA : Nat → ClassId} {bs nL : Nat} {Q : State → Prop} {cc : ByteArray} {own : String} {σ : HS} {pc : Nat} {lv : List (Nat × Value)} {rest : List Value}
theorem V_objInit (C : h_C p m c cc nL s args own D dA) {idx : Nat} (w1 : Cond.methodLink own idx Lib.objectInit ∈ h_ws) (w2 : Cond.instanceMethod Lib.objectInit ∈ h_ws) (w3 : Cond.code Lib.objectInit ⟨#[0xb1]⟩ 1 none ∈ h_ws) (d : decode cc pc = .ok (.invokespecial idx, 3)) {r : Option Nat} {a : Nat} (hr : r = some a) (hf : 1 ≤ R.frames) (hl : (rest.map fun v => v.category).sum + 12 ≤ R.locals) (kk : V p l e R s m args below meth c D dA bs nL Q σ (pc + 3) lv rest) : V p l e R s m args below meth c D dA bs nL Q σ pc lv (va_rf r :: rest) := fun H locs ls I => by
  subst hr
  have hts := C.1.2.2.2.2
  refine W.objInit C.1.1 C.1.2.1 C.1.2.2.2.1 (hts _ w1) (hts _ w2) (hts _ w3) rfl (by rw [C.1.2.2.1]; exact I.2.2.1.1.1) rfl d hf (by show 2 * 0 + _ + _ ≤ _; omega) ?_
  exact kk H locs ls I
end HP10
