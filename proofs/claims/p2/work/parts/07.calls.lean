/-! CONTRACTS: a method from σ to σ', its answer; calls, returns -/
def h_rm (F L : Nat) (σ : HS) : Room := { frames := F, cells := h_cz σ - h_sz σ, slots := h_ck σ - h_sl σ, locals := L }
def h_Pc (D : va_G) (dA : Nat → ClassId) (bs : Nat) (σ : HS) (av : List Value) : Array Value → State → Prop := va_Pc av (fun U => hG D dA bs σ U.heap ∧ h_K D dA U ∧ bs ≤ U.heap.size)
def h_Q (D : va_G) (dA : Nat → ClassId) (bs : Nat) (rv : Option Value) (σ σ' : HS) : Array Value → State → Outcome → State → Prop := fun _ st o t => o = .returned rv ∧ hG D dA bs σ' t.heap ∧ va_F (fun q => bs ≤ q) st t ∧ h_cz σ' = h_cz σ ∧ h_ck σ' = h_ck σ
def MetC (l : Launch) (y : MethodName) (cc : ByteArray) (maxL : Nat) (ret : Option FieldType) (F L : Nat) (D : va_G) (dA : Nat → ClassId) (bs : Nat) (av : List Value) (rv : Option Value) (σ σ' : HS) : Prop :=
  Met l y (Cond.code y cc maxL ret :: h_ws) (h_rm F L σ) (h_Pc D dA bs σ av) (h_Q D dA bs rv σ σ') (h_cz σ - h_sz σ) (h_ck σ - h_sl σ) (fun q => bs ≤ q)
theorem h_blind {D : va_G} {dA : Nat → ClassId} {bs : Nat} {σ : HS} {av : List Value} : FrameBlind (h_Pc D dA bs σ av) := fun a U g mk q => ⟨q.1, q.2.1, h_K.moved (u := U) (U := U.calling g mk a) (Vm.Alike.refl U.vm) q.2.2.1, q.2.2.2⟩
theorem h_goodIn {y : MethodName} {cc : ByteArray} {maxL : Nat} {ret : Option FieldType} (h : Cond.code y cc maxL ret ∈ h_ws) : GoodIn h_ws (Cond.code y cc maxL ret :: h_ws) := by
  intro w hw
  rcases List.mem_cons.mp hw with e | e
  · rw [e]; exact ⟨h, good_of_word (h_ws_good _ h)⟩
  · exact ⟨e, good_of_word (h_ws_good _ e)⟩
def h_rcv (σ : HS) (r : Option Nat) (t : Nat) : Option Nat := r.bind fun a => if h_tg σ a = t then some a else none
def h_MY (y : MethodName) (n : Nat) : Prop := y.cls ≠ "java/lang/invoke/MethodHandle" ∧ y.cls ≠ "java/lang/invoke/VarHandle" ∧ (parseMethodDescriptor y.desc).map (fun d => d.parameters.length) = some n
/-- the words of a call: by the receiver; static; of a constructor -/
def h_MV (own : String) (idx t : Nat) (y : MethodName) (bytes : ByteArray) (maxL : Nat) (ret : Option FieldType) (n : Nat) : Prop := (∃ (T : u_T) (N : Nat), h_CL t y.cls T N) ∧ h_MY y n ∧ Cond.methodLink own idx y ∈ h_ws ∧ Cond.instanceMethod y ∈ h_ws ∧ Cond.selects y.cls y y ∈ h_ws ∧ Cond.code y bytes maxL ret ∈ h_ws
def h_MS (own : String) (idx : Nat) (y : MethodName) (bytes : ByteArray) (maxL : Nat) (ret : Option FieldType) (n : Nat) : Prop := h_MY y n ∧ Cond.methodLink own idx y ∈ h_ws ∧ Cond.static y ∈ h_ws ∧ Cond.initialized y.cls ∈ h_ws ∧ Cond.code y bytes maxL ret ∈ h_ws
def h_MI (own : String) (idx : Nat) (y : MethodName) (bytes : ByteArray) (maxL : Nat) (n : Nat) : Prop := y.name = "<init>" ∧ h_MY y n ∧ Cond.methodLink own idx y ∈ h_ws ∧ Cond.instanceMethod y ∈ h_ws ∧ Cond.initialized y.cls ∈ h_ws ∧ Cond.code y bytes maxL none ∈ h_ws
/-- what a body knows of its method and its room -/
def h_B (R : Room) (s : State) (meth : Method) (σ : HS) (ret : Option FieldType) (F L : Nat) : Prop := meth.sig.returnType = ret ∧ meth.locks = false ∧ s.heap.size + R.cells = h_cz σ ∧ slotSum s.heap + R.slots = h_ck σ ∧ R.frames = F ∧ R.locals = L
def h_args : Nat → List Value → List (Nat × Value)
  | _, [] => []
  | n, v :: l => (n, v) :: h_args (n + 1) l
section HC
variable {p : Program} {l : Launch} {e : Env} {R : Room} {s : State} {m : MethodId} {args : Array Value} {below : List Frame} {meth : Method} {c : Code} {D : va_G} {dA : Nat → ClassId} {bs nL : Nat} {Q : State → Prop} {cc : ByteArray} {own : String} {σ σ' : HS} {pc : Nat} {lv : List (Nat × Value)} {rest st0 : List Value}
theorem V_run {rv : Option Value} {a : Array Value} (hr : ∀ H locs ls, h_I R s D dA bs nL σ lv H locs ls → slotSum s.heap ≤ slotSum H → va_Run p l e R s m args below meth c H locs (H.size - s.heap.size) (slotSum H - slotSum s.heap) (h_cz σ - h_sz σ) (h_ck σ - h_sl σ) (F0 m pc ls st0) rest (h_Q D dA bs rv σ σ' a) (fun q => bs ≤ q))
    (kk : V p l e R s m args below meth c D dA bs nL Q σ' (pc + 3) lv (rv.toList ++ rest)) : V p l e R s m args below meth c D dA bs nL Q σ pc lv st0 := fun H locs ls I => by
  intro T hT X
  have hge : slotSum s.heap ≤ slotSum H := by rw [← hT]; exact h_sumge X
  obtain ⟨v, st₀, t, T', L, h0, X', hL, e1, e2, ⟨ho, hg', hF', hcz, hck⟩, st⟩ := hr H locs ls I hge T hT X
  cases ho
  rw [← e1] at hg'
  have hz : st₀.heap.size ≤ t.heap.size := hF'.1
  have hk := hF'.2
  rw [h0] at hz hk
  have I' : h_I R s D dA bs nL σ' lv T'.heap (locs ++ L) ls := by
    refine ⟨hg', ⟨Nat.le_trans I.2.1.1 (by rw [e1]; exact hz), fun q h1 h2 => ?_, fun q hq => ?_⟩, I.2.2.1, by rw [hcz]; exact I.2.2.2.1, by rw [hck]; exact I.2.2.2.2.1, I.2.2.2.2.2⟩
    · rw [e1, hk q (Nat.lt_of_lt_of_le h1 I.2.1.1) h2]
      exact I.2.1.2.1 q h1 h2
    · rcases List.mem_append.mp hq with h | h
      · exact I.2.1.2.2 q h
      · exact hL q h
  obtain ⟨t2, a1, b1⟩ := W.tight (kk T'.heap _ ls I') T' rfl X'
  exact ⟨t2, st t2 a1, b1⟩
theorem h_fit {H : Heap} {locs : List Loc} {ls : Array Slot} (I : h_I R s D dA bs nL σ lv H locs ls) (hge : slotSum s.heap ≤ slotSum H) : H.size - s.heap.size + (h_cz σ - h_sz σ) ≤ R.cells ∧ slotSum H - slotSum s.heap + (h_ck σ - h_sl σ) ≤ R.slots := by
  have h1 : H.size = h_sz σ := I.1.1
  have h2 : slotSum H = h_sl σ := I.1.2.1
  have h3 : h_sz σ ≤ h_cz σ := I.1.2.2.1
  have h4 : h_sl σ ≤ h_ck σ := I.1.2.2.2.1
  have h5 : s.heap.size ≤ H.size := I.2.1.1
  have h6 : s.heap.size + R.cells = h_cz σ := I.2.2.2.1
  have h7 : slotSum s.heap + R.slots = h_ck σ := I.2.2.2.2.1
  omega
theorem h_pre {H : Heap} {locs : List Loc} {ls : Array Slot} {av : List Value} (C : h_C p m c cc nL s args own D dA) (I : h_I R s D dA bs nL σ lv H locs ls) : ∀ U : State, U.heap = H → s.WarmedH U.vm → h_Pc D dA bs σ av av.toArray U := by
  intro U hU hW
  refine ⟨rfl, by rw [hU]; exact I.1, h_K.moved hW.alike C.2, ?_⟩
  rw [hU]
  exact Nat.le_trans I.2.2.2.2.2 I.2.1.1
theorem h_rcv_some {r : Option Nat} {t a : Nat} (h : h_rcv σ r t = some a) : r = some a ∧ h_tg σ a = t := by
  obtain ⟨b, h1, h2, h3⟩ := h_rd (f := fun a => a) h
  subst h3
  exact ⟨h1, h2⟩
theorem V_cV (C : h_C p m c cc nL s args own D dA) {idx t maxL n F L a : Nat} {y : MethodName} {bytes : ByteArray} {ret : Option FieldType} {rv : Option Value} {As : List Value} {r : Option Nat} (ml : h_MV own idx t y bytes maxL ret n) (hM : MetC l y bytes maxL ret F L D dA bs (va_rf r :: As) rv σ σ') (hr : h_rcv σ r t = some a) (hn : As.length = n) (hst : st0 = As.reverse ++ va_rf r :: rest) (hW : (rest.map fun v => v.category).sum ≤ 8) (hF : F + 1 ≤ R.frames) (hL : 8 + (maxL + 11) + L ≤ R.locals) (d : decode cc pc = .ok (.invokevirtual idx, 3))
    (kk : V p l e R s m args below meth c D dA bs nL Q σ' (pc + 3) lv (rv.toList ++ rest)) : V p l e R s m args below meth c D dA bs nL Q σ pc lv st0 := by
  obtain ⟨⟨T, N, hc⟩, hy, w1, w2, w3, w4⟩ := ml
  obtain ⟨rfl, hta⟩ := h_rcv_some hr
  have hts := C.1.2.2.2.2
  refine V_run (a := (Value.ref a :: As).toArray) (fun H locs ls I hge => ?_) kk
  refine va_runV (C := y.cls) (bytes := bytes) (maxL := maxL) (ret := ret) (n := n) (b := a) C.1 hM ⟨callB_of n hts (h_goodIn w4) rfl rfl rfl (hts _ hc.2.2.2.2.2.1) (hts _ w1) hy ⟨hF, hL⟩, hts _ w2, hts _ w3⟩ ⟨h_blind, ?_, h_pre C I⟩ rfl hn I.2.2.1.1.1 hst (lv_room hW) d (h_fit I hge)
  exact va_recv C.2.1 (h_ob I.1 hc hta) hc.2.2.1 (q0 := 0) rfl
theorem V_cS (C : h_C p m c cc nL s args own D dA) {idx maxL n F L : Nat} {y : MethodName} {bytes : ByteArray} {ret : Option FieldType} {rv : Option Value} {As : List Value} (ml : h_MS own idx y bytes maxL ret n) (hM : MetC l y bytes maxL ret F L D dA bs As rv σ σ') (hn : As.length = n) (hst : st0 = As.reverse ++ rest) (hW : (rest.map fun v => v.category).sum ≤ 8) (hF : F + 1 ≤ R.frames) (hL : 8 + (maxL + 11) + L ≤ R.locals) (d : decode cc pc = .ok (.invokestatic idx, 3))
    (kk : V p l e R s m args below meth c D dA bs nL Q σ' (pc + 3) lv (rv.toList ++ rest)) : V p l e R s m args below meth c D dA bs nL Q σ pc lv st0 := by
  obtain ⟨hy, w1, w2, w3, w4⟩ := ml
  have hts := C.1.2.2.2.2
  refine V_run (a := As.toArray) (fun H locs ls I hge => ?_) kk
  exact va_runS (bytes := bytes) (maxL := maxL) (ret := ret) (n := n) C.1 hM ⟨callB_of n hts (h_goodIn w4) rfl rfl rfl (hts _ w3) (hts _ w1) hy ⟨hF, hL⟩, hts _ w2⟩ ⟨h_blind, h_pre C I⟩ rfl hn I.2.2.1.1.1 hst (lv_room hW) d (h_fit I hge)
theorem V_cI (C : h_C p m c cc nL s args own D dA) {idx t maxL n F L a : Nat} {y : MethodName} {bytes : ByteArray} {As : List Value} {r : Option Nat} (ml : h_MI own idx y bytes maxL n) (hM : MetC l y bytes maxL none F L D dA bs (va_rf r :: As) none σ σ') (hr : h_rcv σ r t = some a) (hn : As.length = n) (hst : st0 = As.reverse ++ va_rf r :: rest) (hW : (rest.map fun v => v.category).sum ≤ 8) (hF : F + 1 ≤ R.frames) (hL : 8 + (maxL + 11) + L ≤ R.locals) (d : decode cc pc = .ok (.invokespecial idx, 3))
    (kk : V p l e R s m args below meth c D dA bs nL Q σ' (pc + 3) lv rest) : V p l e R s m args below meth c D dA bs nL Q σ pc lv st0 := by
  obtain ⟨hy1, hy, w1, w2, w3, w4⟩ := ml
  obtain ⟨rfl, hta⟩ := h_rcv_some hr
  have hts := C.1.2.2.2.2
  refine V_run (rv := none) (a := (Value.ref a :: As).toArray) (fun H locs ls I hge => ?_) kk
  exact va_runI (bytes := bytes) (maxL := maxL) (n := n) (b := a) C.1 hM ⟨callB_of n hts (h_goodIn w4) rfl rfl rfl (hts _ w3) (hts _ w1) hy ⟨hF, hL⟩, hy1, hts _ w2⟩ ⟨h_blind, h_pre C I⟩ rfl hn I.2.2.1.1.1 hst (lv_room hW) d (h_fit I hge)
-- returns
theorem h_end {σ0 : HS} {rv : Option Value} {ret : Option FieldType} {F L : Nat} {H : Heap} {locs : List Loc} {ls : Array Slot} (B : h_B R s meth σ0 ret F L) (I : h_I R s D dA bs nL σ lv H locs ls) : ∀ t : State, t.heap = H → s.WarmedH t.vm → h_Q D dA bs rv σ0 σ args s (.returned rv) t := by
  intro t ht hW
  exact ⟨rfl, by rw [ht]; exact I.1, I.2.1.F ht, by rw [← I.2.2.2.1, ← B.2.2.1], by rw [← I.2.2.2.2.1, ← B.2.2.2.1]⟩
theorem h_wid {H : Heap} {locs : List Loc} {ls : Array Slot} (I : h_I R s D dA bs nL σ lv H locs ls) : H.size - s.heap.size ≤ R.cells ∧ slotSum H - slotSum s.heap ≤ R.slots := by
  have h1 : H.size = h_sz σ := I.1.1
  have h2 : slotSum H = h_sl σ := I.1.2.1
  have h3 : h_sz σ ≤ h_cz σ := I.1.2.2.1
  have h4 : h_sl σ ≤ h_ck σ := I.1.2.2.2.1
  have h6 : s.heap.size + R.cells = h_cz σ := I.2.2.2.1
  have h7 : slotSum s.heap + R.slots = h_ck σ := I.2.2.2.2.1
  omega
theorem V_iret (C : h_C p m c cc nL s args own D dA) {σ0 : HS} {F L : Nat} {v : Int32} (B : h_B R s meth σ0 (some .int) F L) (d : decode cc pc = .ok (.ireturn, 1)) : V p l e R s m args below meth c D dA bs nL (MQ below (h_Q D dA bs (some (.int v)) σ0 σ) args s R.cells R.slots (fun q => bs ≤ q)) σ pc lv [.int v] := fun H locs ls I =>
  W.widen (h_wid I).1 (h_wid I).2 (W.iret C.1.1 C.1.2.1 B.1 (h_end B I) I.2.1.2.2 d B.2.1)
theorem V_zret (C : h_C p m c cc nL s args own D dA) {σ0 : HS} {F L : Nat} {v : Int32} (B : h_B R s meth σ0 (some .boolean) F L) (d : decode cc pc = .ok (.ireturn, 1)) (hv : v = 0 ∨ v = 1) : V p l e R s m args below meth c D dA bs nL (MQ below (h_Q D dA bs (some (.int v)) σ0 σ) args s R.cells R.slots (fun q => bs ≤ q)) σ pc lv [.int v] := fun H locs ls I =>
  W.widen (h_wid I).1 (h_wid I).2 (W.zret C.1.1 C.1.2.1 B.1 (by rcases hv with rfl | rfl <;> rfl) (h_end B I) I.2.1.2.2 d B.2.1)
theorem V_vret (C : h_C p m c cc nL s args own D dA) {σ0 : HS} {F L : Nat} (B : h_B R s meth σ0 none F L) (d : decode cc pc = .ok (.return_, 1)) : V p l e R s m args below meth c D dA bs nL (MQ below (h_Q D dA bs none σ0 σ) args s R.cells R.slots (fun q => bs ≤ q)) σ pc lv [] := fun H locs ls I =>
  W.widen (h_wid I).1 (h_wid I).2 (W.vret C.1.1 C.1.2.1 B.1 (h_end B I) I.2.1.2.2 d B.2.1)
theorem V_aret (C : h_C p m c cc nL s args own D dA) {σ0 : HS} {F L : Nat} {v : Option Nat} {Cn : String} (B : h_B R s meth σ0 (some (.object Cn)) F L) (d : decode cc pc = .ok (.areturn, 1)) : V p l e R s m args below meth c D dA bs nL (MQ below (h_Q D dA bs (some (va_rf v)) σ0 σ) args s R.cells R.slots (fun q => bs ≤ q)) σ pc lv [va_rf v] := fun H locs ls I =>
  W.widen (h_wid I).1 (h_wid I).2 (W.aret C.1.1 C.1.2.1 B.1 (Or.inl ⟨_, rfl⟩) (va_rf_or v) (h_end B I) I.2.1.2.2 d B.2.1)
end HC
theorem h_args_eq : ∀ (vs : List Value) (n : Nat), (∀ v ∈ vs, v.category = 1) → lv_args n vs = h_args n vs
  | [], n, _ => rfl
  | v :: vs, n, h => by
    have hv := h v List.mem_cons_self
    have ih := h_args_eq vs (n + 1) (fun w hw => h w (List.mem_cons_of_mem _ hw))
    simp only [lv_args, h_args, hv]
    first | exact congrArg _ ih | simpa using ih
theorem h_args_c1 : ∀ (vs : List Value) (n : Nat), (∀ v ∈ vs, v.category = 1) → h_c1 (h_args n vs)
  | [], n, _ => fun q hq => by cases hq
  | v :: vs, n, h => by
    intro q hq
    rcases List.mem_cons.mp hq with e | e
    · rw [e]; exact h v List.mem_cons_self
    · exact h_args_c1 vs (n + 1) (fun w hw => h w (List.mem_cons_of_mem _ hw)) q e
theorem h_sl_len : ∀ (vs : List Value), (∀ v ∈ vs, v.category = 1) → (lg_sl vs).length = vs.length
  | [], _ => rfl
  | v :: vs, h => by
    have hv := h v List.mem_cons_self
    have ih := h_sl_len vs (fun w hw => h w (List.mem_cons_of_mem _ hw))
    have e : lg_sl (v :: vs) = .val v :: lg_sl vs := by
      simp [lg_sl, hv]
    rw [e, List.length_cons, ih, List.length_cons]
theorem MetC.of {l : Launch} {y : MethodName} {cc : ByteArray} {maxL : Nat} {ret : Option FieldType} {F L : Nat} {D : va_G} {dA : Nat → ClassId} {bs : Nat} {av : List Value} {rv : Option Value} {σ σ' : HS} (hy : plainName y.cls = true) (hav : ∀ v ∈ av, v.category = 1) (hlen : av.length ≤ maxL)
    (body : ∀ (p : Program) (e : Env) (R : Room) (s : State) (m : MethodId) (args : Array Value) (below : List Frame) (meth : Method) (c : Code), h_C p m c cc maxL s args y.cls D dA → h_B R s meth σ ret F L → meth.name = y.name →
      V p l e R s m args below meth c D dA bs maxL (MQ below (h_Q D dA bs rv σ σ') args s R.cells R.slots (fun q => bs ≤ q)) σ 0 (h_args 0 av) []) : MetC l y cc maxL ret F L D dA bs av rv σ σ' := by
  refine Met.ofW (cc := cc) (maxL := maxL) (ret := ret) hy rfl ?_
  intro p e s m args below meth c s₁ B hml hv
  obtain ⟨rfl, hg, hK, hb⟩ := hv
  have hts := atoms_spec (ws := Cond.code y cc maxL ret :: h_ws) B.pre
  have hown : s.vm.findClass y.cls = some m.cls := findClass_of_methodNamed B.named
  have hz : s.heap.size = h_sz σ := hg.1
  have hs : slotSum s.heap = h_sl σ := hg.2.1
  have h3 : h_sz σ ≤ h_cz σ := hg.2.2.1
  have h4 : h_sl σ ≤ h_ck σ := hg.2.2.2.1
  have hl := lv_entry av (n := maxL) (by rw [h_sl_len av hav]; exact hlen)
  rw [lg_entry_eq]
  generalize (lg_sl av ++ List.replicate (maxL - (lg_sl av).length) Slot.unset).toArray = ls at hl ⊢
  have c1 : s.heap.size + (headSpec (Cond.code y cc maxL ret :: h_ws) (h_rm F L σ)).room.cells = h_cz σ := by
    show s.heap.size + (h_cz σ - h_sz σ) = h_cz σ
    omega
  have c2 : slotSum s.heap + (headSpec (Cond.code y cc maxL ret :: h_ws) (h_rm F L σ)).room.slots = h_ck σ := by
    show slotSum s.heap + (h_ck σ - h_sl σ) = h_ck σ
    omega
  have hV := body p e (headSpec (Cond.code y cc maxL ret :: h_ws) (h_rm F L σ)).room s m av.toArray below meth c ⟨⟨B.exec, B.bytes, hml, hown, fun w hw => hts w (List.mem_cons_of_mem _ hw)⟩, hK⟩ ⟨B.returns, B.notSynchronized, c1, c2, rfl, rfl⟩ (name_of_methodNamed B.named B.method).1
  refine W.tight (hV s.heap [] ls ⟨hg, va_S.rf, ⟨by rw [← h_args_eq av 0 hav]; exact hl, h_args_c1 av 0 hav⟩, c1, c2, hb⟩)
