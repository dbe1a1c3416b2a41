/-! THE LAW'S HELPERS: a call that may throw, caught in the helper's own frame; the helper's contract -/
section RowsC
variable {p : Program} {l : Launch} {e : Env} {R : Room} {s : State} {m : MethodId} {args : Array Value} {below : List Frame} {meth : Method} {c : Code} {H : Heap} {locs : List Loc} {cells slots : Nat} {Q : State → Prop}
variable {mc ms : Nat} {free : Addr → Prop} {A0 A1 : Nat → Prop} {H0 : Heap} {a : Array Value} {pc : Nat} {ls : Array Slot} {st0 rest : List Value}
theorem vx_catch {own name : String} {E : String} {ce : Cell} {q : Addr} (hown : s.vm.findClass own = some m.cls) (pre : List ExceptionTableEntry) (x : ExceptionTableEntry) (suf : List ExceptionTableEntry) (hsplit : c.exceptionTable.toList = pre ++ x :: suf)
    (hpass : ∀ z ∈ pre, covers z pc = false ∨ (z.catchType ≠ 0 ∧ ∃ nm : String, (Cond.classLink own z.catchType nm).before args s = true ∧ va_Nc E nm s)) (hx : covers x pc = true) (h0 : x.catchType ≠ 0)
    (hlink : (Cond.classLink own x.catchType name).before args s = true) (hcast : (Cond.castable E name).before args s = true) (hcell : H[q]? = some ce) (hv : ce.vm = .none) (hcl : s.vm.findClass E = some ce.cls)
    (kk : W p l e R s m args below meth c H locs cells slots Q (F0 m x.handlerPc ls [.ref q])) : vx_W p l e R s m args below meth c H locs cells slots Q (F0 m pc ls rest) q := by
  intro T hT X
  have hpl : e.platform.magicAccessors = ({} : Platform).magicAccessors := by rw [X.admits.platform]
  obtain ⟨c3, c4, hc3, hc4, hasg⟩ := Cond.castable_spec hcast
  cases Option.some.inj (hc3.symm.trans hcl)
  obtain ⟨c5, hc5, hcl5⟩ := Cond.classLink_spec hown hlink e.platform hpl
  cases Option.some.inj (hc4.symm.trans hc5)
  obtain ⟨vm', X', st⟩ := Stand.thenCaughtThrough X q (g := F0 m pc ls rest) rfl (Steps.refl _) (by rw [hT]; exact hcell) (by rw [hv]; rfl) (by obtain ⟨k9, h9, -⟩ := Vm.findClass_spec hcl; exact ⟨k9, h9⟩) pre x suf hsplit
    (fun z hz => by
      rcases hpass z hz with h | ⟨hz0, nm, hl1, hn1⟩
      · exact Or.inl h
      · obtain ⟨c6, hc6, hcl6⟩ := Cond.classLink_spec hown hl1 e.platform hpl
        obtain ⟨a8, b8, h1, h2, h3⟩ := hn1
        cases Option.some.inj (h1.symm.trans hcl)
        cases Option.some.inj (h2.symm.trans hc6)
        exact Or.inr ⟨hz0, _, hcl6, h3⟩) hx (Or.inr ⟨h0, c4, hcl5, hasg⟩)
  obtain ⟨t, a1, b1⟩ := kk (T.setVm vm') hT X'
  exact ⟨t, st.trans a1, b1⟩
end RowsC
/-- what a helper leaves: its code, the heap; behind a throw the two counts have moved -/
def h_hp {α : Type} (cd : Nat → Option Int32) (wr : α → HS → Option HS) (r : Except Nat α) (σ1 : HS) (c : Int32) (σ2 : HS) : Prop := match r with
  | .ok v => c = 0 ∧ wr v σ1 = some σ2
  | .error k => cd k = some c ∧ ∃ z w, h_sz σ1 ≤ z ∧ z ≤ h_sz σ1 + 1 ∧ w ≤ h_sl σ1 + 6 ∧ σ2 = h_bump σ1 z w
def h_EY (bs : Nat) (U : State) : Prop := h_EX bs U ∧ va_Nc (h_exn 1) (h_exn 2) U
theorem h_EY.same {bs : Nat} {u U : State} (hv : U.vm = u.vm) (hh : U.heap = u.heap) (h : h_EY bs u) : h_EY bs U := ⟨h_EX.same hv hh h.1, va_Nc.moved (by rw [hv]; exact Vm.Alike.refl _) h.2⟩
theorem h_EY.on {bs : Nat} {s U : State} {locs : List Loc} (hW : s.WarmedH U.vm) (hS : va_S (fun q => bs ≤ q) s.heap U.heap locs) (h : h_EY bs s) : h_EY bs U := ⟨h_EX.on hW hS h.1, va_Nc.moved hW.alike h.2⟩
def h_PcY (D : va_G) (dA : Nat → ClassId) (bs : Nat) (σ : HS) (av : List Value) : Array Value → State → Prop := va_Pc av (fun U => hG D dA bs σ U.heap ∧ h_K D dA U ∧ bs ≤ U.heap.size ∧ h_EY bs U)
theorem h_blindY {D : va_G} {dA : Nat → ClassId} {bs : Nat} {σ : HS} {av : List Value} : FrameBlind (h_PcY D dA bs σ av) := fun a U g mk q => ⟨q.1, q.2.1, h_K.moved (u := U) (U := U.calling g mk a) (Vm.Alike.refl U.vm) q.2.2.1, q.2.2.2.1, h_EY.same (u := U) (U := U.calling g mk a) rfl rfl q.2.2.2.2⟩
def h_QH (D : va_G) (dA : Nat → ClassId) (bs : Nat) (P : Int32 → HS → Prop) (σ : HS) : Array Value → State → Outcome → State → Prop := fun a st o t => ∃ x σ2, P x σ2 ∧ h_Q D dA bs (some (.int x)) σ σ2 a st o t
def MetH (l : Launch) (y : MethodName) (cc : ByteArray) (maxL : Nat) (hh : List (Nat × Nat × Nat × Nat)) (F L : Nat) (D : va_G) (dA : Nat → ClassId) (bs : Nat) (av : List Value) (P : Int32 → HS → Prop) (σ : HS) : Prop :=
  Met l y (Cond.codeWith y cc maxL (some .int) hh :: h_ws) (h_rm F L σ) (h_PcY D dA bs σ av) (h_QH D dA bs P σ) (h_cz σ - h_sz σ) (h_ck σ - h_sl σ) (fun q => bs ≤ q)
theorem h_goodInW {y : MethodName} {cc : ByteArray} {maxL : Nat} {ret : Option FieldType} {hh : List (Nat × Nat × Nat × Nat)} (h : Cond.codeWith y cc maxL ret hh ∈ h_ws) : GoodIn h_ws (Cond.codeWith y cc maxL ret hh :: h_ws) := by
  intro w hw
  rcases List.mem_cons.mp hw with e | e
  · rw [e]; exact ⟨h, good_of_word (h_ws_good _ h)⟩
  · exact ⟨e, good_of_word (h_ws_good _ e)⟩
/-- the words of a helper's call -/
def h_MH (own : String) (idx : Nat) (y : MethodName) (bytes : ByteArray) (maxL : Nat) (hh : List (Nat × Nat × Nat × Nat)) (n : Nat) : Prop := h_MY y n ∧ Cond.methodLink own idx y ∈ h_ws ∧ Cond.static y ∈ h_ws ∧ Cond.initialized y.cls ∈ h_ws ∧ Cond.codeWith y bytes maxL (some .int) hh ∈ h_ws
section HH
variable {p : Program} {l : Launch} {e : Env} {R : Room} {s : State} {m : MethodId} {args : Array Value} {below : List Frame} {meth : Method} {c : Code} {D : va_G} {dA : Nat → ClassId} {bs nL : Nat} {Q : State → Prop} {cc : ByteArray} {own : String} {σ σ' : HS} {pc : Nat} {lv : List (Nat × Value)} {rest st0 : List Value}
theorem h_preX {H : Heap} {locs : List Loc} {ls : Array Slot} {av : List Value} (C : h_C p m c cc nL s args own D dA) (hE : h_EX bs s) (I : h_I R s D dA bs nL σ lv H locs ls) : ∀ U : State, U.heap = H → s.WarmedH U.vm → h_PcX D dA bs σ av av.toArray U := by
  intro U hU hW
  refine ⟨rfl, by rw [hU]; exact I.1, h_K.moved hW.alike C.2, ?_, h_EX.on (locs := locs) hW (by rw [hU]; exact I.2.1) hE⟩
  rw [hU]
  exact Nat.le_trans I.2.2.2.2.2 I.2.1.1
theorem h_preY {H : Heap} {locs : List Loc} {ls : Array Slot} {av : List Value} (C : h_C p m c cc nL s args own D dA) (hE : h_EY bs s) (I : h_I R s D dA bs nL σ lv H locs ls) : ∀ U : State, U.heap = H → s.WarmedH U.vm → h_PcY D dA bs σ av av.toArray U := by
  intro U hU hW
  refine ⟨rfl, by rw [hU]; exact I.1, h_K.moved hW.alike C.2, ?_, h_EY.on (locs := locs) hW (by rw [hU]; exact I.2.1) hE⟩
  rw [hU]
  exact Nat.le_trans I.2.2.2.2.2 I.2.1.1
theorem h_I_next {H : Heap} {locs L : List Loc} {ls : Array Slot} {σ2 : HS} {st₀ t T' : State} (I : h_I R s D dA bs nL σ lv H locs ls) (h0 : st₀.heap = H) (e1 : T'.heap = t.heap) (hg' : hG D dA bs σ2 t.heap) (hF' : va_F (fun q => bs ≤ q) st₀ t) (hcz : h_cz σ2 = h_cz σ) (hck : h_ck σ2 = h_ck σ) (hL : ∀ q ∈ L, bs ≤ q.base) : h_I R s D dA bs nL σ2 lv T'.heap (locs ++ L) ls := by
  rw [← e1] at hg'
  have hz : st₀.heap.size ≤ t.heap.size := hF'.1
  have hk := hF'.2
  rw [h0] at hz hk
  refine ⟨hg', ⟨Nat.le_trans I.2.1.1 (by rw [e1]; exact hz), fun q h1 h2 => ?_, fun q hq => ?_⟩, I.2.2.1, by rw [hcz]; exact I.2.2.2.1, by rw [hck]; exact I.2.2.2.2.1, I.2.2.2.2.2⟩
  · rw [e1, hk q (Nat.lt_of_lt_of_le h1 I.2.1.1) h2]
    exact I.2.1.2.1 q h1 h2
  · rcases List.mem_append.mp hq with h | h
    · exact I.2.1.2.2 q h
    · exact hL q h
theorem V_cX (C : h_C p m c cc nL s args own D dA) {idx t maxL n F L a : Nat} {y : MethodName} {bytes : ByteArray} {ret : Option FieldType} {res : Except Nat (Option Value)} {As : List Value} {r : Option Nat} (ml : h_MV own idx t y bytes maxL ret n) (hM : MetX l y bytes maxL ret F L D dA bs (va_rf r :: As) res σ σ') (hE : h_EX bs s) (hr : h_rcv σ r t = some a) (hn : As.length = n) (hst : st0 = As.reverse ++ va_rf r :: rest) (hW : (rest.map fun v => v.category).sum ≤ 8) (hF : F + 1 ≤ R.frames) (hL : 8 + (maxL + 11) + L ≤ R.locals) (d : decode cc pc = .ok (.invokevirtual idx, 3))
    (kok : ∀ rv, res = .ok rv → V p l e R s m args below meth c D dA bs nL Q σ' (pc + 3) lv (rv.toList ++ rest))
    (kex : ∀ k, res = .error k → ∃ (pre : List ExceptionTableEntry) (x : ExceptionTableEntry) (suf : List ExceptionTableEntry) (name : String), c.exceptionTable.toList = pre ++ x :: suf ∧ (∀ z ∈ pre, covers z pc = false ∨ (z.catchType ≠ 0 ∧ ∃ nm : String, (Cond.classLink own z.catchType nm).before args s = true ∧ va_Nc (h_exn k) nm s)) ∧ covers x pc = true ∧ x.catchType ≠ 0 ∧ (Cond.classLink own x.catchType name).before args s = true ∧ (Cond.castable (h_exn k) name).before args s = true ∧
      ∀ z w q, h_sz σ' ≤ z → z ≤ h_sz σ' + 1 → w ≤ h_sl σ' + 6 → V p l e R s m args below meth c D dA bs nL Q (h_bump σ' z w) x.handlerPc lv [va_rf (some q)]) : V p l e R s m args below meth c D dA bs nL Q σ pc lv st0 := by
  obtain ⟨⟨T, N, hc⟩, hy, w1, w2, w3, w4⟩ := ml
  obtain ⟨rfl, hta⟩ := h_rcv_some hr
  have hts := C.1.2.2.2.2
  intro H locs ls I T0 hT X
  have hge : slotSum s.heap ≤ slotSum H := by rw [← hT]; exact h_sumge X
  have hrun : vx_Run p l e R s m args below meth c H locs (H.size - s.heap.size) (slotSum H - slotSum s.heap) (h_cz σ - h_sz σ) (h_ck σ - h_sl σ) (F0 m pc ls st0) rest (h_QX D dA bs res σ σ' (Value.ref a :: As).toArray) (h_XC D dA bs res σ σ') (fun q => bs ≤ q) := by
    refine vx_runV (C := y.cls) (bytes := bytes) (maxL := maxL) (ret := ret) (n := n) (b := a) C.1 hM ⟨callB_of n hts (h_goodIn w4) rfl rfl rfl (hts _ hc.2.2.2.2.2.1) (hts _ w1) hy ⟨hF, hL⟩, hts _ w2, hts _ w3⟩ ⟨h_blindX, ?_, h_preX C hE I⟩ rfl hn I.2.2.1.1.1 hst (lv_room hW) d (h_fit I hge)
    exact va_recv C.2.1 (h_ob I.1 hc hta) hc.2.2.1 (q0 := 0) rfl
  rcases hrun T0 hT X with ⟨v, st₀, t, T', L', h0, X', hL', e1, e2, hq, st⟩ | ⟨q, st₀, t, T', L', E, ce, h0, X', hL', e1, e2, hq, hce, hcv, hcl, st⟩
  · cases res with
    | error k => exact hq.elim
    | ok rv =>
      obtain ⟨ho, hg', hF', hcz, hck⟩ := hq
      cases ho
      obtain ⟨t2, a1, b1⟩ := W.tight (kok v rfl T'.heap _ ls (h_I_next I h0 e1 hg' hF' hcz hck hL')) T' rfl X'
      exact ⟨t2, st t2 a1, b1⟩
  · cases res with
    | ok rv => exact hq.elim
    | error k =>
      obtain ⟨rfl, b1, b2, b3, hg', hF', hcz, hck⟩ := hq
      obtain ⟨pre, x, suf, name, x1, x2, x3, x4, x5, x6, kk⟩ := kex k rfl
      have I' := h_I_next I h0 e1 hg' hF' hcz hck hL'
      have K := vx_catch (l := l) (R := R) (Q := Q) (e := e) (p := p) (below := below) (meth := meth) (locs := locs ++ L') (cells := H.size - s.heap.size + (h_cz σ - h_sz σ)) (slots := slotSum H - slotSum s.heap + (h_ck σ - h_sl σ)) (pc := pc) (ls := ls) (rest := rest) (H := T'.heap) C.1.2.2.2.1 pre x suf x1 x2 x3 x4 x5 x6 (by rw [e1]; exact hce) hcv hcl (W.tight (kk _ _ q b3 b1 b2 T'.heap _ ls I'))
      obtain ⟨t2, a1, c1⟩ := K T' rfl X'
      exact ⟨t2, st.trans a1, c1⟩
/-- the call of a helper -/
theorem V_cH (C : h_C p m c cc nL s args own D dA) {idx maxL n F L : Nat} {y : MethodName} {bytes : ByteArray} {hh : List (Nat × Nat × Nat × Nat)} {P : Int32 → HS → Prop} {As : List Value} (ml : h_MH own idx y bytes maxL hh n) (hM : MetH l y bytes maxL hh F L D dA bs As P σ) (hE : h_EY bs s) (hn : As.length = n) (hst : st0 = As.reverse ++ rest) (hW : (rest.map fun v => v.category).sum ≤ 8) (hF : F + 1 ≤ R.frames) (hL : 8 + (maxL + 11) + L ≤ R.locals) (d : decode cc pc = .ok (.invokestatic idx, 3))
    (kk : ∀ x σ2, P x σ2 → V p l e R s m args below meth c D dA bs nL Q σ2 (pc + 3) lv (.int x :: rest)) : V p l e R s m args below meth c D dA bs nL Q σ pc lv st0 := by
  obtain ⟨hy, w1, w2, w3, w4⟩ := ml
  have hts := C.1.2.2.2.2
  intro H locs ls I T0 hT X
  have hge : slotSum s.heap ≤ slotSum H := by rw [← hT]; exact h_sumge X
  have hgd : GoodIn h_ws (va_wsS own idx y (Cond.codeWith y bytes maxL (some .int) hh :: h_ws)) := by
    intro w hw
    rcases List.mem_append.mp hw with h | h
    · simp only [List.mem_cons, List.mem_nil_iff, or_false] at h
      rcases h with rfl | rfl | rfl
      · exact ⟨w1, good_of_word (h_ws_good _ w1)⟩
      · exact ⟨w2, good_of_word (h_ws_good _ w2)⟩
      · exact ⟨w3, good_of_word (h_ws_good _ w3)⟩
    · exact h_goodInW w4 w h
  have hrun := vx_runSW (p := p) (e := e) (R := R) (below := below) (meth := meth) (H := H) (locs := locs) (cells := H.size - s.heap.size) (slots := slotSum H - slotSum s.heap) (g := F0 m pc ls st0) (rest := rest) (n := n) C.1 hM (vx_cwSW (hh := hh) n hts hgd rfl rfl rfl hy ⟨hF, hL⟩) ⟨h_blindY, h_preY C hE I⟩ rfl hn I.2.2.1.1.1 hst (lv_room hW) d (h_fit I hge)
  obtain ⟨v, st₀, t, T', L', h0, X', hL', e1, e2, ⟨x, σ2, hP, ho, hg', hF', hcz, hck⟩, st⟩ := hrun T0 hT X
  cases ho
  obtain ⟨t2, a1, b1⟩ := W.tight (kk x σ2 hP T'.heap _ ls (h_I_next I h0 e1 hg' hF' hcz hck hL')) T' rfl X'
  exact ⟨t2, st t2 a1, b1⟩
theorem V_hret {σ0 σ2 : HS} {x : Int32} {P : Int32 → HS → Prop} (hP : P x σ2) (h : V p l e R s m args below meth c D dA bs nL (MQ below (h_Q D dA bs (some (.int x)) σ0 σ2) args s R.cells R.slots (fun q => bs ≤ q)) σ pc lv st0) : V p l e R s m args below meth c D dA bs nL (MQ below (h_QH D dA bs P σ0) args s R.cells R.slots (fun q => bs ≤ q)) σ pc lv st0 := fun H locs ls I T hT X => by
  obtain ⟨t, a1, o, b1, b2, b3, b4⟩ := h H locs ls I T hT X
  exact ⟨t, a1, o, b1, b2, ⟨x, σ2, hP, b3⟩, b4⟩
end HH
theorem MetH.of {l : Launch} {y : MethodName} {cc : ByteArray} {maxL : Nat} {hh : List (Nat × Nat × Nat × Nat)} {F L : Nat} {D : va_G} {dA : Nat → ClassId} {bs : Nat} {av : List Value} {P : Int32 → HS → Prop} {σ : HS} (hy : plainName y.cls = true) (hav : ∀ v ∈ av, v.category = 1) (hlen : av.length ≤ maxL)
    (body : ∀ (p : Program) (e : Env) (R : Room) (s : State) (m : MethodId) (args : Array Value) (below : List Frame) (meth : Method) (c : Code), h_C p m c cc maxL s args y.cls D dA → h_B R s meth σ (some .int) F L → h_EY bs s → c.exceptionTable.toList = tableOf hh →
      V p l e R s m args below meth c D dA bs maxL (MQ below (h_QH D dA bs P σ) args s R.cells R.slots (fun q => bs ≤ q)) σ 0 (h_args 0 av) []) : MetH l y cc maxL hh F L D dA bs av P σ := by
  refine va_MetW (cc := cc) (maxL := maxL) (ret := some .int) (hh := hh) hy rfl ?_
  intro p e s m args below meth c s₁ B hml hv
  obtain ⟨rfl, hg, hK, hb, hE⟩ := hv
  have hts := atoms_spec (ws := Cond.codeWith y cc maxL (some .int) hh :: h_ws) B.pre
  have htb := vx_table (x := y) B (hts _ List.mem_cons_self)
  have hown : s.vm.findClass y.cls = some m.cls := findClass_of_methodNamed B.named
  have hz : s.heap.size = h_sz σ := hg.1
  have hs : slotSum s.heap = h_sl σ := hg.2.1
  have h3 : h_sz σ ≤ h_cz σ := hg.2.2.1
  have h4 : h_sl σ ≤ h_ck σ := hg.2.2.2.1
  have hl := lv_entry av (n := maxL) (by rw [h_sl_len av hav]; exact hlen)
  rw [lg_entry_eq]
  generalize (lg_sl av ++ List.replicate (maxL - (lg_sl av).length) Slot.unset).toArray = ls at hl ⊢
  have c1 : s.heap.size + (headSpec (Cond.codeWith y cc maxL (some .int) hh :: h_ws) (h_rm F L σ)).room.cells = h_cz σ := by
    show s.heap.size + (h_cz σ - h_sz σ) = h_cz σ
    omega
  have c2 : slotSum s.heap + (headSpec (Cond.codeWith y cc maxL (some .int) hh :: h_ws) (h_rm F L σ)).room.slots = h_ck σ := by
    show slotSum s.heap + (h_ck σ - h_sl σ) = h_ck σ
    omega
  have hV := body p e (headSpec (Cond.codeWith y cc maxL (some .int) hh :: h_ws) (h_rm F L σ)).room s m av.toArray below meth c ⟨⟨B.exec, B.bytes, hml, hown, fun w hw => hts w (List.mem_cons_of_mem _ hw)⟩, hK⟩ ⟨B.returns, B.notSynchronized, c1, c2, rfl, rfl⟩ hE htb
  refine W.tight (hV s.heap [] ls ⟨hg, va_S.rf, ⟨by rw [← h_args_eq av 0 hav]; exact hl, h_args_c1 av 0 hav⟩, c1, c2, hb⟩)
