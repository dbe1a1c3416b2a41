/-! METHODS THAT MAY THROW: 'throw new E("text")' leaves them; one cell of six slots comes at most -/
def h_exn (k : Nat) : String := if k = 1 then "java/lang/IllegalArgumentException" else if k = 2 then "java/lang/IllegalStateException" else "java/lang/IndexOutOfBoundsException"
def h_thr {α : Type} (k : Nat) (σ : HS) : Option (Except Nat α × HS) := if h_sz σ + 1 ≤ h_cz σ ∧ h_sl σ + 6 ≤ h_ck σ then some (.error k, σ) else none
theorem h_thr_some {α : Type} {k : Nat} {σ σ' : HS} {r : Except Nat α} (h : h_thr k σ = some (r, σ')) : (h_sz σ + 1 ≤ h_cz σ ∧ h_sl σ + 6 ≤ h_ck σ) ∧ r = .error k ∧ σ' = σ := by
  unfold h_thr at h
  by_cases hc : h_sz σ + 1 ≤ h_cz σ ∧ h_sl σ + 6 ≤ h_ck σ
  · rw [if_pos hc] at h
    cases h
    exact ⟨hc, rfl, rfl⟩
  · rw [if_neg hc] at h
    cases h
abbrev h_nms : List String := ["java/lang/RuntimeException", "java/lang/Exception"]
/-- the texts that the class throws with: place in its pool, text -/
def h_txs : List (Nat × String) := [(58, "the parent must be there and the child must not"), (83, "no prefix, not the parent's own, or its whole part"), (92, "no such site, or it is there already"), (102, "no such place, or a site is there"), (115, "the site isn't there or has four prefixes"), (124, "no prefix, of several servers, or a site has it"), (130, "no such site or place, or a site is there"), (138, "the site isn't there"), (162, "there are 200 packets"), (178, "no such message"), (190, "no such message or field"), (195, "no such message, or nothing such of it"), (201, "n isn't 0 .. 1000"), (207, "t isn't 1 .. 1000, or time would be above 1000000"), (213, "no such packet")]
/-- words of a throw that aren't good: they ride in the premises -/
def h_bad : List Cond := [.castable "java/lang/IllegalArgumentException" "java/lang/IllegalArgumentException", .castable "java/lang/IllegalStateException" "java/lang/IllegalStateException", .castable "java/lang/IndexOutOfBoundsException" "java/lang/IndexOutOfBoundsException", .declares (Bundle.initS "java/lang/RuntimeException"), .declares (Bundle.initS "java/lang/Exception"), .declares (Bundle.initS Bundle.tN)]
theorem h_bad_ot : ∀ w ∈ h_bad, w.onTables = true := by decide +kernel
theorem h_bad_warm {s U : State} {w : Cond} (hW : s.WarmedH U.vm) (hw : w ∈ h_bad) (h : va_Nw w s) : va_Nw w U := by
  have h2 : (∃ X, w = Cond.castable X X) ∨ ∃ y, w = Cond.declares y := by
    simp only [h_bad, List.mem_cons, List.mem_nil_iff, or_false] at hw
    rcases hw with rfl | rfl | rfl | rfl | rfl | rfl
    · exact Or.inl ⟨_, rfl⟩
    · exact Or.inl ⟨_, rfl⟩
    · exact Or.inl ⟨_, rfl⟩
    · exact Or.inr ⟨_, rfl⟩
    · exact Or.inr ⟨_, rfl⟩
    · exact Or.inr ⟨_, rfl⟩
  rcases h2 with ⟨X, rfl⟩ | ⟨y, rfl⟩
  · exact va_Nw.warmC hW h
  · exact va_Nw.warmD hW h
/-- what a throw needs of the start -/
def h_EX (bs : Nat) (U : State) : Prop := vx_Zq Bundle.tN "UNASSIGNED_STACK" Bundle.steD (fun q => bs ≤ q) U U.heap ∧ vx_Zq Bundle.tN "SUPPRESSED_SENTINEL" Bundle.listD (fun q => bs ≤ q) U U.heap ∧
  (∀ q ∈ h_txs, ∃ sa, vk_R RX9 q.1 q.2 sa U) ∧ ∀ w ∈ h_bad, va_Nw w U
theorem h_EX.same {bs : Nat} {u U : State} (hv : U.vm = u.vm) (hh : U.heap = u.heap) (h : h_EX bs u) : h_EX bs U := by
  obtain ⟨h1, h2, h3, h4⟩ := h
  have ha : u.vm.Alike U.vm := by rw [hv]; exact Vm.Alike.refl _
  exact ⟨by rw [hh]; exact vx_Zq.moved ha h1, by rw [hh]; exact vx_Zq.moved ha h2, fun q hq => (h3 q hq).elim (fun sa hs => ⟨sa, vk_R.same hv hs⟩), fun w hw => va_Nw.same (h_bad_ot w hw) hv.symm (h4 w hw)⟩
/-- .. carried on over what a method does -/
theorem h_EX.on {bs : Nat} {s U : State} {locs : List Loc} (hW : s.WarmedH U.vm) (hS : va_S (fun q => bs ≤ q) s.heap U.heap locs) (h : h_EX bs s) : h_EX bs U := by
  obtain ⟨h1, h2, h3, h4⟩ := h
  exact ⟨vx_Zq.moved hW.alike (h1.kept hS.2.1), vx_Zq.moved hW.alike (h2.kept hS.2.1), fun q hq => (h3 q hq).elim (fun sa hs => ⟨sa, vk_R.warm hW hs⟩), fun w hw => h_bad_warm hW hw (h4 w hw)⟩
def h_PcX (D : va_G) (dA : Nat → ClassId) (bs : Nat) (σ : HS) (av : List Value) : Array Value → State → Prop := va_Pc av (fun U => hG D dA bs σ U.heap ∧ h_K D dA U ∧ bs ≤ U.heap.size ∧ h_EX bs U)
theorem h_blindX {D : va_G} {dA : Nat → ClassId} {bs : Nat} {σ : HS} {av : List Value} : FrameBlind (h_PcX D dA bs σ av) := fun a U g mk q => ⟨q.1, q.2.1, h_K.moved (u := U) (U := U.calling g mk a) (Vm.Alike.refl U.vm) q.2.2.1, q.2.2.2.1, h_EX.same (u := U) (U := U.calling g mk a) rfl rfl q.2.2.2.2⟩
def h_rV (r : Except Nat Unit) : Except Nat (Option Value) := match r with
  | .ok _ => .ok none
  | .error k => .error k
def h_rI (r : Except Nat Int32) : Except Nat (Option Value) := match r with
  | .ok x => .ok (some (.int x))
  | .error k => .error k
def h_QX (D : va_G) (dA : Nat → ClassId) (bs : Nat) (res : Except Nat (Option Value)) (σ σ' : HS) : Array Value → State → Outcome → State → Prop := match res with
  | .ok rv => h_Q D dA bs rv σ σ'
  | .error _ => fun _ _ _ _ => False
def h_XC (D : va_G) (dA : Nat → ClassId) (bs : Nat) (res : Except Nat (Option Value)) (σ σ' : HS) : String → State → State → Prop := match res with
  | .ok _ => fun _ _ _ => False
  | .error k => fun E st t => E = h_exn k ∧ t.heap.size ≤ h_sz σ' + 1 ∧ slotSum t.heap ≤ h_sl σ' + 6 ∧ h_sz σ' ≤ t.heap.size ∧ hG D dA bs (h_bump σ' t.heap.size (slotSum t.heap)) t.heap ∧ va_F (fun q => bs ≤ q) st t ∧ h_cz σ' = h_cz σ ∧ h_ck σ' = h_ck σ
def MetX (l : Launch) (y : MethodName) (cc : ByteArray) (maxL : Nat) (ret : Option FieldType) (F L : Nat) (D : va_G) (dA : Nat → ClassId) (bs : Nat) (av : List Value) (res : Except Nat (Option Value)) (σ σ' : HS) : Prop :=
  vx_Met l y (Cond.code y cc maxL ret :: h_ws) (h_rm F L σ) (h_PcX D dA bs σ av) (h_QX D dA bs res σ σ') (h_XC D dA bs res σ σ') (h_cz σ - h_sz σ) (h_ck σ - h_sl σ) (fun q => bs ≤ q)
section HX
variable {p : Program} {l : Launch} {e : Env} {R : Room} {s : State} {m : MethodId} {args : Array Value} {below : List Frame} {meth : Method} {c : Code} {D : va_G} {dA : Nat → ClassId} {bs nL : Nat} {Q : State → Prop} {cc : ByteArray} {own : String} {σ σ' : HS} {pc : Nat} {lv : List (Nat × Value)} {rest st0 : List Value}
theorem V_xret {σ0 : HS} {rv : Option Value} (h : V p l e R s m args below meth c D dA bs nL (MQ below (h_Q D dA bs rv σ0 σ') args s R.cells R.slots (fun q => bs ≤ q)) σ pc lv st0) : V p l e R s m args below meth c D dA bs nL (vx_MQ below (h_QX D dA bs (.ok rv) σ0 σ') (h_XC D dA bs (.ok rv) σ0 σ') args s R.cells R.slots (fun q => bs ≤ q)) σ pc lv st0 := fun H locs ls I => vx_ret (h H locs ls I)
theorem V_throw (C : h_C p m c cc nL s args RX9 D dA) {σ0 : HS} {ret : Option FieldType} {F L : Nat} (B : h_B R s meth σ0 ret F L) (hl : l.stackTraces = false) (hE : h_EX bs s) (hno : ∀ x ∈ c.exceptionTable.toList, False) {k ik is ic : Nat} {text : String} (hk : k < 4)
    (w1 : Cond.classLink RX9 ik (h_exn k) ∈ h_ws) (w2 : Cond.initialized (h_exn k) ∈ h_ws) (w3 : ∀ w ∈ (vx_atS RX9 ic (h_exn k) h_nms).filter goodWord, w ∈ h_ws) (w4 : ∀ w ∈ (vx_atS RX9 ic (h_exn k) h_nms).filter (fun w => !goodWord w), w ∈ h_bad) (w5 : ∀ w ∈ Cond.classLink RX9 ik (h_exn k) :: Cond.initialized (h_exn k) :: vx_atS RX9 ic (h_exn k) h_nms, vx_ot w = true) (ht : (is, text) ∈ h_txs)
    (d0 : decode cc pc = .ok (.new ik, 3)) (d3 : decode cc (pc + 3) = .ok (.dup, 1)) (d4 : decode cc (pc + 4) = .ok (.ldc is, 2)) (d6 : decode cc (pc + 6) = .ok (.invokespecial ic, 3)) (d9 : decode cc (pc + 9) = .ok (.athrow, 1))
    (hF : 6 ≤ R.frames) (hL : 82 ≤ R.locals) (hm : h_sz σ + 1 ≤ h_cz σ ∧ h_sl σ + 6 ≤ h_ck σ) :
    V p l e R s m args below meth c D dA bs nL (vx_MQ below (h_QX D dA bs (.error k) σ0 σ) (h_XC D dA bs (.error k) σ0 σ) args s R.cells R.slots (fun q => bs ≤ q)) σ pc lv [] := fun H locs ls I => by
  obtain ⟨hU, hN, hT, hB⟩ := hE
  obtain ⟨sa, hsa⟩ := hT _ ht
  have hts := C.1.2.2.2.2
  have hz : H.size = h_sz σ := I.1.1
  have hs : slotSum H = h_sl σ := I.1.2.1
  have hle : s.heap.size ≤ H.size := I.2.1.1
  have c1 : s.heap.size + R.cells = h_cz σ := I.2.2.2.1
  have c2 : slotSum s.heap + R.slots = h_ck σ := I.2.2.2.2.1
  intro T hT0 X
  have hge : slotSum s.heap ≤ slotSum H := by rw [← hT0]; exact h_sumge X
  have hbook : s.slotsUsed = slotSum s.heap := by
    have h := X.room
    simp only [State.hasRoom, Bool.and_eq_true] at h
    exact (State.slotsTrue_iff s).mp h.2
  have key := vx_throwS (Qc := fun _ _ _ _ => False) (XC := fun E st t => E = h_exn k ∧ H.size ≤ t.heap.size ∧ ∀ q : Nat, q < H.size → t.heap[q]? = H[q]?) (free := fun q => bs ≤ q) (mc := H.size - s.heap.size + 1) (ms := slotSum H - slotSum s.heap + 6) (rest := []) (below := below) C.1.1 C.1.2.1 hl C.1.2.2.2.1 (cls := h_exn k) (names := h_nms)
    (by unfold h_exn; split; decide; split; decide; decide) (by decide) (hts _ w1) (hts _ w2) hsa (vx_hat (fun w hw => hts w (w3 w hw)) w4 (fun w hw => va_Nw.use (h_bad_ot w hw) (hB w hw))) w5 hU hN I.2.1 (by rw [C.1.2.2.1]; exact I.2.2.1.1.1) d0 d3 d4 d6 d9
    (fun x hx => (hno x hx).elim) (by show 2 + 3 < R.frames; omega) (by show 0 + (13 * (2 + 1) + 43) ≤ R.locals; omega) (by omega) (by omega) B.2.1 (fun t ha h1 h2 => ⟨rfl, h1, h2⟩) I.2.1.2.2 (Nat.le_refl _) (Nat.le_refl _) T hT0 X
  obtain ⟨t, a1, o, b1, b2, b3⟩ := key
  refine ⟨t, a1, o, b1, b2, ?_⟩
  rcases b3 with ⟨hf, -⟩ | ⟨q, rfl, E, ce, Lc, ⟨rfl, x1, x2⟩, x3, x4, x5, x6, x7, x8⟩
  · exact hf.elim
  · have y1 : t.heap.size ≤ s.heap.size + (H.size - s.heap.size + 1) := x7.2.2.1
    have htr : t.slotsTrue = true := by
      have h := X.room
      simp only [State.hasRoom, Bool.and_eq_true] at h
      exact State.slotsTrue_of_sameButNew (t := ({ t with vm := s.vm } : State)) h.2 x7
    have y2 : t.slotsUsed = slotSum t.heap := (State.slotsTrue_iff t).mp htr
    have y3 : t.slotsUsed = s.slotsUsed + ((t.heap.toList.drop s.heap.size).map (·.slots.size)).sum := x7.2.2.2.1
    have y4 : ((t.heap.toList.drop s.heap.size).map (·.slots.size)).sum ≤ slotSum H - slotSum s.heap + 6 := x7.2.2.2.2.1
    refine Or.inr ⟨q, rfl, h_exn k, ce, Lc, ⟨rfl, by omega, by omega, by omega, hG_bump I.1 (by omega) (by omega) x2, ?_, by rw [← I.2.2.2.1, ← B.2.2.1], by rw [← I.2.2.2.2.1, ← B.2.2.2.1]⟩, x3, x4, x5, x6, x7.mono (by omega) (by omega), x8⟩
    exact ⟨by omega, fun q h1 h2 => by rw [x2 q (by omega)]; exact I.2.1.2.1 q h1 h2⟩
end HX
theorem MetX.of {l : Launch} {y : MethodName} {cc : ByteArray} {maxL : Nat} {ret : Option FieldType} {F L : Nat} {D : va_G} {dA : Nat → ClassId} {bs : Nat} {av : List Value} {res : Except Nat (Option Value)} {σ σ' : HS} (hy : plainName y.cls = true) (hav : ∀ v ∈ av, v.category = 1) (hlen : av.length ≤ maxL)
    (body : ∀ (p : Program) (e : Env) (R : Room) (s : State) (m : MethodId) (args : Array Value) (below : List Frame) (meth : Method) (c : Code), h_C p m c cc maxL s args y.cls D dA → h_B R s meth σ ret F L → h_EX bs s → (∀ x ∈ c.exceptionTable.toList, False) →
      V p l e R s m args below meth c D dA bs maxL (vx_MQ below (h_QX D dA bs res σ σ') (h_XC D dA bs res σ σ') args s R.cells R.slots (fun q => bs ≤ q)) σ 0 (h_args 0 av) []) : MetX l y cc maxL ret F L D dA bs av res σ σ' := by
  refine vx_ofW (cc := cc) (maxL := maxL) (ret := ret) hy rfl ?_
  intro p e s m args below meth c s₁ B hml hno hv
  obtain ⟨rfl, hg, hK, hb, hE⟩ := hv
  have hts := atoms_spec (ws := Cond.code y cc maxL ret :: h_ws) B.pre
  have hown : s.vm.findClass y.cls = some m.cls := findClass_of_methodNamed B.named
  have hz : s.heap.size = h_sz σ := hg.1
  have hs : slotSum s.heap = h_sl σ := hg.2.1
  have h3 : h_sz σ ≤ h_cz σ := hg.2.2.1
  have h4 : h_sl σ ≤ h_ck σ := hg.2.2.2.1
  have hl := lv_entry av (n := maxL) (by rw [h_sl_len av hav]; exact hlen)
  rw [lg_entry_eq]
  generalize (lg_sl av ++ List.replicate (maxL - (lg_sl av).length) Slot.unset).toArray = ls at hl ⊢
  have c1 : s.heap.size + (headSpec (Cond.code y cc maxL ret :: h_ws) (h_rm F L σ)).room.cells = h_cz σ := by
    show s.heap.size + (h_cz σ - h_sz σ) = h_cz σ
    omega
  have c2 : slotSum s.heap + (headSpec (Cond.code y cc maxL ret :: h_ws) (h_rm F L σ)).room.slots = h_ck σ := by
    show slotSum s.heap + (h_ck σ - h_sl σ) = h_ck σ
    omega
  have hV := body p e (headSpec (Cond.code y cc maxL ret :: h_ws) (h_rm F L σ)).room s m av.toArray below meth c ⟨⟨B.exec, B.bytes, hml, hown, fun w hw => hts w (List.mem_cons_of_mem _ hw)⟩, hK⟩ ⟨B.returns, B.notSynchronized, c1, c2, rfl, rfl⟩ hE hno
  refine W.tight (hV s.heap [] ls ⟨hg, va_S.rf, ⟨by rw [← h_args_eq av 0 hav]; exact hl, h_args_c1 av 0 hav⟩, c1, c2, hb⟩)
