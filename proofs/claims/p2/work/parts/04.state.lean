/-! WHAT A STATE σ SAYS OF THE HEAP; the walk over such states -/
def h_val (kd : Nat) (σ : HS) (a k : Nat) : Value := if kd = 0 then .int (h_iv σ a k) else if kd = 1 then va_rf (h_rv σ a k) else .long (h_lv σ a k)
def h_ak (t : Nat) : Nat := if t = 100 ∨ t = 102 then 0 else if t = 101 then 2 else 1
def h_at (D : va_G) (dA : Nat → ClassId) (σ : HS) (a : Nat) (H : Heap) : Prop :=
  h_tg σ a ≠ 0 → (h_tg σ a < 100 → ∃ r : vw_C, classes[h_tg σ a - 1]? = some r ∧ t_OB a (D.1 (h_tg σ a - 1)) r.2.2 (D.2 (h_tg σ a - 1)) H (fun k => h_val (h_kd (h_tg σ a) k) σ a k)) ∧
    (100 ≤ h_tg σ a → H[a]? = some (arrV (dA (h_tg σ a - 100)) (h_ln σ a) (fun j => h_val (h_ak (h_tg σ a)) σ a j)))
def hG (D : va_G) (dA : Nat → ClassId) (bs : Nat) (σ : HS) (H : Heap) : Prop :=
  H.size = h_sz σ ∧ slotSum H = h_sl σ ∧ h_sz σ ≤ h_cz σ ∧ h_sl σ ≤ h_ck σ ∧ (∀ a, h_tg σ a ≠ 0 → bs ≤ a) ∧ ∀ a, h_at D dA σ a H
theorem hG_lt {D : va_G} {dA : Nat → ClassId} {bs : Nat} {σ : HS} {H : Heap} (h : hG D dA bs σ H) {a : Nat} (ha : h_tg σ a ≠ 0) : a < H.size := by
  have h1 := h.2.2.2.2.2 a ha
  by_cases hc : h_tg σ a < 100
  · obtain ⟨r, -, cell, h2, -⟩ := h1.1 hc
    exact (Array.getElem?_eq_some_iff.mp h2).1
  · exact (Array.getElem?_eq_some_iff.mp (h1.2 (by omega))).1
theorem h_slotSum_same {H H1 : Heap} {a : Nat} {c c1 : Cell} (hz : H1.size = H.size) (h0 : H[a]? = some c) (h1 : H1[a]? = some c1) (hs : c1.slots.size = c.slots.size) (ho : ∀ q, q ≠ a → H1[q]? = H[q]?) : slotSum H1 = slotSum H := by
  rw [slotSum_sum, slotSum_sum]
  congr 1
  apply List.ext_getElem?
  intro i
  rw [List.getElem?_map, List.getElem?_map, Array.getElem?_toList, Array.getElem?_toList]
  by_cases hi : i = a
  · subst hi
    rw [h0, h1]
    simp [hs]
  · rw [ho i hi]
theorem h_slotSum_push (H : Heap) (c : Cell) : slotSum (H.push c) = slotSum H + c.slots.size := by
  rw [slotSum_sum, slotSum_sum, Array.toList_push, List.map_append, List.sum_append]
  simp
/-- one cell has changed -/
theorem hG_set {D : va_G} {dA : Nat → ClassId} {bs : Nat} {σ σ' : HS} {H H1 : Heap} {a : Nat} {c c1 : Cell} (h : hG D dA bs σ H) (ht : h_tg σ' = h_tg σ) (hl : h_ln σ' = h_ln σ) (hz : h_sz σ' = h_sz σ) (hs : h_sl σ' = h_sl σ) (hcz : h_cz σ' = h_cz σ) (hck : h_ck σ' = h_ck σ)
    (hv : ∀ b, b ≠ a → ∀ kd k, h_val kd σ' b k = h_val kd σ b k) (e0 : H[a]? = some c) (e1 : H1[a]? = some c1) (es : c1.slots.size = c.slots.size) (z1 : H1.size = H.size) (o1 : ∀ q, q ≠ a → H1[q]? = H[q]?) (ha : h_at D dA σ' a H1) : hG D dA bs σ' H1 := by
  obtain ⟨g1, g2, g3, g4, g5, g6⟩ := h
  refine ⟨by rw [z1, hz]; exact g1, by rw [h_slotSum_same z1 e0 e1 es o1, hs]; exact g2, by rw [hz, hcz]; exact g3, by rw [hs, hck]; exact g4, fun b hb => g5 b (by rw [← ht]; exact hb), fun b => ?_⟩
  by_cases hb : b = a
  · subst hb; exact ha
  · intro hb0
    rw [ht] at hb0 ⊢
    obtain ⟨k1, k2⟩ := g6 b hb0
    refine ⟨fun hc => ?_, fun hc => ?_⟩
    · obtain ⟨r, r1, r2⟩ := k1 hc
      exact ⟨r, r1, (r2.kept (o1 b hb)).to (fun k _ => (hv b hb _ _).symm)⟩
    · rw [o1 b hb, k2 hc, hl]
      congr 2
      funext j
      exact (hv b hb _ _).symm
/-- one cell has come -/
theorem hG_push {D : va_G} {dA : Nat → ClassId} {bs t n k : Nat} {σ : HS} {H : Heap} {c : Cell} (h : hG D dA bs σ H) (hbs : bs ≤ H.size) (hk : c.slots.size = k) (hc1 : h_sz σ + 1 ≤ h_cz σ) (hc2 : h_sl σ + k ≤ h_ck σ) (ha : h_at D dA (h_push σ t n k) H.size (H.push c)) : hG D dA bs (h_push σ t n k) (H.push c) := by
  obtain ⟨g1, g2, g3, g4, g5, g6⟩ := h
  refine ⟨by rw [Array.size_push, g1]; rfl, by rw [h_slotSum_push, g2, hk]; rfl, hc1, hc2, fun b hb => ?_, fun b => ?_⟩
  · by_cases e : b = h_sz σ
    · rw [e, ← g1]; exact hbs
    · refine g5 b ?_
      have : h_tg (h_push σ t n k) b = h_tg σ b := va_up_ne _ _ e
      rw [← this]; exact hb
  · by_cases e : b = H.size
    · rw [e]; exact ha
    · have e' : b ≠ h_sz σ := by rw [← g1]; exact e
      have et : h_tg (h_push σ t n k) b = h_tg σ b := va_up_ne _ _ e'
      have el : h_ln (h_push σ t n k) b = h_ln σ b := va_up_ne _ _ e'
      have ev : ∀ kd j, h_val kd (h_push σ t n k) b j = h_val kd σ b j := by
        intro kd j
        simp [h_val, h_iv, h_rv, h_lv, h_push, h_upA, e']
      intro hb0
      rw [et] at hb0 ⊢
      obtain ⟨k1, k2⟩ := g6 b hb0
      have hlt : b < H.size := hG_lt ⟨g1, g2, g3, g4, g5, g6⟩ hb0
      have hq : (H.push c)[b]? = H[b]? := by rw [Array.getElem?_push, if_neg e]
      refine ⟨fun hc => ?_, fun hc => ?_⟩
      · obtain ⟨r, r1, r2⟩ := k1 hc
        exact ⟨r, r1, (r2.kept hq).to (fun k _ => (ev _ _).symm)⟩
      · rw [hq, k2 hc, el]
        congr 2
        funext j
        exact (ev _ _).symm
/-- bounds: only the two counts move (an exception has come) -/
theorem hG_bump {D : va_G} {dA : Nat → ClassId} {bs : Nat} {σ : HS} {H H1 : Heap} (h : hG D dA bs σ H) (hz : H1.size ≤ h_cz σ) (hs : slotSum H1 ≤ h_ck σ) (ho : ∀ q, q < H.size → H1[q]? = H[q]?) : hG D dA bs (h_bump σ H1.size (slotSum H1)) H1 := by
  refine ⟨rfl, rfl, hz, hs, h.2.2.2.2.1, fun b hb0 => ?_⟩
  have hlt : b < H.size := hG_lt h hb0
  obtain ⟨k1, k2⟩ := h.2.2.2.2.2 b hb0
  refine ⟨fun hc => ?_, fun hc => ?_⟩
  · obtain ⟨r, r1, r2⟩ := k1 hc
    exact ⟨r, r1, r2.kept (ho b hlt)⟩
  · rw [ho b hlt]; exact k2 hc
theorem h_rf_cat (r : Option Nat) : (va_rf r).category = 1 := by cases r <;> rfl
section HV
variable {p : Program} {l : Launch} {e : Env} {R : Room} {s : State} {m : MethodId} {args : Array Value} {below : List Frame} {meth : Method} {c : Code} {H : Heap} {locs : List Loc} {cells slots : Nat} {Q : State → Prop}
/-- the walk's counts may be taken from the heap itself -/
theorem W.tight {g : JFrame} (k : W p l e R s m args below meth c H locs (H.size - s.heap.size) (slotSum H - slotSum s.heap) Q g) : W p l e R s m args below meth c H locs cells slots Q g := by
  intro T hT X
  refine k T hT { X with same := ?_ }
  have h0 : s.slotsTrue = true := by
    have h := X.room
    simp only [State.hasRoom, Bool.and_eq_true] at h
    exact h.2
  have b0 : s.slotsUsed = slotSum s.heap := (State.slotsTrue_iff s).mp h0
  have b1 : T.slotsUsed = slotSum T.heap := (State.slotsTrue_iff T).mp X.book
  obtain ⟨a1, a2, a3, a4, a5, a6⟩ := X.same
  have a4' : T.slotsUsed = s.slotsUsed + ((T.heap.toList.drop s.heap.size).map (·.slots.size)).sum := a4
  refine ⟨a1, a2, ?_, a4, ?_, a6⟩
  · show T.heap.size ≤ _
    have a2' : s.heap.size ≤ T.heap.size := a2
    rw [hT] at a2' ⊢
    omega
  · show ((T.heap.toList.drop s.heap.size).map (·.slots.size)).sum ≤ _
    rw [← hT]
    omega
theorem h_sumge {T : State} (X : Stand p l e R s m args below meth c T locs cells slots) : slotSum s.heap ≤ slotSum T.heap := by
  have h0 : s.slotsTrue = true := by
    have h := X.room
    simp only [State.hasRoom, Bool.and_eq_true] at h
    exact h.2
  have b0 : s.slotsUsed = slotSum s.heap := (State.slotsTrue_iff s).mp h0
  have b1 : T.slotsUsed = slotSum T.heap := (State.slotsTrue_iff T).mp X.book
  have a4 : T.slotsUsed = s.slotsUsed + ((T.heap.toList.drop s.heap.size).map (·.slots.size)).sum := X.same.2.2.2.1
  omega
end HV
/-- locals of one word each -/
def h_c1 (l : List (Nat × Value)) : Prop := ∀ q ∈ l, q.2.category = 1
/-- the state of a walk: the heap by σ, nothing below bs written, the locals, the room -/
def h_I (R : Room) (s : State) (D : va_G) (dA : Nat → ClassId) (bs nL : Nat) (σ : HS) (lv : List (Nat × Value)) (H : Heap) (locs : List Loc) (ls : Array Slot) : Prop :=
  hG D dA bs σ H ∧ va_S (fun q => bs ≤ q) s.heap H locs ∧ (lv_has ls nL lv ∧ h_c1 lv) ∧ s.heap.size + R.cells = h_cz σ ∧ slotSum s.heap + R.slots = h_ck σ ∧ bs ≤ s.heap.size
def V (p : Program) (l : Launch) (e : Env) (R : Room) (s : State) (m : MethodId) (args : Array Value) (below : List Frame) (meth : Method) (c : Code) (D : va_G) (dA : Nat → ClassId) (bs nL : Nat) (Q : State → Prop) (σ : HS) (pc : Nat) (lv : List (Nat × Value)) (st : List Value) : Prop :=
  ∀ (H : Heap) (locs : List Loc) (ls : Array Slot), h_I R s D dA bs nL σ lv H locs ls → W p l e R s m args below meth c H locs (H.size - s.heap.size) (slotSum H - slotSum s.heap) Q (F0 m pc ls st)
/-- what the tables say of the classes and of the array classes -/
def h_K (D : va_G) (dA : Nat → ClassId) (U : State) : Prop := va_K D classes (h_tys dA) U ∧ ∀ Cn ∈ h_aos, va_AO Cn U
theorem h_K.moved {D : va_G} {dA : Nat → ClassId} {u U : State} (hvm : u.vm.Alike U.vm) (h : h_K D dA u) : h_K D dA U := ⟨va_K.moved hvm h.1, fun Cn hC => va_AO.moved hvm (h.2 Cn hC)⟩
/-- what a walk knows of its method -/
def h_C (p : Program) (m : MethodId) (c : Code) (cc : ByteArray) (nL : Nat) (s : State) (args : Array Value) (own : String) (D : va_G) (dA : Nat → ClassId) : Prop := CallFix p m c cc nL s args h_ws own ∧ h_K D dA s
/-- a class of the table, by its tag -/
def h_CL (t : Nat) (C : String) (T : u_T) (N : Nat) : Prop := 0 < t ∧ t < 100 ∧ classes[t - 1]? = some (C, T, N) ∧ (∀ w ∈ u_ws C T N, w ∈ h_ws) ∧ Cond.instantiable C N ∈ h_ws ∧ Cond.initialized C ∈ h_ws ∧
  ∃ ty : Nat → FieldType, (∀ k, k < N → parseFieldDescriptor (T k).2.2.1 = some (ty k)) ∧ (∀ a, a < N → ∀ b, b < N → a ≠ b → (T a).2.1 ≠ (T b).2.1) ∧
    ∀ k, k < N → (h_kd t k = 0 ∧ ty k = .int) ∨ (h_kd t k = 2 ∧ ty k = .long) ∨ (h_kd t k = 1 ∧ (ty k).isReference = true)
/-- a field of it, as a method of the class 'own' names it -/
def h_FL (own : String) (idx t k kd : Nat) : Prop := ∃ (C : String) (T : u_T) (N : Nat), h_CL t C T N ∧ k < N ∧ h_kd t k = kd ∧ Cond.fieldLink own idx (T k).1 (T k).2.1 (T k).2.2.1 ∈ h_ws
/-- .. that may be written anywhere; that a constructor writes -/
def h_FW (own : String) (idx t k kd : Nat) : Prop := ∃ (C : String) (T : u_T) (N : Nat), h_CL t C T N ∧ k < N ∧ h_kd t k = kd ∧ Cond.fieldLink own idx (T k).1 (T k).2.1 (T k).2.2.1 ∈ h_ws ∧ (T k).2.2.2 = false
def h_FF (own : String) (idx t k kd : Nat) : Prop := ∃ (C : String) (T : u_T) (N : Nat), h_CL t C T N ∧ k < N ∧ h_kd t k = kd ∧ Cond.fieldLink own idx (T k).1 (T k).2.1 (T k).2.2.1 ∈ h_ws ∧ (T k).2.2.2 = true ∧ (T k).1 = own
