/-! from 03.heap -/
section
/-! THE HEAP AS FUNCTIONS. A state σ of the part of the heap that the law makes: tag, length, ints, references, longs by address; number of cells, number of slots, the two bounds. -/
abbrev HS : Type := (Nat → Nat) × (Nat → Nat) × (Nat → Nat → Int32) × (Nat → Nat → Option Nat) × (Nat → Nat → Int64) × Nat × Nat × Nat × Nat
def h_tg (σ : HS) : Nat → Nat := σ.1
def h_ln (σ : HS) : Nat → Nat := σ.2.1
def h_iv (σ : HS) : Nat → Nat → Int32 := σ.2.2.1
def h_rv (σ : HS) : Nat → Nat → Option Nat := σ.2.2.2.1
def h_lv (σ : HS) : Nat → Nat → Int64 := σ.2.2.2.2.1
def h_sz (σ : HS) : Nat := σ.2.2.2.2.2.1
def h_sl (σ : HS) : Nat := σ.2.2.2.2.2.2.1
def h_cz (σ : HS) : Nat := σ.2.2.2.2.2.2.2.1
def h_ck (σ : HS) : Nat := σ.2.2.2.2.2.2.2.2
def h_up2 {α : Type} (f : Nat → Nat → α) (a k : Nat) (v : α) : Nat → Nat → α := fun b j => if b = a ∧ j = k then v else f b j
def h_upA {α : Type} (f : Nat → Nat → α) (a : Nat) (g : Nat → α) : Nat → Nat → α := fun b j => if b = a then g j else f b j
def h_setI (σ : HS) (a k : Nat) (v : Int32) : HS := (σ.1, σ.2.1, h_up2 σ.2.2.1 a k v, σ.2.2.2)
def h_setR (σ : HS) (a k : Nat) (v : Option Nat) : HS := (σ.1, σ.2.1, σ.2.2.1, h_up2 σ.2.2.2.1 a k v, σ.2.2.2.2)
def h_setL (σ : HS) (a k : Nat) (v : Int64) : HS := (σ.1, σ.2.1, σ.2.2.1, σ.2.2.2.1, h_up2 σ.2.2.2.2.1 a k v, σ.2.2.2.2.2)
def h_setA (σ : HS) (a : Nat) (g : Nat → Int32) : HS := (σ.1, σ.2.1, h_upA σ.2.2.1 a g, σ.2.2.2)
/-- a new cell: tag t, length n, k slots -/
def h_push (σ : HS) (t n k : Nat) : HS := (va_up σ.1 (h_sz σ) t, va_up σ.2.1 (h_sz σ) n, h_upA σ.2.2.1 (h_sz σ) (fun _ => 0), h_upA σ.2.2.2.1 (h_sz σ) (fun _ => none), h_upA σ.2.2.2.2.1 (h_sz σ) (fun _ => 0), h_sz σ + 1, h_sl σ + k, h_cz σ, h_ck σ)
def h_bump (σ : HS) (z k : Nat) : HS := (σ.1, σ.2.1, σ.2.2.1, σ.2.2.2.1, σ.2.2.2.2.1, z, k, σ.2.2.2.2.2.2.2)
-- reads, writes, allocation: none where the machine itself would throw (or the room is out)
def h_gI (σ : HS) (r : Option Nat) (t k : Nat) : Option Int32 := r.bind fun a => if h_tg σ a = t then some (h_iv σ a k) else none
def h_gR (σ : HS) (r : Option Nat) (t k : Nat) : Option (Option Nat) := r.bind fun a => if h_tg σ a = t then some (h_rv σ a k) else none
def h_gL (σ : HS) (r : Option Nat) (t k : Nat) : Option Int64 := r.bind fun a => if h_tg σ a = t then some (h_lv σ a k) else none
def h_pI (σ : HS) (r : Option Nat) (t k : Nat) (v : Int32) : Option HS := r.bind fun a => if h_tg σ a = t then some (h_setI σ a k v) else none
def h_pR (σ : HS) (r : Option Nat) (t k : Nat) (v : Option Nat) : Option HS := r.bind fun a => if h_tg σ a = t then some (h_setR σ a k v) else none
def h_pL (σ : HS) (r : Option Nat) (t k : Nat) (v : Int64) : Option HS := r.bind fun a => if h_tg σ a = t then some (h_setL σ a k v) else none
def h_ok (σ : HS) (a t : Nat) (i : Int32) : Bool := decide (h_tg σ a = t) && !(decide (i < 0) || decide (h_ln σ a ≤ i.toNatClampNeg))
def h_aI (σ : HS) (r : Option Nat) (t : Nat) (i : Int32) : Option Int32 := r.bind fun a => if h_ok σ a t i = true then some (h_iv σ a i.toNatClampNeg) else none
def h_aR (σ : HS) (r : Option Nat) (t : Nat) (i : Int32) : Option (Option Nat) := r.bind fun a => if h_ok σ a t i = true then some (h_rv σ a i.toNatClampNeg) else none
def h_aL (σ : HS) (r : Option Nat) (t : Nat) (i : Int32) : Option Int64 := r.bind fun a => if h_ok σ a t i = true then some (h_lv σ a i.toNatClampNeg) else none
def h_sI (σ : HS) (r : Option Nat) (t : Nat) (i : Int32) (v : Int32) : Option HS := r.bind fun a => if h_ok σ a t i = true then some (h_setI σ a i.toNatClampNeg v) else none
def h_sL (σ : HS) (r : Option Nat) (t : Nat) (i : Int32) (v : Int64) : Option HS := r.bind fun a => if h_ok σ a t i = true then some (h_setL σ a i.toNatClampNeg v) else none
/-- into an array of references to objects of the tag u -/
def h_fitR (σ : HS) (u : Nat) (v : Option Nat) : Bool := match v with
  | none => true
  | some b => decide (h_tg σ b = u)
def h_sR (σ : HS) (r : Option Nat) (t u : Nat) (i : Int32) (v : Option Nat) : Option HS := r.bind fun a => if (h_ok σ a t i && h_fitR σ u v) = true then some (h_setR σ a i.toNatClampNeg v) else none
def h_len (σ : HS) (r : Option Nat) (t : Nat) : Option Int32 := r.bind fun a => if h_tg σ a = t then some (Int32.ofNat (h_ln σ a)) else none
/-- a new object of n fields; a new array of n places -/
def h_mk (σ : HS) (t n : Nat) : Option (Option Nat × HS) := if h_sz σ + 1 ≤ h_cz σ ∧ h_sl σ + n ≤ h_ck σ then some (some (h_sz σ), h_push σ t 0 n) else none
def h_mkA (σ : HS) (t : Nat) (n : Int32) : Option (Option Nat × HS) := if ¬ n < 0 ∧ n.toNatClampNeg ≤ 60000000 ∧ h_sz σ + 1 ≤ h_cz σ ∧ h_sl σ + n.toNatClampNeg ≤ h_ck σ then some (some (h_sz σ), h_push σ t n.toNatClampNeg n.toNatClampNeg) else none
def h_cpI (σ : HS) (rs : Option Nat) (sp : Int32) (rd : Option Nat) (dp n : Int32) : Option HS := rs.bind fun a => rd.bind fun b =>
  if h_tg σ a = 100 ∧ h_tg σ b = 100 ∧ ¬ sp < 0 ∧ ¬ dp < 0 ∧ ¬ n < 0 ∧ sp.toNatClampNeg + n.toNatClampNeg ≤ h_ln σ a ∧ dp.toNatClampNeg + n.toNatClampNeg ≤ h_ln σ b then some (h_setA σ b (va_cpy (h_iv σ a) (h_iv σ b) sp.toNatClampNeg dp.toNatClampNeg n.toNatClampNeg)) else none
def h_bd {α β : Type} (o : Option (α × HS)) (k : α → HS → Option β) : Option β := match o with
  | none => none
  | some q => k q.1 q.2
def h_b1 {α β : Type} (o : Option α) (k : α → Option β) : Option β := match o with
  | none => none
  | some q => k q
theorem h_bd_some {α β : Type} {o : Option (α × HS)} {k : α → HS → Option β} {z : β} (h : h_bd o k = some z) : ∃ r σ', o = some (r, σ') ∧ k r σ' = some z := by
  cases o with
  | none => cases h
  | some q => exact ⟨q.1, q.2, rfl, h⟩
theorem h_b1_some {α β : Type} {o : Option α} {k : α → Option β} {z : β} (h : h_b1 o k = some z) : ∃ r, o = some r ∧ k r = some z := by
  cases o with
  | none => cases h
  | some q => exact ⟨q, rfl, h⟩
def h_hN : Nat := 2000
def h_ushr (x y : Int32) : Int32 := (x.toUInt32 >>> (y.toUInt32 &&& Int32.toUInt32 31)).toInt32
end
/-! from 04.state -/
section
/-! WHAT A STATE σ SAYS OF THE HEAP; the walk over such states -/
def h_val (kd : Nat) (σ : HS) (a k : Nat) : Value := if kd = 0 then .int (h_iv σ a k) else if kd = 1 then va_rf (h_rv σ a k) else .long (h_lv σ a k)
def h_ak (t : Nat) : Nat := if t = 100 ∨ t = 102 then 0 else if t = 101 then 2 else 1
def h_at (D : va_G) (dA : Nat → ClassId) (σ : HS) (a : Nat) (H : Heap) : Prop :=
  h_tg σ a ≠ 0 → (h_tg σ a < 100 → ∃ r : vw_C, classes[h_tg σ a - 1]? = some r ∧ t_OB a (D.1 (h_tg σ a - 1)) r.2.2 (D.2 (h_tg σ a - 1)) H (fun k => h_val (h_kd (h_tg σ a) k) σ a k)) ∧
    (100 ≤ h_tg σ a → H[a]? = some (arrV (dA (h_tg σ a - 100)) (h_ln σ a) (fun j => h_val (h_ak (h_tg σ a)) σ a j)))
def hG (D : va_G) (dA : Nat → ClassId) (bs : Nat) (σ : HS) (H : Heap) : Prop :=
  H.size = h_sz σ ∧ slotSum H = h_sl σ ∧ h_sz σ ≤ h_cz σ ∧ h_sl σ ≤ h_ck σ ∧ (∀ a, h_tg σ a ≠ 0 → bs ≤ a) ∧ ∀ a, h_at D dA σ a H
theorem hG_lt {D : va_G} {dA : Nat → ClassId} {bs : Nat} {σ : HS} {H : Heap} (h : hG D dA bs σ H) {a : Nat} (ha : h_tg σ a ≠ 0) : a < H.size := by
  have h1 := h.2.2.2.2.2 a ha
  by_cases hc : h_tg σ a < 100
  · obtain ⟨r, -, cell, h2, -⟩ := h1.1 hc
    exact (Array.getElem?_eq_some_iff.mp h2).1
  · exact (Array.getElem?_eq_some_iff.mp (h1.2 (by omega))).1
theorem h_slotSum_same {H H1 : Heap} {a : Nat} {c c1 : Cell} (hz : H1.size = H.size) (h0 : H[a]? = some c) (h1 : H1[a]? = some c1) (hs : c1.slots.size = c.slots.size) (ho : ∀ q, q ≠ a → H1[q]? = H[q]?) : slotSum H1 = slotSum H := by
  rw [slotSum_sum, slotSum_sum]
  congr 1
  apply List.ext_getElem?
  intro i
  rw [List.getElem?_map, List.getElem?_map, Array.getElem?_toList, Array.getElem?_toList]
  by_cases hi : i = a
  · subst hi
    rw [h0, h1]
    simp [hs]
  · rw [ho i hi]
theorem h_slotSum_push (H : Heap) (c : Cell) : slotSum (H.push c) = slotSum H + c.slots.size := by
  rw [slotSum_sum, slotSum_sum, Array.toList_push, List.map_append, List.sum_append]
  simp
/-- one cell has changed -/
theorem hG_set {D : va_G} {dA : Nat → ClassId} {bs : Nat} {σ σ' : HS} {H H1 : Heap} {a : Nat} {c c1 : Cell} (h : hG D dA bs σ H) (ht : h_tg σ' = h_tg σ) (hl : h_ln σ' = h_ln σ) (hz : h_sz σ' = h_sz σ) (hs : h_sl σ' = h_sl σ) (hcz : h_cz σ' = h_cz σ) (hck : h_ck σ' = h_ck σ)
    (hv : ∀ b, b ≠ a → ∀ kd k, h_val kd σ' b k = h_val kd σ b k) (e0 : H[a]? = some c) (e1 : H1[a]? = some c1) (es : c1.slots.size = c.slots.size) (z1 : H1.size = H.size) (o1 : ∀ q, q ≠ a → H1[q]? = H[q]?) (ha : h_at D dA σ' a H1) : hG D dA bs σ' H1 := by
  obtain ⟨g1, g2, g3, g4, g5, g6⟩ := h
  refine ⟨by rw [z1, hz]; exact g1, by rw [h_slotSum_same z1 e0 e1 es o1, hs]; exact g2, by rw [hz, hcz]; exact g3, by rw [hs, hck]; exact g4, fun b hb => g5 b (by rw [← ht]; exact hb), fun b => ?_⟩
  by_cases hb : b = a
  · subst hb; exact ha
  · intro hb0
    rw [ht] at hb0 ⊢
    obtain ⟨k1, k2⟩ := g6 b hb0
    refine ⟨fun hc => ?_, fun hc => ?_⟩
    · obtain ⟨r, r1, r2⟩ := k1 hc
      exact ⟨r, r1, (r2.kept (o1 b hb)).to (fun k _ => (hv b hb _ _).symm)⟩
    · rw [o1 b hb, k2 hc, hl]
      congr 2
      funext j
      exact (hv b hb _ _).symm
/-- one cell has come -/
theorem hG_push {D : va_G} {dA : Nat → ClassId} {bs t n k : Nat} {σ : HS} {H : Heap} {c : Cell} (h : hG D dA bs σ H) (hbs : bs ≤ H.size) (hk : c.slots.size = k) (hc1 : h_sz σ + 1 ≤ h_cz σ) (hc2 : h_sl σ + k ≤ h_ck σ) (ha : h_at D dA (h_push σ t n k) H.size (H.push c)) : hG D dA bs (h_push σ t n k) (H.push c) := by
  obtain ⟨g1, g2, g3, g4, g5, g6⟩ := h
  refine ⟨by rw [Array.size_push, g1]; rfl, by rw [h_slotSum_push, g2, hk]; rfl, hc1, hc2, fun b hb => ?_, fun b => ?_⟩
  · by_cases e : b = h_sz σ
    · rw [e, ← g1]; exact hbs
    · refine g5 b ?_
      have : h_tg (h_push σ t n k) b = h_tg σ b := va_up_ne _ _ e
      rw [← this]; exact hb
  · by_cases e : b = H.size
    · rw [e]; exact ha
    · have e' : b ≠ h_sz σ := by rw [← g1]; exact e
      have et : h_tg (h_push σ t n k) b = h_tg σ b := va_up_ne _ _ e'
      have el : h_ln (h_push σ t n k) b = h_ln σ b := va_up_ne _ _ e'
      have ev : ∀ kd j, h_val kd (h_push σ t n k) b j = h_val kd σ b j := by
        intro kd j
        simp [h_val, h_iv, h_rv, h_lv, h_push, h_upA, e']
      intro hb0
      rw [et] at hb0 ⊢
      obtain ⟨k1, k2⟩ := g6 b hb0
      have hlt : b < H.size := hG_lt ⟨g1, g2, g3, g4, g5, g6⟩ hb0
      have hq : (H.push c)[b]? = H[b]? := by rw [Array.getElem?_push, if_neg e]
      refine ⟨fun hc => ?_, fun hc => ?_⟩
      · obtain ⟨r, r1, r2⟩ := k1 hc
        exact ⟨r, r1, (r2.kept hq).to (fun k _ => (ev _ _).symm)⟩
      · rw [hq, k2 hc, el]
        congr 2
        funext j
        exact (ev _ _).symm
/-- bounds: only the two counts move (an exception has come) -/
theorem hG_bump {D : va_G} {dA : Nat → ClassId} {bs : Nat} {σ : HS} {H H1 : Heap} (h : hG D dA bs σ H) (hz : H1.size ≤ h_cz σ) (hs : slotSum H1 ≤ h_ck σ) (ho : ∀ q, q < H.size → H1[q]? = H[q]?) : hG D dA bs (h_bump σ H1.size (slotSum H1)) H1 := by
  refine ⟨rfl, rfl, hz, hs, h.2.2.2.2.1, fun b hb0 => ?_⟩
  have hlt : b < H.size := hG_lt h hb0
  obtain ⟨k1, k2⟩ := h.2.2.2.2.2 b hb0
  refine ⟨fun hc => ?_, fun hc => ?_⟩
  · obtain ⟨r, r1, r2⟩ := k1 hc
    exact ⟨r, r1, r2.kept (ho b hlt)⟩
  · rw [ho b hlt]; exact k2 hc
theorem h_rf_cat (r : Option Nat) : (va_rf r).category = 1 := by cases r <;> rfl
section HV
variable {p : Program} {l : Launch} {e : Env} {R : Room} {s : State} {m : MethodId} {args : Array Value} {below : List Frame} {meth : Method} {c : Code} {H : Heap} {locs : List Loc} {cells slots : Nat} {Q : State → Prop}
/-- the walk's counts may be taken from the heap itself -/
theorem W.tight {g : JFrame} (k : W p l e R s m args below meth c H locs (H.size - s.heap.size) (slotSum H - slotSum s.heap) Q g) : W p l e R s m args below meth c H locs cells slots Q g := by
  intro T hT X
  refine k T hT { X with same := ?_ }
  have h0 : s.slotsTrue = true := by
    have h := X.room
    simp only [State.hasRoom, Bool.and_eq_true] at h
    exact h.2
  have b0 : s.slotsUsed = slotSum s.heap := (State.slotsTrue_iff s).mp h0
  have b1 : T.slotsUsed = slotSum T.heap := (State.slotsTrue_iff T).mp X.book
  obtain ⟨a1, a2, a3, a4, a5, a6⟩ := X.same
  have a4' : T.slotsUsed = s.slotsUsed + ((T.heap.toList.drop s.heap.size).map (·.slots.size)).sum := a4
  refine ⟨a1, a2, ?_, a4, ?_, a6⟩
  · show T.heap.size ≤ _
    have a2' : s.heap.size ≤ T.heap.size := a2
    rw [hT] at a2' ⊢
    omega
  · show ((T.heap.toList.drop s.heap.size).map (·.slots.size)).sum ≤ _
    rw [← hT]
    omega
theorem h_sumge {T : State} (X : Stand p l e R s m args below meth c T locs cells slots) : slotSum s.heap ≤ slotSum T.heap := by
  have h0 : s.slotsTrue = true := by
    have h := X.room
    simp only [State.hasRoom, Bool.and_eq_true] at h
    exact h.2
  have b0 : s.slotsUsed = slotSum s.heap := (State.slotsTrue_iff s).mp h0
  have b1 : T.slotsUsed = slotSum T.heap := (State.slotsTrue_iff T).mp X.book
  have a4 : T.slotsUsed = s.slotsUsed + ((T.heap.toList.drop s.heap.size).map (·.slots.size)).sum := X.same.2.2.2.1
  omega
end HV
/-- locals of one word each -/
def h_c1 (l : List (Nat × Value)) : Prop := ∀ q ∈ l, q.2.category = 1
/-- the state of a walk: the heap by σ, nothing below bs written, the locals, the room -/
def h_I (R : Room) (s : State) (D : va_G) (dA : Nat → ClassId) (bs nL : Nat) (σ : HS) (lv : List (Nat × Value)) (H : Heap) (locs : List Loc) (ls : Array Slot) : Prop :=
  hG D dA bs σ H ∧ va_S (fun q => bs ≤ q) s.heap H locs ∧ (lv_has ls nL lv ∧ h_c1 lv) ∧ s.heap.size + R.cells = h_cz σ ∧ slotSum s.heap + R.slots = h_ck σ ∧ bs ≤ s.heap.size
def V (p : Program) (l : Launch) (e : Env) (R : Room) (s : State) (m : MethodId) (args : Array Value) (below : List Frame) (meth : Method) (c : Code) (D : va_G) (dA : Nat → ClassId) (bs nL : Nat) (Q : State → Prop) (σ : HS) (pc : Nat) (lv : List (Nat × Value)) (st : List Value) : Prop :=
  ∀ (H : Heap) (locs : List Loc) (ls : Array Slot), h_I R s D dA bs nL σ lv H locs ls → W p l e R s m args below meth c H locs (H.size - s.heap.size) (slotSum H - slotSum s.heap) Q (F0 m pc ls st)
/-- what the tables say of the classes and of the array classes -/
def h_K (D : va_G) (dA : Nat → ClassId) (U : State) : Prop := va_K D classes (h_tys dA) U ∧ ∀ Cn ∈ h_aos, va_AO Cn U
theorem h_K.moved {D : va_G} {dA : Nat → ClassId} {u U : State} (hvm : u.vm.Alike U.vm) (h : h_K D dA u) : h_K D dA U := ⟨va_K.moved hvm h.1, fun Cn hC => va_AO.moved hvm (h.2 Cn hC)⟩
/-- what a walk knows of its method -/
def h_C (p : Program) (m : MethodId) (c : Code) (cc : ByteArray) (nL : Nat) (s : State) (args : Array Value) (own : String) (D : va_G) (dA : Nat → ClassId) : Prop := CallFix p m c cc nL s args h_ws own ∧ h_K D dA s
/-- a class of the table, by its tag -/
def h_CL (t : Nat) (C : String) (T : u_T) (N : Nat) : Prop := 0 < t ∧ t < 100 ∧ classes[t - 1]? = some (C, T, N) ∧ (∀ w ∈ u_ws C T N, w ∈ h_ws) ∧ Cond.instantiable C N ∈ h_ws ∧ Cond.initialized C ∈ h_ws ∧
  ∃ ty : Nat → FieldType, (∀ k, k < N → parseFieldDescriptor (T k).2.2.1 = some (ty k)) ∧ (∀ a, a < N → ∀ b, b < N → a ≠ b → (T a).2.1 ≠ (T b).2.1) ∧
    ∀ k, k < N → (h_kd t k = 0 ∧ ty k = .int) ∨ (h_kd t k = 2 ∧ ty k = .long) ∨ (h_kd t k = 1 ∧ (ty k).isReference = true)
/-- a field of it, as a method of the class 'own' names it -/
def h_FL (own : String) (idx t k kd : Nat) : Prop := ∃ (C : String) (T : u_T) (N : Nat), h_CL t C T N ∧ k < N ∧ h_kd t k = kd ∧ Cond.fieldLink own idx (T k).1 (T k).2.1 (T k).2.2.1 ∈ h_ws
/-- .. that may be written anywhere; that a constructor writes -/
def h_FW (own : String) (idx t k kd : Nat) : Prop := ∃ (C : String) (T : u_T) (N : Nat), h_CL t C T N ∧ k < N ∧ h_kd t k = kd ∧ Cond.fieldLink own idx (T k).1 (T k).2.1 (T k).2.2.1 ∈ h_ws ∧ (T k).2.2.2 = false
def h_FF (own : String) (idx t k kd : Nat) : Prop := ∃ (C : String) (T : u_T) (N : Nat), h_CL t C T N ∧ k < N ∧ h_kd t k = kd ∧ Cond.fieldLink own idx (T k).1 (T k).2.1 (T k).2.2.1 ∈ h_ws ∧ (T k).2.2.2 = true ∧ (T k).1 = own
end
/-! from 05.rows -/
section
/-! ROWS OF THE WALK OVER STATES -/
section HR
variable {p : Program} {l : Launch} {e : Env} {R : Room} {s : State} {m : MethodId} {args : Array Value} {below : List Frame} {meth : Method} {c : Code} {D : va_G} {dA : Nat → ClassId} {bs nL : Nat} {Q : State → Prop} {cc : ByteArray} {own : String} {σ : HS} {pc : Nat} {lv lv' : List (Nat × Value)} {rest : List Value}
theorem V_iconst (C : h_C p m c cc nL s args own D dA) {n : Int} {v : Int32} (d : decode cc pc = .ok (.iconst n, 1)) (hv : Int32.ofInt n = v) (k : V p l e R s m args below meth c D dA bs nL Q σ (pc + 1) lv (.int v :: rest)) : V p l e R s m args below meth c D dA bs nL Q σ pc lv (rest) := fun H locs ls I => lv_iconst C.1.1 C.1.2.1 d hv (k H locs ls I)
theorem V_bipush (C : h_C p m c cc nL s args own D dA) {n : Int} {v : Int32} (d : decode cc pc = .ok (.bipush n, 2)) (hv : (Int8.ofInt n).toInt32 = v) (k : V p l e R s m args below meth c D dA bs nL Q σ (pc + 2) lv (.int v :: rest)) : V p l e R s m args below meth c D dA bs nL Q σ pc lv (rest) := fun H locs ls I => lv_bipush C.1.1 C.1.2.1 d hv (k H locs ls I)
theorem V_sipush (C : h_C p m c cc nL s args own D dA) {n : Int} {v : Int32} (d : decode cc pc = .ok (.sipush n, 3)) (hv : (Int16.ofInt n).toInt32 = v) (k : V p l e R s m args below meth c D dA bs nL Q σ (pc + 3) lv (.int v :: rest)) : V p l e R s m args below meth c D dA bs nL Q σ pc lv (rest) := fun H locs ls I => lv_sipush C.1.1 C.1.2.1 d hv (k H locs ls I)
theorem V_lconst (C : h_C p m c cc nL s args own D dA) {n : Fin 2} {v : Int64} (d : decode cc pc = .ok (.lconst n, 1)) (hv : Int64.ofNat (n : Nat) = v) (k : V p l e R s m args below meth c D dA bs nL Q σ (pc + 1) lv (.long v :: rest)) : V p l e R s m args below meth c D dA bs nL Q σ pc lv (rest) := fun H locs ls I => lv_lconst C.1.1 C.1.2.1 d hv (k H locs ls I)
theorem V_null (C : h_C p m c cc nL s args own D dA)  (d : decode cc pc = .ok (.aconst_null, 1))  (k : V p l e R s m args below meth c D dA bs nL Q σ (pc + 1) lv (va_rf none :: rest)) : V p l e R s m args below meth c D dA bs nL Q σ pc lv (rest) := fun H locs ls I => lv_null C.1.1 C.1.2.1 d (k H locs ls I)
theorem V_iload_n (C : h_C p m c cc nL s args own D dA) {k0 : Fin 4} {i : Nat} {x : Int32} (j : Nat) (d : decode cc pc = .ok (.iload_n k0, 1)) (hi : (k0 : Nat) = i) (hj : lv[j]? = some (i, .int x)) (k : V p l e R s m args below meth c D dA bs nL Q σ (pc + 1) lv (.int x :: rest)) : V p l e R s m args below meth c D dA bs nL Q σ pc lv (rest) := fun H locs ls I => lv_iload_n C.1.1 C.1.2.1 d hi (lv_at I.2.2.1.1 j hj) (k H locs ls I)
theorem V_iload (C : h_C p m c cc nL s args own D dA) {i : Nat} {x : Int32} (j : Nat) (d : decode cc pc = .ok (.iload i, 2)) (hj : lv[j]? = some (i, .int x)) (k : V p l e R s m args below meth c D dA bs nL Q σ (pc + 2) lv (.int x :: rest)) : V p l e R s m args below meth c D dA bs nL Q σ pc lv (rest) := fun H locs ls I => lv_iload C.1.1 C.1.2.1 d (lv_at I.2.2.1.1 j hj) (k H locs ls I)
theorem V_aload_n (C : h_C p m c cc nL s args own D dA) {k0 : Fin 4} {i : Nat} {x : Option Nat} (j : Nat) (d : decode cc pc = .ok (.aload_n k0, 1)) (hi : (k0 : Nat) = i) (hj : lv[j]? = some (i, va_rf x)) (k : V p l e R s m args below meth c D dA bs nL Q σ (pc + 1) lv (va_rf x :: rest)) : V p l e R s m args below meth c D dA bs nL Q σ pc lv rest := fun H locs ls I => by
  cases x with
  | none => exact lv_aload_nN C.1.1 C.1.2.1 d hi (lv_at I.2.2.1.1 j hj) (k H locs ls I)
  | some a => exact lv_aload_n C.1.1 C.1.2.1 d hi (lv_at I.2.2.1.1 j hj) (k H locs ls I)
theorem V_aload (C : h_C p m c cc nL s args own D dA) {i : Nat} {x : Option Nat} (j : Nat) (d : decode cc pc = .ok (.aload i, 2)) (hj : lv[j]? = some (i, va_rf x)) (k : V p l e R s m args below meth c D dA bs nL Q σ (pc + 2) lv (va_rf x :: rest)) : V p l e R s m args below meth c D dA bs nL Q σ pc lv rest := fun H locs ls I => by
  cases x with
  | none => exact lv_aloadN C.1.1 C.1.2.1 d (lv_at I.2.2.1.1 j hj) (k H locs ls I)
  | some a => exact lv_aload C.1.1 C.1.2.1 d (lv_at I.2.2.1.1 j hj) (k H locs ls I)
theorem h_filt {l : List (Nat × Value)} {i : Nat} (h : h_c1 l) : l.filter (fun q => !(q.1 == i) && !(q.1 + 1 == i && q.2.category == 2)) = l.filter (fun q => !(q.1 == i)) := by
  apply List.filter_congr
  intro q hq
  rw [h q hq]
  simp
theorem h_c1_put {l l' : List (Nat × Value)} {i : Nat} {v : Value} (h : h_c1 l) (hv : v.category = 1) (e : (i, v) :: l.filter (fun q => !(q.1 == i)) = l') : h_c1 l' := by
  intro q hq
  rw [← e] at hq
  rcases List.mem_cons.mp hq with h1 | h1
  · rw [h1]; exact hv
  · exact h q (List.mem_filter.mp h1).1
theorem V_istore_n (C : h_C p m c cc nL s args own D dA) {k0 : Fin 4} {i : Nat} {x : Int32} (d : decode cc pc = .ok (.istore_n k0, 1)) (hi : (k0 : Nat) = i) (hn : i < nL) (hl : (i, Value.int x) :: lv.filter (fun q => !(q.1 == i)) = lv') (k : V p l e R s m args below meth c D dA bs nL Q σ (pc + 1) lv' rest) : V p l e R s m args below meth c D dA bs nL Q σ pc lv (.int x :: rest) := fun H locs ls I => lv_istore_n C.1.1 C.1.2.1 d hi I.2.2.1.1 hn ((congrArg _ (h_filt I.2.2.1.2)).trans hl) (fun ls1 hl1 => k H locs ls1 ⟨I.1, I.2.1, ⟨hl1, h_c1_put I.2.2.1.2 rfl hl⟩, I.2.2.2⟩)
theorem V_istore (C : h_C p m c cc nL s args own D dA) {i : Nat} {x : Int32} (d : decode cc pc = .ok (.istore i, 2)) (hn : i < nL) (hl : (i, Value.int x) :: lv.filter (fun q => !(q.1 == i)) = lv') (k : V p l e R s m args below meth c D dA bs nL Q σ (pc + 2) lv' rest) : V p l e R s m args below meth c D dA bs nL Q σ pc lv (.int x :: rest) := fun H locs ls I => lv_istore C.1.1 C.1.2.1 d I.2.2.1.1 hn ((congrArg _ (h_filt I.2.2.1.2)).trans hl) (fun ls1 hl1 => k H locs ls1 ⟨I.1, I.2.1, ⟨hl1, h_c1_put I.2.2.1.2 rfl hl⟩, I.2.2.2⟩)
theorem V_astore_n (C : h_C p m c cc nL s args own D dA) {k0 : Fin 4} {i : Nat} {x : Option Nat} (d : decode cc pc = .ok (.astore_n k0, 1)) (hi : (k0 : Nat) = i) (hn : i < nL) (hl : (i, va_rf x) :: lv.filter (fun q => !(q.1 == i)) = lv') (k : V p l e R s m args below meth c D dA bs nL Q σ (pc + 1) lv' rest) : V p l e R s m args below meth c D dA bs nL Q σ pc lv (va_rf x :: rest) := fun H locs ls I => by
  cases x with
  | none => exact lv_astore_nN C.1.1 C.1.2.1 d hi I.2.2.1.1 hn ((congrArg _ (h_filt I.2.2.1.2)).trans hl) (fun ls1 hl1 => k H locs ls1 ⟨I.1, I.2.1, ⟨hl1, h_c1_put I.2.2.1.2 rfl hl⟩, I.2.2.2⟩)
  | some a => exact lv_astore_n C.1.1 C.1.2.1 d hi I.2.2.1.1 hn ((congrArg _ (h_filt I.2.2.1.2)).trans hl) (fun ls1 hl1 => k H locs ls1 ⟨I.1, I.2.1, ⟨hl1, h_c1_put I.2.2.1.2 rfl hl⟩, I.2.2.2⟩)
theorem V_astore (C : h_C p m c cc nL s args own D dA) {i : Nat} {x : Option Nat} (d : decode cc pc = .ok (.astore i, 2)) (hn : i < nL) (hl : (i, va_rf x) :: lv.filter (fun q => !(q.1 == i)) = lv') (k : V p l e R s m args below meth c D dA bs nL Q σ (pc + 2) lv' rest) : V p l e R s m args below meth c D dA bs nL Q σ pc lv (va_rf x :: rest) := fun H locs ls I => by
  cases x with
  | none => exact lv_astoreN C.1.1 C.1.2.1 d I.2.2.1.1 hn ((congrArg _ (h_filt I.2.2.1.2)).trans hl) (fun ls1 hl1 => k H locs ls1 ⟨I.1, I.2.1, ⟨hl1, h_c1_put I.2.2.1.2 rfl hl⟩, I.2.2.2⟩)
  | some a => exact lv_astore C.1.1 C.1.2.1 d I.2.2.1.1 hn ((congrArg _ (h_filt I.2.2.1.2)).trans hl) (fun ls1 hl1 => k H locs ls1 ⟨I.1, I.2.1, ⟨hl1, h_c1_put I.2.2.1.2 rfl hl⟩, I.2.2.2⟩)
theorem V_iinc (C : h_C p m c cc nL s args own D dA) {i : Nat} {n : Int} {x v : Int32} (j : Nat) (d : decode cc pc = .ok (.iinc i n, 3)) (hj : lv[j]? = some (i, .int x)) (hv : x + Int32.ofInt n = v) (hn : i < nL) (hl : (i, Value.int v) :: lv.filter (fun q => !(q.1 == i)) = lv') (k : V p l e R s m args below meth c D dA bs nL Q σ (pc + 3) lv' rest) : V p l e R s m args below meth c D dA bs nL Q σ pc lv rest := fun H locs ls I => lv_iinc (k := j) C.1.1 C.1.2.1 d I.2.2.1.1 hj hv hn ((congrArg _ (h_filt I.2.2.1.2)).trans hl) (fun ls1 hl1 => k H locs ls1 ⟨I.1, I.2.1, ⟨hl1, h_c1_put I.2.2.1.2 rfl hl⟩, I.2.2.2⟩)
theorem V_iadd (C : h_C p m c cc nL s args own D dA) {x y : Int32} (d : decode cc pc = .ok (.iadd, 1))  (k : V p l e R s m args below meth c D dA bs nL Q σ (pc + 1) lv (.int (x + y) :: rest)) : V p l e R s m args below meth c D dA bs nL Q σ pc lv (.int y :: .int x :: rest) := fun H locs ls I => lv_iadd C.1.1 C.1.2.1 d (k H locs ls I)
theorem V_isub (C : h_C p m c cc nL s args own D dA) {x y : Int32} (d : decode cc pc = .ok (.isub, 1))  (k : V p l e R s m args below meth c D dA bs nL Q σ (pc + 1) lv (.int (x - y) :: rest)) : V p l e R s m args below meth c D dA bs nL Q σ pc lv (.int y :: .int x :: rest) := fun H locs ls I => lv_isub C.1.1 C.1.2.1 d (k H locs ls I)
theorem V_imul (C : h_C p m c cc nL s args own D dA) {x y : Int32} (d : decode cc pc = .ok (.imul, 1))  (k : V p l e R s m args below meth c D dA bs nL Q σ (pc + 1) lv (.int (x * y) :: rest)) : V p l e R s m args below meth c D dA bs nL Q σ pc lv (.int y :: .int x :: rest) := fun H locs ls I => lv_imul C.1.1 C.1.2.1 d (k H locs ls I)
theorem V_iand (C : h_C p m c cc nL s args own D dA) {x y : Int32} (d : decode cc pc = .ok (.iand, 1))  (k : V p l e R s m args below meth c D dA bs nL Q σ (pc + 1) lv (.int (x &&& y) :: rest)) : V p l e R s m args below meth c D dA bs nL Q σ pc lv (.int y :: .int x :: rest) := fun H locs ls I => lv_iand C.1.1 C.1.2.1 d (k H locs ls I)
theorem V_ior (C : h_C p m c cc nL s args own D dA) {x y : Int32} (d : decode cc pc = .ok (.ior, 1))  (k : V p l e R s m args below meth c D dA bs nL Q σ (pc + 1) lv (.int (x ||| y) :: rest)) : V p l e R s m args below meth c D dA bs nL Q σ pc lv (.int y :: .int x :: rest) := fun H locs ls I => lv_ior C.1.1 C.1.2.1 d (k H locs ls I)
theorem V_ixor (C : h_C p m c cc nL s args own D dA) {x y : Int32} (d : decode cc pc = .ok (.ixor, 1))  (k : V p l e R s m args below meth c D dA bs nL Q σ (pc + 1) lv (.int (x ^^^ y) :: rest)) : V p l e R s m args below meth c D dA bs nL Q σ pc lv (.int y :: .int x :: rest) := fun H locs ls I => lv_ixor C.1.1 C.1.2.1 d (k H locs ls I)
theorem V_idiv (C : h_C p m c cc nL s args own D dA) {x y : Int32} (d : decode cc pc = .ok (.idiv, 1)) (hne : ¬ y = 0) (k : V p l e R s m args below meth c D dA bs nL Q σ (pc + 1) lv (.int (x / y) :: rest)) : V p l e R s m args below meth c D dA bs nL Q σ pc lv (.int y :: .int x :: rest) := fun H locs ls I => lv_idiv C.1.1 C.1.2.1 d hne (k H locs ls I)
theorem V_irem (C : h_C p m c cc nL s args own D dA) {x y : Int32} (d : decode cc pc = .ok (.irem, 1)) (hne : ¬ y = 0) (k : V p l e R s m args below meth c D dA bs nL Q σ (pc + 1) lv (.int (x - x / y * y) :: rest)) : V p l e R s m args below meth c D dA bs nL Q σ pc lv (.int y :: .int x :: rest) := fun H locs ls I => lv_irem C.1.1 C.1.2.1 d hne (k H locs ls I)
theorem V_ineg (C : h_C p m c cc nL s args own D dA) {x : Int32} (d : decode cc pc = .ok (.ineg, 1))  (k : V p l e R s m args below meth c D dA bs nL Q σ (pc + 1) lv (.int (-x) :: rest)) : V p l e R s m args below meth c D dA bs nL Q σ pc lv (.int x :: rest) := fun H locs ls I => lv_ineg C.1.1 C.1.2.1 d (k H locs ls I)
theorem V_ishl (C : h_C p m c cc nL s args own D dA) {x y : Int32} (d : decode cc pc = .ok (.ishl, 1))  (k : V p l e R s m args below meth c D dA bs nL Q σ (pc + 1) lv (.int (x <<< (y &&& 31)) :: rest)) : V p l e R s m args below meth c D dA bs nL Q σ pc lv (.int y :: .int x :: rest) := fun H locs ls I => lv_ishl C.1.1 C.1.2.1 d (k H locs ls I)
theorem V_ishr (C : h_C p m c cc nL s args own D dA) {x y : Int32} (d : decode cc pc = .ok (.ishr, 1))  (k : V p l e R s m args below meth c D dA bs nL Q σ (pc + 1) lv (.int (x >>> (y &&& 31)) :: rest)) : V p l e R s m args below meth c D dA bs nL Q σ pc lv (.int y :: .int x :: rest) := fun H locs ls I => lv_ishr C.1.1 C.1.2.1 d (k H locs ls I)
theorem V_iushr (C : h_C p m c cc nL s args own D dA) {x y : Int32} (d : decode cc pc = .ok (.iushr, 1))  (k : V p l e R s m args below meth c D dA bs nL Q σ (pc + 1) lv (.int (h_ushr x y) :: rest)) : V p l e R s m args below meth c D dA bs nL Q σ pc lv (.int y :: .int x :: rest) := fun H locs ls I => lv_iushr C.1.1 C.1.2.1 d rfl (k H locs ls I)
theorem V_i2l (C : h_C p m c cc nL s args own D dA) {x : Int32} (d : decode cc pc = .ok (.i2l, 1))  (k : V p l e R s m args below meth c D dA bs nL Q σ (pc + 1) lv (.long x.toInt64 :: rest)) : V p l e R s m args below meth c D dA bs nL Q σ pc lv (.int x :: rest) := fun H locs ls I => lv_i2l C.1.1 C.1.2.1 d rfl (k H locs ls I)
theorem V_l2i (C : h_C p m c cc nL s args own D dA) {x : Int64} (d : decode cc pc = .ok (.l2i, 1))  (k : V p l e R s m args below meth c D dA bs nL Q σ (pc + 1) lv (.int x.toInt32 :: rest)) : V p l e R s m args below meth c D dA bs nL Q σ pc lv (.long x :: rest) := fun H locs ls I => lv_l2i C.1.1 C.1.2.1 d rfl (k H locs ls I)
theorem V_ladd (C : h_C p m c cc nL s args own D dA) {x y : Int64} (d : decode cc pc = .ok (.ladd, 1))  (k : V p l e R s m args below meth c D dA bs nL Q σ (pc + 1) lv (.long (x + y) :: rest)) : V p l e R s m args below meth c D dA bs nL Q σ pc lv (.long y :: .long x :: rest) := fun H locs ls I => lv_ladd C.1.1 C.1.2.1 d (k H locs ls I)
theorem V_lsub (C : h_C p m c cc nL s args own D dA) {x y : Int64} (d : decode cc pc = .ok (.lsub, 1))  (k : V p l e R s m args below meth c D dA bs nL Q σ (pc + 1) lv (.long (x - y) :: rest)) : V p l e R s m args below meth c D dA bs nL Q σ pc lv (.long y :: .long x :: rest) := fun H locs ls I => lv_lsub C.1.1 C.1.2.1 d (k H locs ls I)
theorem V_lmul (C : h_C p m c cc nL s args own D dA) {x y : Int64} (d : decode cc pc = .ok (.lmul, 1))  (k : V p l e R s m args below meth c D dA bs nL Q σ (pc + 1) lv (.long (x * y) :: rest)) : V p l e R s m args below meth c D dA bs nL Q σ pc lv (.long y :: .long x :: rest) := fun H locs ls I => lv_lmul C.1.1 C.1.2.1 d (k H locs ls I)
theorem V_lcmp (C : h_C p m c cc nL s args own D dA) {x y : Int64} (d : decode cc pc = .ok (.lcmp, 1))  (k : V p l e R s m args below meth c D dA bs nL Q σ (pc + 1) lv (.int (lg_cmp x y) :: rest)) : V p l e R s m args below meth c D dA bs nL Q σ pc lv (.long y :: .long x :: rest) := fun H locs ls I => W.lcmp C.1.1 C.1.2.1 d (k H locs ls I)
theorem V_dupI (C : h_C p m c cc nL s args own D dA) {x : Int32} (d : decode cc pc = .ok (.dup, 1))  (k : V p l e R s m args below meth c D dA bs nL Q σ (pc + 1) lv (.int x :: .int x :: rest)) : V p l e R s m args below meth c D dA bs nL Q σ pc lv (.int x :: rest) := fun H locs ls I => lv_dup C.1.1 C.1.2.1 d rfl (k H locs ls I)
theorem V_dupR (C : h_C p m c cc nL s args own D dA) {x : Option Nat} (d : decode cc pc = .ok (.dup, 1))  (k : V p l e R s m args below meth c D dA bs nL Q σ (pc + 1) lv (va_rf x :: va_rf x :: rest)) : V p l e R s m args below meth c D dA bs nL Q σ pc lv (va_rf x :: rest) := fun H locs ls I => lv_dup C.1.1 C.1.2.1 d (h_rf_cat x) (k H locs ls I)
theorem V_popI (C : h_C p m c cc nL s args own D dA) {x : Int32} (d : decode cc pc = .ok (.pop, 1))  (k : V p l e R s m args below meth c D dA bs nL Q σ (pc + 1) lv (rest)) : V p l e R s m args below meth c D dA bs nL Q σ pc lv (.int x :: rest) := fun H locs ls I => lv_pop C.1.1 C.1.2.1 d rfl (k H locs ls I)
theorem V_popR (C : h_C p m c cc nL s args own D dA) {x : Option Nat} (d : decode cc pc = .ok (.pop, 1))  (k : V p l e R s m args below meth c D dA bs nL Q σ (pc + 1) lv (rest)) : V p l e R s m args below meth c D dA bs nL Q σ pc lv (va_rf x :: rest) := fun H locs ls I => lv_pop C.1.1 C.1.2.1 d (h_rf_cat x) (k H locs ls I)
theorem V_dup2IR (C : h_C p m c cc nL s args own D dA) {x : Int32} {r : Option Nat} (d : decode cc pc = .ok (.dup2, 1))  (k : V p l e R s m args below meth c D dA bs nL Q σ (pc + 1) lv (.int x :: va_rf r :: .int x :: va_rf r :: rest)) : V p l e R s m args below meth c D dA bs nL Q σ pc lv (.int x :: va_rf r :: rest) := fun H locs ls I => lv_dup2_11 C.1.1 C.1.2.1 d rfl (h_rf_cat r) (k H locs ls I)
theorem V_dupx1IR (C : h_C p m c cc nL s args own D dA) {x : Int32} {r : Option Nat} (d : decode cc pc = .ok (.dup_x1, 1))  (k : V p l e R s m args below meth c D dA bs nL Q σ (pc + 1) lv (.int x :: va_rf r :: .int x :: rest)) : V p l e R s m args below meth c D dA bs nL Q σ pc lv (.int x :: va_rf r :: rest) := fun H locs ls I => lv_dup_x1 C.1.1 C.1.2.1 d rfl (h_rf_cat r) (k H locs ls I)
theorem V_ldc (C : h_C p m c cc nL s args own D dA) {idx : Nat} {v : Int32} (d : decode cc pc = .ok (.ldc idx, 2)) (hw : Cond.constant own idx v ∈ h_ws) (k : V p l e R s m args below meth c D dA bs nL Q σ (pc + 2) lv (.int v :: rest)) : V p l e R s m args below meth c D dA bs nL Q σ pc lv (rest) := fun H locs ls I => lv_ldc C.1.1 C.1.2.1 C.1.2.2.2.1 (C.1.2.2.2.2 _ hw) d (k H locs ls I)
theorem V_ldcw (C : h_C p m c cc nL s args own D dA) {idx : Nat} {v : Int32} (d : decode cc pc = .ok (.ldc_w idx, 3)) (hw : Cond.constant own idx v ∈ h_ws) (k : V p l e R s m args below meth c D dA bs nL Q σ (pc + 3) lv (.int v :: rest)) : V p l e R s m args below meth c D dA bs nL Q σ pc lv (rest) := fun H locs ls I => lv_ldcw C.1.1 C.1.2.1 C.1.2.2.2.1 (C.1.2.2.2.2 _ hw) d (k H locs ls I)
theorem V_ldc2 (C : h_C p m c cc nL s args own D dA) {idx : Nat} {v : Int64} (d : decode cc pc = .ok (.ldc2_w idx, 3)) (hw : Cond.constantLong own idx v ∈ h_ws) (k : V p l e R s m args below meth c D dA bs nL Q σ (pc + 3) lv (.long v :: rest)) : V p l e R s m args below meth c D dA bs nL Q σ pc lv (rest) := fun H locs ls I => lv_ldc2 C.1.1 C.1.2.1 C.1.2.2.2.1 (C.1.2.2.2.2 _ hw) d (k H locs ls I)
theorem V_if_eq (C : h_C p m c cc nL s args own D dA) {x : Int32} {off : Int} {tgt : Nat} (d : decode cc pc = .ok (.ifCond .eq off, 3)) (ht : (pc : Int) + off = (tgt : Int)) (kt : x = 0 → V p l e R s m args below meth c D dA bs nL Q σ tgt lv rest) (kf : ¬ x = 0 → V p l e R s m args below meth c D dA bs nL Q σ (pc + 3) lv rest) : V p l e R s m args below meth c D dA bs nL Q σ pc lv (.int x :: rest) := fun H locs ls I => lv_if_eq C.1.1 C.1.2.1 d ht (fun h => kt h H locs ls I) (fun h => kf h H locs ls I)
theorem V_if_ne (C : h_C p m c cc nL s args own D dA) {x : Int32} {off : Int} {tgt : Nat} (d : decode cc pc = .ok (.ifCond .ne off, 3)) (ht : (pc : Int) + off = (tgt : Int)) (kt : ¬ x = 0 → V p l e R s m args below meth c D dA bs nL Q σ tgt lv rest) (kf : x = 0 → V p l e R s m args below meth c D dA bs nL Q σ (pc + 3) lv rest) : V p l e R s m args below meth c D dA bs nL Q σ pc lv (.int x :: rest) := fun H locs ls I => lv_if_ne C.1.1 C.1.2.1 d ht (fun h => kt h H locs ls I) (fun h => kf h H locs ls I)
theorem V_if_lt (C : h_C p m c cc nL s args own D dA) {x : Int32} {off : Int} {tgt : Nat} (d : decode cc pc = .ok (.ifCond .lt off, 3)) (ht : (pc : Int) + off = (tgt : Int)) (kt : x < 0 → V p l e R s m args below meth c D dA bs nL Q σ tgt lv rest) (kf : ¬ x < 0 → V p l e R s m args below meth c D dA bs nL Q σ (pc + 3) lv rest) : V p l e R s m args below meth c D dA bs nL Q σ pc lv (.int x :: rest) := fun H locs ls I => lv_if_lt C.1.1 C.1.2.1 d ht (fun h => kt h H locs ls I) (fun h => kf h H locs ls I)
theorem V_if_ge (C : h_C p m c cc nL s args own D dA) {x : Int32} {off : Int} {tgt : Nat} (d : decode cc pc = .ok (.ifCond .ge off, 3)) (ht : (pc : Int) + off = (tgt : Int)) (kt : 0 ≤ x → V p l e R s m args below meth c D dA bs nL Q σ tgt lv rest) (kf : ¬ 0 ≤ x → V p l e R s m args below meth c D dA bs nL Q σ (pc + 3) lv rest) : V p l e R s m args below meth c D dA bs nL Q σ pc lv (.int x :: rest) := fun H locs ls I => lv_if_ge C.1.1 C.1.2.1 d ht (fun h => kt h H locs ls I) (fun h => kf h H locs ls I)
theorem V_if_gt (C : h_C p m c cc nL s args own D dA) {x : Int32} {off : Int} {tgt : Nat} (d : decode cc pc = .ok (.ifCond .gt off, 3)) (ht : (pc : Int) + off = (tgt : Int)) (kt : 0 < x → V p l e R s m args below meth c D dA bs nL Q σ tgt lv rest) (kf : ¬ 0 < x → V p l e R s m args below meth c D dA bs nL Q σ (pc + 3) lv rest) : V p l e R s m args below meth c D dA bs nL Q σ pc lv (.int x :: rest) := fun H locs ls I => lv_if_gt C.1.1 C.1.2.1 d ht (fun h => kt h H locs ls I) (fun h => kf h H locs ls I)
theorem V_if_le (C : h_C p m c cc nL s args own D dA) {x : Int32} {off : Int} {tgt : Nat} (d : decode cc pc = .ok (.ifCond .le off, 3)) (ht : (pc : Int) + off = (tgt : Int)) (kt : x ≤ 0 → V p l e R s m args below meth c D dA bs nL Q σ tgt lv rest) (kf : ¬ x ≤ 0 → V p l e R s m args below meth c D dA bs nL Q σ (pc + 3) lv rest) : V p l e R s m args below meth c D dA bs nL Q σ pc lv (.int x :: rest) := fun H locs ls I => lv_if_le C.1.1 C.1.2.1 d ht (fun h => kt h H locs ls I) (fun h => kf h H locs ls I)
theorem V_icmp_eq (C : h_C p m c cc nL s args own D dA) {x y : Int32} {off : Int} {tgt : Nat} (d : decode cc pc = .ok (.if_icmp .eq off, 3)) (ht : (pc : Int) + off = (tgt : Int)) (kt : x = y → V p l e R s m args below meth c D dA bs nL Q σ tgt lv rest) (kf : ¬ x = y → V p l e R s m args below meth c D dA bs nL Q σ (pc + 3) lv rest) : V p l e R s m args below meth c D dA bs nL Q σ pc lv (.int y :: .int x :: rest) := fun H locs ls I => lv_icmp_eq C.1.1 C.1.2.1 d ht (fun h => kt h H locs ls I) (fun h => kf h H locs ls I)
theorem V_icmp_ne (C : h_C p m c cc nL s args own D dA) {x y : Int32} {off : Int} {tgt : Nat} (d : decode cc pc = .ok (.if_icmp .ne off, 3)) (ht : (pc : Int) + off = (tgt : Int)) (kt : ¬ x = y → V p l e R s m args below meth c D dA bs nL Q σ tgt lv rest) (kf : x = y → V p l e R s m args below meth c D dA bs nL Q σ (pc + 3) lv rest) : V p l e R s m args below meth c D dA bs nL Q σ pc lv (.int y :: .int x :: rest) := fun H locs ls I => lv_icmp_ne C.1.1 C.1.2.1 d ht (fun h => kt h H locs ls I) (fun h => kf h H locs ls I)
theorem V_icmp_lt (C : h_C p m c cc nL s args own D dA) {x y : Int32} {off : Int} {tgt : Nat} (d : decode cc pc = .ok (.if_icmp .lt off, 3)) (ht : (pc : Int) + off = (tgt : Int)) (kt : x < y → V p l e R s m args below meth c D dA bs nL Q σ tgt lv rest) (kf : ¬ x < y → V p l e R s m args below meth c D dA bs nL Q σ (pc + 3) lv rest) : V p l e R s m args below meth c D dA bs nL Q σ pc lv (.int y :: .int x :: rest) := fun H locs ls I => lv_icmp_lt C.1.1 C.1.2.1 d ht (fun h => kt h H locs ls I) (fun h => kf h H locs ls I)
theorem V_icmp_ge (C : h_C p m c cc nL s args own D dA) {x y : Int32} {off : Int} {tgt : Nat} (d : decode cc pc = .ok (.if_icmp .ge off, 3)) (ht : (pc : Int) + off = (tgt : Int)) (kt : y ≤ x → V p l e R s m args below meth c D dA bs nL Q σ tgt lv rest) (kf : ¬ y ≤ x → V p l e R s m args below meth c D dA bs nL Q σ (pc + 3) lv rest) : V p l e R s m args below meth c D dA bs nL Q σ pc lv (.int y :: .int x :: rest) := fun H locs ls I => lv_icmp_ge C.1.1 C.1.2.1 d ht (fun h => kt h H locs ls I) (fun h => kf h H locs ls I)
theorem V_icmp_gt (C : h_C p m c cc nL s args own D dA) {x y : Int32} {off : Int} {tgt : Nat} (d : decode cc pc = .ok (.if_icmp .gt off, 3)) (ht : (pc : Int) + off = (tgt : Int)) (kt : y < x → V p l e R s m args below meth c D dA bs nL Q σ tgt lv rest) (kf : ¬ y < x → V p l e R s m args below meth c D dA bs nL Q σ (pc + 3) lv rest) : V p l e R s m args below meth c D dA bs nL Q σ pc lv (.int y :: .int x :: rest) := fun H locs ls I => lv_icmp_gt C.1.1 C.1.2.1 d ht (fun h => kt h H locs ls I) (fun h => kf h H locs ls I)
theorem V_icmp_le (C : h_C p m c cc nL s args own D dA) {x y : Int32} {off : Int} {tgt : Nat} (d : decode cc pc = .ok (.if_icmp .le off, 3)) (ht : (pc : Int) + off = (tgt : Int)) (kt : x ≤ y → V p l e R s m args below meth c D dA bs nL Q σ tgt lv rest) (kf : ¬ x ≤ y → V p l e R s m args below meth c D dA bs nL Q σ (pc + 3) lv rest) : V p l e R s m args below meth c D dA bs nL Q σ pc lv (.int y :: .int x :: rest) := fun H locs ls I => lv_icmp_le C.1.1 C.1.2.1 d ht (fun h => kt h H locs ls I) (fun h => kf h H locs ls I)
theorem V_acmp_eq (C : h_C p m c cc nL s args own D dA) {x y : Option Nat} {off : Int} {tgt : Nat} (d : decode cc pc = .ok (.if_acmp .eq off, 3)) (ht : (pc : Int) + off = (tgt : Int)) (kt : x = y → V p l e R s m args below meth c D dA bs nL Q σ tgt lv rest) (kf : ¬ x = y → V p l e R s m args below meth c D dA bs nL Q σ (pc + 3) lv rest) : V p l e R s m args below meth c D dA bs nL Q σ pc lv (va_rf y :: va_rf x :: rest) := fun H locs ls I => lv_acmp_eq C.1.1 C.1.2.1 d ht (fun h => kt h H locs ls I) (fun h => kf h H locs ls I)
theorem V_acmp_ne (C : h_C p m c cc nL s args own D dA) {x y : Option Nat} {off : Int} {tgt : Nat} (d : decode cc pc = .ok (.if_acmp .ne off, 3)) (ht : (pc : Int) + off = (tgt : Int)) (kt : ¬ x = y → V p l e R s m args below meth c D dA bs nL Q σ tgt lv rest) (kf : x = y → V p l e R s m args below meth c D dA bs nL Q σ (pc + 3) lv rest) : V p l e R s m args below meth c D dA bs nL Q σ pc lv (va_rf y :: va_rf x :: rest) := fun H locs ls I => lv_acmp_ne C.1.1 C.1.2.1 d ht (fun h => kt h H locs ls I) (fun h => kf h H locs ls I)
theorem V_ifnull (C : h_C p m c cc nL s args own D dA) {x : Option Nat} {off : Int} {tgt : Nat} (d : decode cc pc = .ok (.ifnull off, 3)) (ht : (pc : Int) + off = (tgt : Int)) (kt : x = none → V p l e R s m args below meth c D dA bs nL Q σ tgt lv rest) (kf : ¬ x = none → V p l e R s m args below meth c D dA bs nL Q σ (pc + 3) lv rest) : V p l e R s m args below meth c D dA bs nL Q σ pc lv (va_rf x :: rest) := fun H locs ls I => by
  cases x with
  | none => exact lv_ifnullN C.1.1 C.1.2.1 d ht (kt rfl H locs ls I)
  | some a => exact lv_ifnull C.1.1 C.1.2.1 d (kf (fun h => by cases h) H locs ls I)
theorem V_ifnonnull (C : h_C p m c cc nL s args own D dA) {x : Option Nat} {off : Int} {tgt : Nat} (d : decode cc pc = .ok (.ifnonnull off, 3)) (ht : (pc : Int) + off = (tgt : Int)) (kt : ¬ x = none → V p l e R s m args below meth c D dA bs nL Q σ tgt lv rest) (kf : x = none → V p l e R s m args below meth c D dA bs nL Q σ (pc + 3) lv rest) : V p l e R s m args below meth c D dA bs nL Q σ pc lv (va_rf x :: rest) := fun H locs ls I => by
  cases x with
  | none => exact lv_ifnonnullN C.1.1 C.1.2.1 d (kf rfl H locs ls I)
  | some a => exact lv_ifnonnull C.1.1 C.1.2.1 d ht (kt (fun h => by cases h) H locs ls I)
theorem V_goto (C : h_C p m c cc nL s args own D dA) {off : Int} {tgt : Nat} (d : decode cc pc = .ok (.goto off, 3)) (ht : (pc : Int) + off = (tgt : Int)) (k : V p l e R s m args below meth c D dA bs nL Q σ tgt lv rest) : V p l e R s m args below meth c D dA bs nL Q σ pc lv rest := fun H locs ls I => lv_goto C.1.1 C.1.2.1 d ht (k H locs ls I)
theorem V_lookup (C : h_C p m c cc nL s args own D dA) {dflt : Int} {ps : Array (Int × Int)} {len : Nat} {x : Int32} {off : Int} {tgt : Nat} (d : decode cc pc = .ok (.lookupswitch dflt ps, len)) (hp : (ps.toList.zip (ps.toList.drop 1)).all (fun (a, next) => a.1 < next.1) = true) (ho : Op.lookupswitch.offset ps.toList dflt x.toInt = off) (ht : (pc : Int) + off = (tgt : Int)) (k : V p l e R s m args below meth c D dA bs nL Q σ tgt lv rest) : V p l e R s m args below meth c D dA bs nL Q σ pc lv (.int x :: rest) := fun H locs ls I => lv_lookup C.1.1 C.1.2.1 d hp ho ht (k H locs ls I)
theorem V_tabOut (C : h_C p m c cc nL s args own D dA) {dflt lo hi : Int} {offs : Array Int} {len : Nat} {x : Int32} {tgt : Nat} (d : decode cc pc = .ok (.tableswitch dflt lo hi offs, len)) (h : x.toInt < lo ∨ hi < x.toInt) (ht : (pc : Int) + dflt = (tgt : Int)) (k : V p l e R s m args below meth c D dA bs nL Q σ tgt lv rest) : V p l e R s m args below meth c D dA bs nL Q σ pc lv (.int x :: rest) := fun H locs ls I => lv_tableOut C.1.1 C.1.2.1 d h ht (k H locs ls I)
theorem V_tabIn (C : h_C p m c cc nL s args own D dA) {dflt lo hi : Int} {offs : Array Int} {len : Nat} {x : Int32} {off : Int} {tgt : Nat} (d : decode cc pc = .ok (.tableswitch dflt lo hi offs, len)) (h1 : ¬ x.toInt < lo) (h2 : ¬ hi < x.toInt) (ho : offs[(x.toInt - lo).toNat]? = some off) (ht : (pc : Int) + off = (tgt : Int)) (k : V p l e R s m args below meth c D dA bs nL Q σ tgt lv rest) : V p l e R s m args below meth c D dA bs nL Q σ pc lv (.int x :: rest) := fun H locs ls I => lv_tableIn C.1.1 C.1.2.1 d h1 h2 ho ht (k H locs ls I)
/-- other names for the same locals -/
theorem V_sub (ks : List Nat) (hl : lv_pick lv ks = lv') (k : V p l e R s m args below meth c D dA bs nL Q σ pc lv' rest) : V p l e R s m args below meth c D dA bs nL Q σ pc lv rest := fun H locs ls I => k H locs ls ⟨I.1, I.2.1, ⟨lv_sub I.2.2.1.1 ks hl, fun q hq => by
    rw [← hl] at hq
    obtain ⟨i, -, hi⟩ := List.mem_filterMap.mp hq
    exact I.2.2.1.2 q (List.mem_of_getElem? hi)⟩, I.2.2.2⟩
theorem h_rd {α : Type} {r : Option Nat} {t : Nat} {f : Nat → α} {x : α} (h : (r.bind fun a => if h_tg σ a = t then some (f a) else none) = some x) : ∃ a, r = some a ∧ h_tg σ a = t ∧ x = f a := by
  cases r with
  | none => cases h
  | some a =>
    have h' : (if h_tg σ a = t then some (f a) else none) = some x := h
    by_cases ht : h_tg σ a = t
    · rw [if_pos ht] at h'
      exact ⟨a, rfl, ht, (Option.some.inj h').symm⟩
    · rw [if_neg ht] at h'
      cases h'
theorem h_rdA {α : Type} {r : Option Nat} {t : Nat} {i : Int32} {f : Nat → α} {x : α} (h : (r.bind fun a => if h_ok σ a t i = true then some (f a) else none) = some x) : ∃ a, r = some a ∧ h_tg σ a = t ∧ vp_in i (h_ln σ a) ∧ x = f a := by
  cases r with
  | none => cases h
  | some a =>
    have h' : (if h_ok σ a t i = true then some (f a) else none) = some x := h
    by_cases ht : h_ok σ a t i = true
    · rw [if_pos ht] at h'
      simp only [h_ok, Bool.and_eq_true, Bool.not_eq_true', Bool.or_eq_false_iff, decide_eq_true_eq, decide_eq_false_iff_not] at ht
      exact ⟨a, rfl, ht.1, fun z => z.elim ht.2.1 ht.2.2, (Option.some.inj h').symm⟩
    · rw [if_neg ht] at h'
      cases h'
/-- a field of an object that σ knows -/
theorem h_ob {H : Heap} {a t : Nat} {Cn : String} {T : u_T} {N : Nat} (hg : hG D dA bs σ H) (hc : h_CL t Cn T N) (ht : h_tg σ a = t) : va_P D classes [(a, .inr (t - 1, (List.range N).map (fun k => h_val (h_kd t k) σ a k)))] H := by
  intro k q hq
  have hk : k = 0 := by
    have := (List.getElem?_eq_some_iff.mp hq).1
    simp at this
    exact this
  subst hk
  cases hq
  obtain ⟨h0, h1, h2, -⟩ := hc
  obtain ⟨r, r1, r2⟩ := (hg.2.2.2.2.2 a (by omega)).1 (by omega)
  rw [ht] at r1 r2
  have hr : r = (Cn, T, N) := Option.some.inj (r1.symm.trans h2)
  subst hr
  refine ⟨_, h2, r2.to (fun k hk => ?_)⟩
  simp [vp_V, hk]
theorem V_getI (C : h_C p m c cc nL s args own D dA) {idx t k0 : Nat} (fl : h_FL own idx t k0 0) (d : decode cc pc = .ok (.getfield idx, 3)) {r : Option Nat} {x : Int32} (e0 : h_gI σ r t k0 = some x) (k : V p l e R s m args below meth c D dA bs nL Q σ (pc + 3) lv (.int x :: rest)) : V p l e R s m args below meth c D dA bs nL Q σ pc lv (va_rf r :: rest) := fun H locs ls I => by
  obtain ⟨a, rfl, ht, rfl⟩ := h_rd e0
  obtain ⟨Cn, T, N, hc, hk, hkd, hw⟩ := fl
  refine va_get (D := D) (ci := t - 1) (v := h_val (h_kd t k0) σ a k0) (C := Cn) (T := T) (N := N) C.1.1 C.1.2.1 C.1.2.2.2.2 hc.2.2.2.1 C.1.2.2.2.1 C.2.1 (h_ob I.1 hc ht) 0 rfl hc.2.2.1 k0 hk (C.1.2.2.2.2 _ hw) (fun _ h9 => h9) (by simp [hk]) d ?_
  rw [hkd]
  exact k H locs ls I
theorem V_getR (C : h_C p m c cc nL s args own D dA) {idx t k0 : Nat} (fl : h_FL own idx t k0 1) (d : decode cc pc = .ok (.getfield idx, 3)) {r : Option Nat} {x : Option Nat} (e0 : h_gR σ r t k0 = some x) (k : V p l e R s m args below meth c D dA bs nL Q σ (pc + 3) lv (va_rf x :: rest)) : V p l e R s m args below meth c D dA bs nL Q σ pc lv (va_rf r :: rest) := fun H locs ls I => by
  obtain ⟨a, rfl, ht, rfl⟩ := h_rd e0
  obtain ⟨Cn, T, N, hc, hk, hkd, hw⟩ := fl
  refine va_get (D := D) (ci := t - 1) (v := h_val (h_kd t k0) σ a k0) (C := Cn) (T := T) (N := N) C.1.1 C.1.2.1 C.1.2.2.2.2 hc.2.2.2.1 C.1.2.2.2.1 C.2.1 (h_ob I.1 hc ht) 0 rfl hc.2.2.1 k0 hk (C.1.2.2.2.2 _ hw) (fun _ h9 => h9) (by simp [hk]) d ?_
  rw [hkd]
  exact k H locs ls I
theorem V_getL (C : h_C p m c cc nL s args own D dA) {idx t k0 : Nat} (fl : h_FL own idx t k0 2) (d : decode cc pc = .ok (.getfield idx, 3)) {r : Option Nat} {x : Int64} (e0 : h_gL σ r t k0 = some x) (k : V p l e R s m args below meth c D dA bs nL Q σ (pc + 3) lv (.long x :: rest)) : V p l e R s m args below meth c D dA bs nL Q σ pc lv (va_rf r :: rest) := fun H locs ls I => by
  obtain ⟨a, rfl, ht, rfl⟩ := h_rd e0
  obtain ⟨Cn, T, N, hc, hk, hkd, hw⟩ := fl
  refine va_get (D := D) (ci := t - 1) (v := h_val (h_kd t k0) σ a k0) (C := Cn) (T := T) (N := N) C.1.1 C.1.2.1 C.1.2.2.2.2 hc.2.2.2.1 C.1.2.2.2.1 C.2.1 (h_ob I.1 hc ht) 0 rfl hc.2.2.1 k0 hk (C.1.2.2.2.2 _ hw) (fun _ h9 => h9) (by simp [hk]) d ?_
  rw [hkd]
  exact k H locs ls I
end HR
end
/-! from 06a.writes -/
section
/-! ROWS OF THE WALK: what writes, what makes -/
section HP0
variable {p : Program} {l : Launch} {e : Env} {R : Room} {s : State} {m : MethodId} {args : Array Value} {below : List Frame} {meth : Method} {c : Code} {D : va_G} {dA : Nat → ClassId} {bs nL : Nat} {Q : State → Prop} {cc : ByteArray} {own : String} {σ : HS} {pc : Nat} {lv : List (Nat × Value)} {rest : List Value}
/-- σ' is σ with the value v in the field k of a -/
def h_put (σ σ' : HS) (a t k : Nat) (v : Value) : Prop := h_tg σ' = h_tg σ ∧ h_ln σ' = h_ln σ ∧ h_sz σ' = h_sz σ ∧ h_sl σ' = h_sl σ ∧ h_cz σ' = h_cz σ ∧ h_ck σ' = h_ck σ ∧
  (∀ b, b ≠ a → ∀ kd j, h_val kd σ' b j = h_val kd σ b j) ∧ (∀ j, j ≠ k → ∀ kd, h_val kd σ' a j = h_val kd σ a j) ∧ (t < 100 → h_val (h_kd t k) σ' a k = v) ∧ (100 ≤ t → h_val (h_ak t) σ' a k = v)
theorem h_putI {a t k : Nat} {v : Int32} (h1 : t < 100 → h_kd t k = 0) (h2 : 100 ≤ t → h_ak t = 0) : h_put σ (h_setI σ a k v) a t k (.int v) := by
  refine ⟨rfl, rfl, rfl, rfl, rfl, rfl, fun b hb kd j => ?_, fun j hj kd => ?_, fun h => ?_, fun h => ?_⟩
  · simp [h_val, h_setI, h_iv, h_rv, h_lv, h_up2, hb]
  · simp [h_val, h_setI, h_iv, h_rv, h_lv, h_up2, hj]
  · rw [h1 h]; simp [h_val, h_setI, h_iv, h_up2]
  · rw [h2 h]; simp [h_val, h_setI, h_iv, h_up2]
theorem h_putR {a t k : Nat} {v : Option Nat} (h1 : t < 100 → h_kd t k = 1) (h2 : 100 ≤ t → h_ak t = 1) : h_put σ (h_setR σ a k v) a t k (va_rf v) := by
  refine ⟨rfl, rfl, rfl, rfl, rfl, rfl, fun b hb kd j => ?_, fun j hj kd => ?_, fun h => ?_, fun h => ?_⟩
  · simp [h_val, h_setR, h_iv, h_rv, h_lv, h_up2, hb]
  · simp [h_val, h_setR, h_iv, h_rv, h_lv, h_up2, hj]
  · rw [h1 h]; simp [h_val, h_setR, h_rv, h_up2]
  · rw [h2 h]; simp [h_val, h_setR, h_rv, h_up2]
theorem h_putL {a t k : Nat} {v : Int64} (h1 : t < 100 → h_kd t k = 2) (h2 : 100 ≤ t → h_ak t = 2) : h_put σ (h_setL σ a k v) a t k (.long v) := by
  refine ⟨rfl, rfl, rfl, rfl, rfl, rfl, fun b hb kd j => ?_, fun j hj kd => ?_, fun h => ?_, fun h => ?_⟩
  · simp [h_val, h_setL, h_iv, h_rv, h_lv, h_up2, hb]
  · simp [h_val, h_setL, h_iv, h_rv, h_lv, h_up2, hj]
  · rw [h1 h]; simp [h_val, h_setL, h_lv, h_up2]
  · rw [h2 h]; simp [h_val, h_setL, h_lv, h_up2]
theorem h_I_put {σ' : HS} {H H1 : Heap} {locs : List Loc} {ls : Array Slot} {a t k i : Nat} {v : Value} {c0 c1 : Cell} (I : h_I R s D dA bs nL σ lv H locs ls) (hp : h_put σ σ' a t k v) (h0 : h_tg σ a ≠ 0) (e0 : H[a]? = some c0) (e1 : H1[a]? = some c1) (es : c1.slots.size = c0.slots.size) (z1 : H1.size = H.size) (o1 : ∀ q, q ≠ a → H1[q]? = H[q]?) (ha : h_at D dA σ' a H1) : h_I R s D dA bs nL σ' lv H1 (locs ++ [⟨a, i⟩]) ls := by
  obtain ⟨q1, q2, q3, q4, q5, q6, q7, -⟩ := hp
  exact ⟨hG_set I.1 q1 q2 q3 q4 q5 q6 q7 e0 e1 es z1 o1 ha, I.2.1.put z1 o1 (I.1.2.2.2.2.1 a h0), I.2.2.1, by rw [q5]; exact I.2.2.2.1, by rw [q6]; exact I.2.2.2.2.1, I.2.2.2.2.2⟩
theorem h_putO (C : h_C p m c cc nL s args own D dA) {idx t k : Nat} {σ' : HS} {kd : Nat} (fl : h_FW own idx t k kd ∨ (h_FF own idx t k kd ∧ meth.name = "<init>")) (d : decode cc pc = .ok (.putfield idx, 3)) {a : Nat} {v : Value} (ht : h_tg σ a = t) (hp : h_put σ σ' a t k v)
    (hty : ∀ ty : FieldType, (kd = 0 ∧ ty = .int) ∨ (kd = 2 ∧ ty = .long) ∨ (kd = 1 ∧ ty.isReference = true) → narrow ty v = v ∧ fits ty v = true)
    (kk : V p l e R s m args below meth c D dA bs nL Q σ' (pc + 3) lv rest) : V p l e R s m args below meth c D dA bs nL Q σ pc lv (v :: .ref a :: rest) := fun H locs ls I => by
  have hfl : ∃ (Cn : String) (T : u_T) (N : Nat), h_CL t Cn T N ∧ k < N ∧ h_kd t k = kd ∧ Cond.fieldLink own idx (T k).1 (T k).2.1 (T k).2.2.1 ∈ h_ws ∧ ((T k).2.2.2 = false ∨ ((T k).2.2.2 = true ∧ (T k).1 = own ∧ meth.name = "<init>")) := by
    rcases fl with ⟨Cn, T, N, h1, h2, h3, h4, h5⟩ | ⟨⟨Cn, T, N, h1, h2, h3, h4, h5, h6⟩, h7⟩
    · exact ⟨Cn, T, N, h1, h2, h3, h4, Or.inl h5⟩
    · exact ⟨Cn, T, N, h1, h2, h3, h4, Or.inr ⟨h5, h6, h7⟩⟩
  obtain ⟨Cn, T, N, hc, hk, hkd, hw, hfin⟩ := hfl
  obtain ⟨t0, t1, hcl, hin, hins, hini, ty0, hty0, hnm, hkt⟩ := id hc
  have hts := C.1.2.2.2.2
  have hap := va_apart (own := own) hts hin ty0 hty0 hnm C.2.1 hcl
  obtain ⟨r, r1, cell, q1, q2, q3, q4⟩ := (I.1.2.2.2.2.2 a (by omega)).1 (by omega)
  rw [ht] at r1 q2 q4
  have hr : r = (Cn, T, N) := Option.some.inj (r1.symm.trans hcl)
  subst hr
  obtain ⟨hS, hfc, kC, hkC, hkind⟩ := C.2.1.1 (t - 1) _ hcl
  obtain ⟨cf, kf, fi, f, hi, hsl⟩ := hS k hk
  have hlay := hts _ (hin _ (u_in_lay hk))
  have hst := (u_facts hfc hkC (u_lays hts hin hk) hi).1
  obtain ⟨hn, hfit⟩ := hty (ty0 k) (by rw [← hkd]; exact hkt k hk)
  have fin : ∀ H' : Heap, H'[a]? = some (cell.setSlot f.slot v) → H'.size = H.size → (∀ q, q ≠ a → H'[q]? = H[q]?) → W p l e R s m args below meth c H' (locs ++ [⟨a, f.slot⟩]) (H.size - s.heap.size) (slotSum H - slotSum s.heap) Q (F0 m (pc + 3) ls rest) := by
    intro H' e1 e2 e3
    refine W.tight (kk H' _ ls (h_I_put I hp (by omega) q1 e1 (k2_slotsz _ _ _) e2 e3 ?_))
    intro hne
    have htt : h_tg σ' a = t := by rw [hp.1]; exact ht
    rw [htt]
    refine ⟨fun _ => ⟨_, hcl, ?_⟩, fun h => absurd h (by omega)⟩
    rw [hsl] at e1
    refine t_OB.to (V := updV (fun k => h_val (h_kd t k) σ a k) k v) ⟨_, e1, q2, q3, t_set q4 hap hk v⟩ (fun j _ => ?_)
    by_cases hj : j = k
    · subst hj
      simp only [updV, if_true]
      exact (hp.2.2.2.2.2.2.2.2.1 t1).symm
    · simp only [updV, hj, if_false]
      exact (hp.2.2.2.2.2.2.2.1 j hj _).symm
  rcases hfin with hfin | ⟨hfin, hdecl, hin2⟩
  · unfold u_lay at hlay
    rw [if_neg (by rw [hfin]; decide)] at hlay
    have h6 := u_store hfc hkC hkind hlay hi (hty0 k hk) hn hfit
    exact W.putK C.1.1 C.1.2.1 (f := f) ⟨C.1.2.2.2.1, hts _ hw, ⟨_, _, _, hi⟩, hst⟩ (by rw [q2]; exact h6) q1 q3 (by rw [hsl]; exact k2_hasslot (q4 k hk)) rfl rfl d fin
  · unfold u_lay at hlay
    rw [if_pos hfin] at hlay
    have hcf : m.cls = cf := by
      obtain ⟨_, _, c', _, _, _, -, -, hf', -, -, -, hown2, -⟩ := Cond.laysFinal_spec hlay
      have e1 : c' = cf := by have := hi.symm.trans hf'; simp at this; exact this.1.symm
      rw [hdecl] at hown2
      rw [← e1]; exact Option.some.inj (C.1.2.2.2.1.symm.trans hown2)
    have h6 := u_fits hfc hkC hkind (Or.inr hlay) hi (hty0 k hk) hn hfit
    exact W.putFinK C.1.1 C.1.2.1 C.1.2.2.2.1 (hts _ hw) hi hst hcf hin2 (by rw [q2]; exact h6) q1 q3 (by rw [hsl]; exact k2_hasslot (q4 k hk)) rfl rfl d fin
end HP0
end
/-! from 06b.writes -/
section
/-! ROWS OF THE WALK: what writes, what makes -/
section HP1
variable {p : Program} {l : Launch} {e : Env} {R : Room} {s : State} {m : MethodId} {args : Array Value} {below : List Frame} {meth : Method} {c : Code} {D : va_G} {dA : Nat → ClassId} {bs nL : Nat} {Q : State → Prop} {cc : ByteArray} {own : String} {σ : HS} {pc : Nat} {lv : List (Nat × Value)} {rest : List Value}
theorem h_tyI {kd : Nat} {x : Int32} (h0 : kd = 0) : ∀ ty : FieldType, (kd = 0 ∧ ty = .int) ∨ (kd = 2 ∧ ty = .long) ∨ (kd = 1 ∧ ty.isReference = true) → narrow ty (.int x) = .int x ∧ fits ty (.int x) = true := by
  intro ty h
  rcases h with ⟨-, rfl⟩ | ⟨h, -⟩ | ⟨h, -⟩
  · exact ⟨rfl, rfl⟩
  · omega
  · omega
theorem h_tyL {kd : Nat} {x : Int64} (h0 : kd = 2) : ∀ ty : FieldType, (kd = 0 ∧ ty = .int) ∨ (kd = 2 ∧ ty = .long) ∨ (kd = 1 ∧ ty.isReference = true) → narrow ty (.long x) = .long x ∧ fits ty (.long x) = true := by
  intro ty h
  rcases h with ⟨h, -⟩ | ⟨-, rfl⟩ | ⟨h, -⟩
  · omega
  · exact ⟨rfl, rfl⟩
  · omega
theorem h_tyR {kd : Nat} {x : Option Nat} (h0 : kd = 1) : ∀ ty : FieldType, (kd = 0 ∧ ty = .int) ∨ (kd = 2 ∧ ty = .long) ∨ (kd = 1 ∧ ty.isReference = true) → narrow ty (va_rf x) = va_rf x ∧ fits ty (va_rf x) = true := by
  intro ty h
  rcases h with ⟨h, -⟩ | ⟨h, -⟩ | ⟨-, h⟩
  · omega
  · omega
  · cases ty <;> first | (simp [FieldType.isReference] at h; done) | (cases x <;> exact ⟨rfl, rfl⟩)
theorem h_kdW {idx t k kd : Nat} (h : h_FW own idx t k kd) : h_kd t k = kd ∧ t < 100 := by
  obtain ⟨_, _, _, h1, -, h2, -⟩ := h
  exact ⟨h2, h1.2.1⟩
theorem h_kdF {idx t k kd : Nat} (h : h_FF own idx t k kd) : h_kd t k = kd ∧ t < 100 := by
  obtain ⟨_, _, _, h1, -, h2, -⟩ := h
  exact ⟨h2, h1.2.1⟩
theorem V_putI (C : h_C p m c cc nL s args own D dA) {idx t k : Nat} (fl : h_FW own idx t k 0) (d : decode cc pc = .ok (.putfield idx, 3)) {r : Option Nat} {x : Int32} {σ' : HS} (e0 : h_pI σ r t k x = some σ') (kk : V p l e R s m args below meth c D dA bs nL Q σ' (pc + 3) lv rest) : V p l e R s m args below meth c D dA bs nL Q σ pc lv (.int x :: va_rf r :: rest) := by
  obtain ⟨a, rfl, ht, rfl⟩ := h_rd e0
  exact h_putO C (Or.inl fl) d ht (h_putI (fun _ => (h_kdW fl).1) (fun h => absurd h (by have := (h_kdW fl).2; omega))) (h_tyI rfl) kk
theorem V_putR (C : h_C p m c cc nL s args own D dA) {idx t k : Nat} (fl : h_FW own idx t k 1) (d : decode cc pc = .ok (.putfield idx, 3)) {r x : Option Nat} {σ' : HS} (e0 : h_pR σ r t k x = some σ') (kk : V p l e R s m args below meth c D dA bs nL Q σ' (pc + 3) lv rest) : V p l e R s m args below meth c D dA bs nL Q σ pc lv (va_rf x :: va_rf r :: rest) := by
  obtain ⟨a, rfl, ht, rfl⟩ := h_rd e0
  exact h_putO C (Or.inl fl) d ht (h_putR (fun _ => (h_kdW fl).1) (fun h => absurd h (by have := (h_kdW fl).2; omega))) (h_tyR rfl) kk
theorem V_putFI (C : h_C p m c cc nL s args own D dA) (hin : meth.name = "<init>") {idx t k : Nat} (fl : h_FF own idx t k 0) (d : decode cc pc = .ok (.putfield idx, 3)) {r : Option Nat} {x : Int32} {σ' : HS} (e0 : h_pI σ r t k x = some σ') (kk : V p l e R s m args below meth c D dA bs nL Q σ' (pc + 3) lv rest) : V p l e R s m args below meth c D dA bs nL Q σ pc lv (.int x :: va_rf r :: rest) := by
  obtain ⟨a, rfl, ht, rfl⟩ := h_rd e0
  exact h_putO C (Or.inr ⟨fl, hin⟩) d ht (h_putI (fun _ => (h_kdF fl).1) (fun h => absurd h (by have := (h_kdF fl).2; omega))) (h_tyI rfl) kk
theorem V_putFR (C : h_C p m c cc nL s args own D dA) (hin : meth.name = "<init>") {idx t k : Nat} (fl : h_FF own idx t k 1) (d : decode cc pc = .ok (.putfield idx, 3)) {r x : Option Nat} {σ' : HS} (e0 : h_pR σ r t k x = some σ') (kk : V p l e R s m args below meth c D dA bs nL Q σ' (pc + 3) lv rest) : V p l e R s m args below meth c D dA bs nL Q σ pc lv (va_rf x :: va_rf r :: rest) := by
  obtain ⟨a, rfl, ht, rfl⟩ := h_rd e0
  exact h_putO C (Or.inr ⟨fl, hin⟩) d ht (h_putR (fun _ => (h_kdF fl).1) (fun h => absurd h (by have := (h_kdF fl).2; omega))) (h_tyR rfl) kk
end HP1
end
/-! from 06c.writes -/
section
/-! ROWS OF THE WALK: what writes, what makes -/
section HP2
variable {p : Program} {l : Launch} {e : Env} {R : Room} {s : State} {m : MethodId} {args : Array Value} {below : List Frame} {meth : Method} {c : Code} {D : va_G} {dA : Nat → ClassId} {bs nL : Nat} {Q : State → Prop} {cc : ByteArray} {own : String} {σ : HS} {pc : Nat} {lv : List (Nat × Value)} {rest : List Value}
-- arrays
theorem h_ar {H : Heap} {a t : Nat} (hg : hG D dA bs σ H) (ht : h_tg σ a = t) (h : 100 ≤ t) : H[a]? = some (arrV (dA (t - 100)) (h_ln σ a) (fun j => h_val (h_ak t) σ a j)) := by
  have := (hg.2.2.2.2.2 a (by omega)).2 (by omega)
  rw [ht] at this
  exact this
theorem h_arr (C : h_C p m c cc nL s args own D dA) {i : Nat} {ty : FieldType} (ht : (h_tys dA)[i]? = some (dA i, ty)) (n : Nat) (z : Nat → Value) : s.isArrayOf (arrV (dA i) n z) ty := (C.2.1.2 i _ ht).1 n z
theorem V_iald (C : h_C p m c cc nL s args own D dA) (d : decode cc pc = .ok (.iaload, 1)) {r : Option Nat} {i x : Int32} (e0 : h_aI σ r 100 i = some x) (kk : V p l e R s m args below meth c D dA bs nL Q σ (pc + 1) lv (.int x :: rest)) : V p l e R s m args below meth c D dA bs nL Q σ pc lv (.int i :: va_rf r :: rest) := fun H locs ls I => by
  obtain ⟨a, rfl, ht, hin, rfl⟩ := h_rdA e0
  have hlt : i.toNatClampNeg < h_ln σ a := Nat.not_le.mp fun q => hin (Or.inr q)
  exact W.iald (v := .int (h_iv σ a i.toNatClampNeg)) C.1.1 C.1.2.1 (h_ar I.1 ht (by omega)) (h_arr C (i := 0) h_ty0 _ _) (fun q => by cases q) (by rw [arrV_size]; exact hin) (by rw [arrV_read _ _ hlt]; rfl) rfl rfl d (kk H locs ls I)
theorem V_lald (C : h_C p m c cc nL s args own D dA) (d : decode cc pc = .ok (.laload, 1)) {r : Option Nat} {i : Int32} {x : Int64} (e0 : h_aL σ r 101 i = some x) (kk : V p l e R s m args below meth c D dA bs nL Q σ (pc + 1) lv (.long x :: rest)) : V p l e R s m args below meth c D dA bs nL Q σ pc lv (.int i :: va_rf r :: rest) := fun H locs ls I => by
  obtain ⟨a, rfl, ht, hin, rfl⟩ := h_rdA e0
  have hlt : i.toNatClampNeg < h_ln σ a := Nat.not_le.mp fun q => hin (Or.inr q)
  exact W.lald (v := .long (h_lv σ a i.toNatClampNeg)) C.1.1 C.1.2.1 (h_ar I.1 ht (by omega)) (h_arr C (i := 1) h_ty1 _ _) (fun q => by cases q) (by rw [arrV_size]; exact hin) (by rw [arrV_read _ _ hlt]; rfl) rfl rfl d (kk H locs ls I)
/-- an array of references: its tag, the tag of its objects -/
def h_AT (t u : Nat) : Prop := 103 ≤ t ∧ 0 < u ∧ u < 100 ∧ ∃ (Cn : String) (T : u_T) (N : Nat), classes[u - 1]? = some (Cn, T, N) ∧ ∀ dA : Nat → ClassId, (h_tys dA)[t - 100]? = some (dA (t - 100), .object Cn)
theorem h_ak1 {t : Nat} (h : 103 ≤ t) : h_ak t = 1 := by
  unfold h_ak
  rw [if_neg (by omega), if_neg (by omega)]
theorem V_aald (C : h_C p m c cc nL s args own D dA) {t u : Nat} (hat : h_AT t u) (d : decode cc pc = .ok (.aaload, 1)) {r : Option Nat} {i : Int32} {x : Option Nat} (e0 : h_aR σ r t i = some x) (kk : V p l e R s m args below meth c D dA bs nL Q σ (pc + 1) lv (va_rf x :: rest)) : V p l e R s m args below meth c D dA bs nL Q σ pc lv (.int i :: va_rf r :: rest) := fun H locs ls I => by
  obtain ⟨a, rfl, ht, hin, rfl⟩ := h_rdA e0
  obtain ⟨h1, -, -, Cn, T, N, h2, h3⟩ := hat
  have hlt : i.toNatClampNeg < h_ln σ a := Nat.not_le.mp fun q => hin (Or.inr q)
  exact W.aald (v := va_rf (h_rv σ a i.toNatClampNeg)) (ty := .object Cn) C.1.1 C.1.2.1 (h_ar I.1 ht (by omega)) (h_arr C (h3 dA) _ _) rfl (fun q => by cases q) (by rw [arrV_size]; exact hin) (by rw [arrV_read _ _ hlt]; simp [h_val, h_ak1 h1]) rfl rfl d (kk H locs ls I)
theorem V_alen (C : h_C p m c cc nL s args own D dA) {t : Nat} {ty : FieldType} (h1 : 100 ≤ t) (h3 : (h_tys dA)[t - 100]? = some (dA (t - 100), ty)) (d : decode cc pc = .ok (.arraylength, 1)) {r : Option Nat} {x : Int32} (e0 : h_len σ r t = some x) (kk : V p l e R s m args below meth c D dA bs nL Q σ (pc + 1) lv (.int x :: rest)) : V p l e R s m args below meth c D dA bs nL Q σ pc lv (va_rf r :: rest) := fun H locs ls I => by
  obtain ⟨a, rfl, ht, rfl⟩ := h_rd e0
  exact W.alen C.1.1 C.1.2.1 (h_ar I.1 ht h1) (h_arr C h3 _ _) (by rw [arrV_size] <;> rfl) rfl rfl d (kk H locs ls I)
end HP2
end
/-! from 06d.writes -/
section
/-! ROWS OF THE WALK: what writes, what makes -/
section HP3
variable {p : Program} {l : Launch} {e : Env} {R : Room} {s : State} {m : MethodId} {args : Array Value} {below : List Frame} {meth : Method} {c : Code} {D : va_G} {dA : Nat → ClassId} {bs nL : Nat} {Q : State → Prop} {cc : ByteArray} {own : String} {σ : HS} {pc : Nat} {lv : List (Nat × Value)} {rest : List Value}
theorem h_stA {σ' : HS} {H H1 : Heap} {locs : List Loc} {ls : Array Slot} {a t k : Nat} {v : Value} (I : h_I R s D dA bs nL σ lv H locs ls) (ht : h_tg σ a = t) (h1 : 100 ≤ t) (hp : h_put σ σ' a t k v) (e1 : H1[a]? = some ((arrV (dA (t - 100)) (h_ln σ a) (fun j => h_val (h_ak t) σ a j)).setSlot k v)) (z1 : H1.size = H.size) (o1 : ∀ q, q ≠ a → H1[q]? = H[q]?) : h_I R s D dA bs nL σ' lv H1 (locs ++ [⟨a, k⟩]) ls := by
  refine h_I_put I hp (by omega) (h_ar I.1 ht h1) e1 (k2_slotsz _ _ _) z1 o1 ?_
  intro hne
  have htt : h_tg σ' a = t := by rw [hp.1]; exact ht
  rw [htt]
  refine ⟨fun h => absurd h (by omega), fun _ => ?_⟩
  rw [e1, arrV_store, hp.2.1]
  congr 2
  funext j
  by_cases hj : j = k
  · subst hj
    simp only [updV, if_true]
    exact (hp.2.2.2.2.2.2.2.2.2 h1).symm
  · simp only [updV, hj, if_false]
    exact (hp.2.2.2.2.2.2.2.1 j hj _).symm
theorem V_iast (C : h_C p m c cc nL s args own D dA) (d : decode cc pc = .ok (.iastore, 1)) {r : Option Nat} {i x : Int32} {σ' : HS} (e0 : h_sI σ r 100 i x = some σ') (kk : V p l e R s m args below meth c D dA bs nL Q σ' (pc + 1) lv rest) : V p l e R s m args below meth c D dA bs nL Q σ pc lv (.int x :: .int i :: va_rf r :: rest) := fun H locs ls I => by
  obtain ⟨a, rfl, ht, hin, rfl⟩ := h_rdA e0
  refine W.iast C.1.1 C.1.2.1 (h_ar I.1 ht (by omega)) (h_arr C (i := 0) h_ty0 _ _) (fun q => by cases q) (by rw [arrV_size]; exact hin) rfl rfl d fun H1 e1 z1 o1 => ?_
  exact W.tight (kk H1 _ ls (h_stA I ht (by omega) (h_putI (t := 100) (fun h => absurd h (by omega)) (fun _ => rfl)) e1 z1 o1))
theorem V_last (C : h_C p m c cc nL s args own D dA) (d : decode cc pc = .ok (.lastore, 1)) {r : Option Nat} {i : Int32} {x : Int64} {σ' : HS} (e0 : h_sL σ r 101 i x = some σ') (kk : V p l e R s m args below meth c D dA bs nL Q σ' (pc + 1) lv rest) : V p l e R s m args below meth c D dA bs nL Q σ pc lv (.long x :: .int i :: va_rf r :: rest) := fun H locs ls I => by
  obtain ⟨a, rfl, ht, hin, rfl⟩ := h_rdA e0
  refine W.last C.1.1 C.1.2.1 (h_ar I.1 ht (by omega)) (h_arr C (i := 1) h_ty1 _ _) (fun q => by cases q) (by rw [arrV_size]; exact hin) rfl rfl d fun H1 e1 z1 o1 => ?_
  exact W.tight (kk H1 _ ls (h_stA I ht (by omega) (h_putL (t := 101) (fun h => absurd h (by omega)) (fun _ => rfl)) e1 z1 o1))
theorem V_aast (C : h_C p m c cc nL s args own D dA) {t u : Nat} (hat : h_AT t u) (d : decode cc pc = .ok (.aastore, 1)) {r : Option Nat} {i : Int32} {x : Option Nat} {σ' : HS} (e0 : h_sR σ r t u i x = some σ') (kk : V p l e R s m args below meth c D dA bs nL Q σ' (pc + 1) lv rest) : V p l e R s m args below meth c D dA bs nL Q σ pc lv (va_rf x :: .int i :: va_rf r :: rest) := fun H locs ls I => by
  obtain ⟨a, rfl, hu, hv, rfl⟩ : ∃ a, r = some a ∧ h_ok σ a t i = true ∧ h_fitR σ u x = true ∧ σ' = h_setR σ a i.toNatClampNeg x := by
    cases r with
    | none => cases e0
    | some a =>
      have h' : (if (h_ok σ a t i && h_fitR σ u x) = true then some (h_setR σ a i.toNatClampNeg x) else none) = some σ' := e0
      by_cases hh : (h_ok σ a t i && h_fitR σ u x) = true
      · rw [if_pos hh] at h'
        rw [Bool.and_eq_true] at hh
        exact ⟨a, rfl, hh.1, hh.2, (Option.some.inj h').symm⟩
      · rw [if_neg hh] at h'
        cases h'
  obtain ⟨a9, e9, ht, hin, -⟩ := h_rdA (σ := σ) (r := some a) (t := t) (i := i) (f := fun _ => 0) (x := 0) (by show (if h_ok σ a t i = true then some 0 else none) = some 0; rw [if_pos hu])
  cases e9
  obtain ⟨h1, h0, h5, Cn, T, N, h2, h3⟩ := hat
  have hlt : i.toNatClampNeg < h_ln σ a := Nat.not_le.mp fun q => hin (Or.inr q)
  have hi0 : ¬ i < 0 := fun q => hin (Or.inl q)
  have hput : h_put σ (h_setR σ a i.toNatClampNeg x) a t i.toNatClampNeg (va_rf x) := h_putR (fun h => absurd h (by omega)) (fun _ => h_ak1 h1)
  cases x with
  | none =>
    refine va_WaastN (C := Cn) C.1.1 C.1.2.1 (h_ar I.1 ht (by omega)) (h_arr C (h3 dA) _ _) (fun q => by cases q) (by rw [arrV_size]; exact hin) rfl rfl d fun H1 e1 z1 o1 => ?_
    exact W.tight (kk H1 _ ls (h_stA I ht (by omega) hput e1 z1 o1))
  | some b =>
    have hb : h_tg σ b = u := by simpa [h_fitR] using hv
    obtain ⟨rr, r1, cellV, g1, g2, g3, -⟩ := (I.1.2.2.2.2.2 b (by omega)).1 (by omega)
    rw [hb] at g2
    have hcls := (C.2.1.1 (u - 1) _ h2).2
    obtain ⟨kA, comp, k1, k2, k3, -⟩ := (C.2.1.2 (t - 100) _ (h3 dA)).2
    have hcomp : comp = D.1 (u - 1) := Option.some.inj (k3.symm.trans hcls.1)
    subst hcomp
    obtain ⟨kC, hkC, hkk⟩ := hcls.2
    refine W.aast C.1.1 C.1.2.1 (h_ar I.1 ht (by omega)) (fun q h => by cases h) (fun h => by cases h) k1 k2 rfl hkC ⟨hi0, by rw [arrV_size]; exact hlt⟩ g1 (fun q h => by rw [g3] at h; cases h) (by rw [g2]; exact hkC) (by rw [g2]; exact va_assign hcls) rfl rfl d fun H1 e1 z1 o1 => ?_
    exact W.tight (kk H1 _ ls (h_stA I ht (by omega) hput e1 z1 o1))
end HP3
end
/-! from 06e.writes -/
section
/-! ROWS OF THE WALK: what writes, what makes -/
section HP4
variable {p : Program} {l : Launch} {e : Env} {R : Room} {s : State} {m : MethodId} {args : Array Value} {below : List Frame} {meth : Method} {c : Code} {D : va_G} {dA : Nat → ClassId} {bs nL : Nat} {Q : State → Prop} {cc : ByteArray} {own : String} {σ : HS} {pc : Nat} {lv : List (Nat × Value)} {rest : List Value}
theorem V_zald (C : h_C p m c cc nL s args own D dA) (d : decode cc pc = .ok (.baload, 1)) {r : Option Nat} {i x : Int32} (e0 : h_aI σ r 102 i = some x) (kk : V p l e R s m args below meth c D dA bs nL Q σ (pc + 1) lv (.int x :: rest)) : V p l e R s m args below meth c D dA bs nL Q σ pc lv (.int i :: va_rf r :: rest) := fun H locs ls I => by
  obtain ⟨a, rfl, ht, hin, rfl⟩ := h_rdA e0
  have hlt : i.toNatClampNeg < h_ln σ a := Nat.not_le.mp fun q => hin (Or.inr q)
  exact W.zald (v := .int (h_iv σ a i.toNatClampNeg)) C.1.1 C.1.2.1 (h_ar I.1 ht (by omega)) (h_arr C (i := 2) h_ty2 _ _) (fun q => by cases q) (by rw [arrV_size]; exact hin) (by rw [arrV_read _ _ hlt]; rfl) rfl rfl d (kk H locs ls I)
theorem V_zast (C : h_C p m c cc nL s args own D dA) (d : decode cc pc = .ok (.bastore, 1)) {r : Option Nat} {i x : Int32} {σ' : HS} (hx : x = 0 ∨ x = 1) (e0 : h_sI σ r 102 i x = some σ') (kk : V p l e R s m args below meth c D dA bs nL Q σ' (pc + 1) lv rest) : V p l e R s m args below meth c D dA bs nL Q σ pc lv (.int x :: .int i :: va_rf r :: rest) := fun H locs ls I => by
  obtain ⟨a, rfl, ht, hin, rfl⟩ := h_rdA e0
  refine W.zast C.1.1 C.1.2.1 (h_ar I.1 ht (by omega)) (h_arr C (i := 2) h_ty2 _ _) (fun q => by cases q) (by rw [arrV_size]; exact hin) rfl rfl d fun H1 e1 z1 o1 => ?_
  refine W.tight (kk H1 _ ls (h_stA I ht (by omega) (h_putI (t := 102) (fun h => absurd h (by omega)) (fun _ => rfl)) ?_ z1 o1))
  rcases hx with rfl | rfl <;> exact e1
end HP4
end
/-! from 06f.writes -/
section
/-! ROWS OF THE WALK: what writes, what makes -/
section HP5
variable {p : Program} {l : Launch} {e : Env} {R : Room} {s : State} {m : MethodId} {args : Array Value} {below : List Frame} {meth : Method} {c : Code} {D : va_G} {dA : Nat → ClassId} {bs nL : Nat} {Q : State → Prop} {cc : ByteArray} {own : String} {σ : HS} {pc : Nat} {lv : List (Nat × Value)} {rest : List Value}
theorem h_mk_some {t n : Nat} {r : Option Nat} {σ' : HS} (h : h_mk σ t n = some (r, σ')) : h_sz σ + 1 ≤ h_cz σ ∧ h_sl σ + n ≤ h_ck σ ∧ r = some (h_sz σ) ∧ σ' = h_push σ t 0 n := by
  unfold h_mk at h
  by_cases hc : h_sz σ + 1 ≤ h_cz σ ∧ h_sl σ + n ≤ h_ck σ
  · rw [if_pos hc] at h
    cases h
    exact ⟨hc.1, hc.2, rfl, rfl⟩
  · rw [if_neg hc] at h
    cases h
theorem h_mkA_some {t : Nat} {n : Int32} {r : Option Nat} {σ' : HS} (h : h_mkA σ t n = some (r, σ')) : ¬ n < 0 ∧ n.toNatClampNeg ≤ 60000000 ∧ h_sz σ + 1 ≤ h_cz σ ∧ h_sl σ + n.toNatClampNeg ≤ h_ck σ ∧ r = some (h_sz σ) ∧ σ' = h_push σ t n.toNatClampNeg n.toNatClampNeg := by
  unfold h_mkA at h
  by_cases hc : ¬ n < 0 ∧ n.toNatClampNeg ≤ 60000000 ∧ h_sz σ + 1 ≤ h_cz σ ∧ h_sl σ + n.toNatClampNeg ≤ h_ck σ
  · rw [if_pos hc] at h
    cases h
    exact ⟨hc.1, hc.2.1, hc.2.2.1, hc.2.2.2, rfl, rfl⟩
  · rw [if_neg hc] at h
    cases h
theorem h_tg_push {t n k : Nat} : h_tg (h_push σ t n k) (h_sz σ) = t := va_up_self _ _ _
theorem h_ln_push {t n k : Nat} : h_ln (h_push σ t n k) (h_sz σ) = n := va_up_self _ _ _
theorem h_val_push {t n k kd j : Nat} : h_val kd (h_push σ t n k) (h_sz σ) j = if kd = 0 then .int 0 else if kd = 1 then va_rf none else .long 0 := by
  simp [h_val, h_push, h_iv, h_rv, h_lv, h_upA]
theorem h_I_push {H : Heap} {locs : List Loc} {ls : Array Slot} {t n k : Nat} {c1 : Cell} (I : h_I R s D dA bs nL σ lv H locs ls) (hk : c1.slots.size = k) (hc1 : h_sz σ + 1 ≤ h_cz σ) (hc2 : h_sl σ + k ≤ h_ck σ) (ha : h_at D dA (h_push σ t n k) H.size (H.push c1)) : h_I R s D dA bs nL (h_push σ t n k) lv (H.push c1) locs ls := by
  have hle : s.heap.size ≤ H.size := I.2.1.1
  refine ⟨hG_push I.1 (Nat.le_trans I.2.2.2.2.2 hle) hk hc1 hc2 ha, ⟨by rw [Array.size_push]; omega, fun q h1 h2 => ?_, I.2.1.2.2⟩, I.2.2⟩
  rw [Array.getElem?_push, if_neg (by omega)]
  exact I.2.1.2.1 q h1 h2
end HP5
end
/-! from 06g.writes -/
section
/-! ROWS OF THE WALK: what writes, what makes -/
section HP6
variable {p : Program} {l : Launch} {e : Env} {R : Room} {s : State} {m : MethodId} {args : Array Value} {below : List Frame} {meth : Method} {c : Code} {D : va_G} {dA : Nat → ClassId} {bs nL : Nat} {Q : State → Prop} {cc : ByteArray} {own : String} {σ : HS} {pc : Nat} {lv : List (Nat × Value)} {rest : List Value}
theorem h_I_new (C : h_C p m c cc nL s args own D dA) {t N : Nat} {Cn : String} {T : u_T} (hc : h_CL t Cn T N) {H : Heap} {locs : List Loc} {ls : Array Slot} (I : h_I R s D dA bs nL σ lv H locs ls) (m1 : h_sz σ + 1 ≤ h_cz σ) (m2 : h_sl σ + N ≤ h_ck σ) {kC : Class} (f2 : s.vm.classes[D.1 (t - 1)]? = some kC) (f4 : kC.instanceTypes.size = N) : h_I R s D dA bs nL (h_push σ t 0 N) lv (H.push (blank (D.1 (t - 1)) kC)) locs ls := by
  obtain ⟨t0, t1, hcl, hin, hins, hini, ty0, hty0, hnm, hkt⟩ := hc
  have hts := C.1.2.2.2.2
  have hKn := C.2.1.1 (t - 1) _ hcl
  have hz : H.size = h_sz σ := I.1.1
  refine h_I_push I ?_ m1 m2 ?_
  · rw [← f4]; simp [blank]
  · rw [hz]
    intro hne
    rw [h_tg_push]
    refine ⟨fun _ => ⟨_, hcl, ?_⟩, fun h => absurd h (by omega)⟩
    have e1 : (H.push (blank (D.1 (t - 1)) kC))[h_sz σ]? = some (blank (D.1 (t - 1)) kC) := by
      rw [← hz, Array.getElem?_push_size]
    refine (u_born ty0 hts hin hKn f2 e1 hty0).to (fun k hk => ?_)
    rw [h_val_push]
    rcases hkt k hk with ⟨h1, h2⟩ | ⟨h1, h2⟩ | ⟨h1, h2⟩
    · rw [h1, h2]; rfl
    · rw [h1, h2]; rfl
    · rw [h1]
      revert h2
      cases ty0 k <;> intro h2 <;> first | rfl | (simp [FieldType.isReference] at h2; done)
theorem h_room {H : Heap} {locs : List Loc} {ls : Array Slot} {n : Nat} (I : h_I R s D dA bs nL σ lv H locs ls) (hge : slotSum s.heap ≤ slotSum H) (m1 : h_sz σ + 1 ≤ h_cz σ) (m2 : h_sl σ + n ≤ h_ck σ) : H.size - s.heap.size + 1 ≤ R.cells ∧ slotSum H - slotSum s.heap + n ≤ R.slots := by
  have hz : H.size = h_sz σ := I.1.1
  have hs : slotSum H = h_sl σ := I.1.2.1
  have hle : s.heap.size ≤ H.size := I.2.1.1
  have c1 : s.heap.size + R.cells = h_cz σ := I.2.2.2.1
  have c2 : slotSum s.heap + R.slots = h_ck σ := I.2.2.2.2.1
  omega
theorem V_new (C : h_C p m c cc nL s args own D dA) {idx t N : Nat} {Cn : String} {T : u_T} (hc : h_CL t Cn T N) (hw : Cond.classLink own idx Cn ∈ h_ws) (d : decode cc pc = .ok (.new idx, 3)) {r : Option Nat} {σ' : HS} (e0 : h_mk σ t N = some (r, σ')) (kk : V p l e R s m args below meth c D dA bs nL Q σ' (pc + 3) lv (va_rf r :: rest)) : V p l e R s m args below meth c D dA bs nL Q σ pc lv rest := fun H locs ls I => by
  obtain ⟨m1, m2, hr, hs'⟩ := h_mk_some e0
  have hts := C.1.2.2.2.2
  have hz : H.size = h_sz σ := I.1.1
  have hcC := (C.2.1.1 (t - 1) _ hc.2.2.1).2.1
  intro T0 hT X
  have hge : slotSum s.heap ≤ slotSum H := by rw [← hT]; exact h_sumge X
  obtain ⟨q1, q2⟩ := h_room I hge m1 m2
  have key : W p l e R s m args below meth c H locs (H.size - s.heap.size) (slotSum H - slotSum s.heap) Q (F0 m pc ls rest) := by
    refine W.newc C.1.1 C.1.2.1 C.1.2.2.2.1 (hts _ hw) (hts _ hc.2.2.2.2.1) (hts _ hc.2.2.2.2.2.1) rfl d q1 q2 (fun cC kC f1 f2 f3 f4 => ?_)
    have e : cC = D.1 (t - 1) := Option.some.inj (f1.symm.trans hcC)
    rw [e] at f2 ⊢
    have hV := kk (H.push (blank (D.1 (t - 1)) kC)) locs ls (by rw [hs']; exact h_I_new C hc I m1 m2 f2 f4)
    rw [hr, ← hz] at hV
    exact W.tight hV
  exact key T0 hT X
end HP6
end
/-! from 06h.writes -/
section
/-! ROWS OF THE WALK: what writes, what makes -/
section HP7
variable {p : Program} {l : Launch} {e : Env} {R : Room} {s : State} {m : MethodId} {args : Array Value} {below : List Frame} {meth : Method} {c : Code} {D : va_G} {dA : Nat → ClassId} {bs nL : Nat} {Q : State → Prop} {cc : ByteArray} {own : String} {σ : HS} {pc : Nat} {lv : List (Nat × Value)} {rest : List Value}
theorem h_I_arr {t n : Nat} {d : Value} {H : Heap} {locs : List Loc} {ls : Array Slot} (I : h_I R s D dA bs nL σ lv H locs ls) (m1 : h_sz σ + 1 ≤ h_cz σ) (m2 : h_sl σ + n ≤ h_ck σ) (h1 : 100 ≤ t) (hd : (if h_ak t = 0 then Value.int 0 else if h_ak t = 1 then va_rf none else .long 0) = d) : h_I R s D dA bs nL (h_push σ t n n) lv (H.push ({ cls := dA (t - 100), slots := Array.replicate n d, vm := .none } : Cell)) locs ls := by
  have hz : H.size = h_sz σ := I.1.1
  refine h_I_push I (by simp) m1 m2 ?_
  rw [hz]
  intro hne
  rw [h_tg_push]
  refine ⟨fun h => absurd h (by omega), fun _ => ?_⟩
  rw [← hz, Array.getElem?_push_size, hz, h_ln_push, arrV_new]
  congr 2
  funext j
  rw [h_val_push]
  exact hd.symm
theorem V_newI (C : h_C p m c cc nL s args own D dA) (hw : Cond.arrayClass .int ∈ h_ws) (d : decode cc pc = .ok (.newarray .int, 2)) {n : Int32} {r : Option Nat} {σ' : HS} (e0 : h_mkA σ 100 n = some (r, σ')) (kk : V p l e R s m args below meth c D dA bs nL Q σ' (pc + 2) lv (va_rf r :: rest)) : V p l e R s m args below meth c D dA bs nL Q σ pc lv (.int n :: rest) := fun H locs ls I => by
  obtain ⟨m0, m9, m1, m2, hr, hs'⟩ := h_mkA_some e0
  have hts := C.1.2.2.2.2
  have hz : H.size = h_sz σ := I.1.1
  have hcA := (C.2.1.2 0 _ h_ty0).2
  intro T0 hT X
  have hge : slotSum s.heap ≤ slotSum H := by rw [← hT]; exact h_sumge X
  obtain ⟨q1, q2⟩ := h_room I hge m1 m2
  have hby : n.toNatClampNeg * 4 ≤ 536870912 := by omega
  have key : W p l e R s m args below meth c H locs (H.size - s.heap.size) (slotSum H - slotSum s.heap) Q (F0 m pc ls (.int n :: rest)) := by
    refine W.newa (atype := .int) C.1.1 C.1.2.1 (hts _ hw) rfl d rfl m0 hby q1 q2 (fun cA kA comp f1 f2 f3 => ?_)
    have e : cA = dA 0 := Option.some.inj (f1.symm.trans hcA)
    rw [e]
    have hV := kk (H.push ({ cls := dA 0, slots := Array.replicate n.toNatClampNeg (.int 0), vm := .none } : Cell)) locs ls (by rw [hs']; exact h_I_arr (t := 100) I m1 m2 (by decide) rfl)
    rw [hr, ← hz] at hV
    exact W.tight hV
  exact key T0 hT X
theorem V_newL (C : h_C p m c cc nL s args own D dA) (hw : Cond.arrayClass .long ∈ h_ws) (d : decode cc pc = .ok (.newarray .long, 2)) {n : Int32} {r : Option Nat} {σ' : HS} (e0 : h_mkA σ 101 n = some (r, σ')) (kk : V p l e R s m args below meth c D dA bs nL Q σ' (pc + 2) lv (va_rf r :: rest)) : V p l e R s m args below meth c D dA bs nL Q σ pc lv (.int n :: rest) := fun H locs ls I => by
  obtain ⟨m0, m9, m1, m2, hr, hs'⟩ := h_mkA_some e0
  have hts := C.1.2.2.2.2
  have hz : H.size = h_sz σ := I.1.1
  have hcA := (C.2.1.2 1 _ h_ty1).2
  intro T0 hT X
  have hge : slotSum s.heap ≤ slotSum H := by rw [← hT]; exact h_sumge X
  obtain ⟨q1, q2⟩ := h_room I hge m1 m2
  have hby : n.toNatClampNeg * 8 ≤ 536870912 := by omega
  have key : W p l e R s m args below meth c H locs (H.size - s.heap.size) (slotSum H - slotSum s.heap) Q (F0 m pc ls (.int n :: rest)) := by
    refine W.newa (atype := .long) C.1.1 C.1.2.1 (hts _ hw) rfl d rfl m0 hby q1 q2 (fun cA kA comp f1 f2 f3 => ?_)
    have e : cA = dA 1 := Option.some.inj (f1.symm.trans hcA)
    rw [e]
    have hV := kk (H.push ({ cls := dA 1, slots := Array.replicate n.toNatClampNeg (.long 0), vm := .none } : Cell)) locs ls (by rw [hs']; exact h_I_arr (t := 101) I m1 m2 (by decide) rfl)
    rw [hr, ← hz] at hV
    exact W.tight hV
  exact key T0 hT X
theorem V_newZ (C : h_C p m c cc nL s args own D dA) (hw : Cond.arrayClass .boolean ∈ h_ws) (d : decode cc pc = .ok (.newarray .boolean, 2)) {n : Int32} {r : Option Nat} {σ' : HS} (e0 : h_mkA σ 102 n = some (r, σ')) (kk : V p l e R s m args below meth c D dA bs nL Q σ' (pc + 2) lv (va_rf r :: rest)) : V p l e R s m args below meth c D dA bs nL Q σ pc lv (.int n :: rest) := fun H locs ls I => by
  obtain ⟨m0, m9, m1, m2, hr, hs'⟩ := h_mkA_some e0
  have hts := C.1.2.2.2.2
  have hz : H.size = h_sz σ := I.1.1
  have hcA := (C.2.1.2 2 _ h_ty2).2
  intro T0 hT X
  have hge : slotSum s.heap ≤ slotSum H := by rw [← hT]; exact h_sumge X
  obtain ⟨q1, q2⟩ := h_room I hge m1 m2
  have hby : n.toNatClampNeg * 1 ≤ 536870912 := by omega
  have key : W p l e R s m args below meth c H locs (H.size - s.heap.size) (slotSum H - slotSum s.heap) Q (F0 m pc ls (.int n :: rest)) := by
    refine W.newa (atype := .boolean) C.1.1 C.1.2.1 (hts _ hw) rfl d rfl m0 hby q1 q2 (fun cA kA comp f1 f2 f3 => ?_)
    have e : cA = dA 2 := Option.some.inj (f1.symm.trans hcA)
    rw [e]
    have hV := kk (H.push ({ cls := dA 2, slots := Array.replicate n.toNatClampNeg (.int 0), vm := .none } : Cell)) locs ls (by rw [hs']; exact h_I_arr (t := 102) I m1 m2 (by decide) rfl)
    rw [hr, ← hz] at hV
    exact W.tight hV
  exact key T0 hT X
theorem V_anew (C : h_C p m c cc nL s args own D dA) {idx t u : Nat} {Cn : String} {T : u_T} {N : Nat} (h1 : 103 ≤ t) (hcl : classes[u - 1]? = some (Cn, T, N)) (h3 : (h_tys dA)[t - 100]? = some (dA (t - 100), .object Cn)) (hw : Cond.classLink own idx Cn ∈ h_ws) (hw2 : Cn ∈ h_aos) (d : decode cc pc = .ok (.anewarray idx, 3)) {n : Int32} {r : Option Nat} {σ' : HS} (e0 : h_mkA σ t n = some (r, σ')) (kk : V p l e R s m args below meth c D dA bs nL Q σ' (pc + 3) lv (va_rf r :: rest)) : V p l e R s m args below meth c D dA bs nL Q σ pc lv (.int n :: rest) := fun H locs ls I => by
  obtain ⟨m0, m9, m1, m2, hr, hs'⟩ := h_mkA_some e0
  have hts := C.1.2.2.2.2
  have hz : H.size = h_sz σ := I.1.1
  obtain ⟨kA', comp', -, -, -, hcA⟩ := (C.2.1.2 (t - 100) _ h3).2
  intro T0 hT X
  have hge : slotSum s.heap ≤ slotSum H := by rw [← hT]; exact h_sumge X
  obtain ⟨q1, q2⟩ := h_room I hge m1 m2
  have hby : n.toNatClampNeg * 4 ≤ 536870912 := by omega
  have key : W p l e R s m args below meth c H locs (H.size - s.heap.size) (slotSum H - slotSum s.heap) Q (F0 m pc ls (.int n :: rest)) := by
    refine W.anew C.1.1 C.1.2.1 C.1.2.2.2.1 (hts _ hw) (va_AO.use (C.2.2 Cn hw2)) rfl d rfl m0 hby q1 q2 (fun cA kA comp f1 f2 f3 f4 => ?_)
    have e : cA = dA (t - 100) := Option.some.inj (f1.symm.trans hcA)
    rw [e]
    have hV := kk (H.push ({ cls := dA (t - 100), slots := Array.replicate n.toNatClampNeg .null, vm := .none } : Cell)) locs ls (by rw [hs']; exact h_I_arr (t := t) I m1 m2 (by omega) (by rw [h_ak1 h1]; rfl))
    rw [hr, ← hz] at hV
    exact W.tight hV
  exact key T0 hT X
end HP7
end
/-! from 06j.writes -/
section
/-! ROWS OF THE WALK: what writes, what makes -/
section HP9
variable {p : Program} {l : Launch} {e : Env} {R : Room} {s : State} {m : MethodId} {args : Array Value} {below : List Frame} {meth : Method} {c : Code} {D : va_G} {dA : Nat → ClassId} {bs nL : Nat} {Q : State → Prop} {cc : ByteArray} {own : String} {σ : HS} {pc : Nat} {lv : List (Nat × Value)} {rest : List Value}
theorem h_setA_val {a : Nat} {g : Nat → Int32} : (∀ b, b ≠ a → ∀ kd j, h_val kd (h_setA σ a g) b j = h_val kd σ b j) ∧ ∀ j, h_val 0 (h_setA σ a g) a j = .int (g j) := by
  refine ⟨fun b hb kd j => ?_, fun j => ?_⟩
  · simp [h_val, h_setA, h_iv, h_rv, h_lv, h_upA, hb]
  · simp [h_val, h_setA, h_iv, h_upA]
theorem V_copyI (C : h_C p m c cc nL s args own D dA) {idx : Nat} (hlink : Cond.methodLink own idx arraycopyName ∈ h_ws) (hnat : Cond.native arraycopyName ∈ h_ws) (hstat : Cond.static arraycopyName ∈ h_ws) (hini : Cond.initialized "java/lang/System" ∈ h_ws) (hframes : 1 ≤ R.frames) (hlocals : (rest.map fun v => v.category).sum + (nativeFrameWords "java/lang/System" "arraycopy" 5 + 11) ≤ R.locals) (d : decode cc pc = .ok (.invokestatic idx, 3)) {rs rd : Option Nat} {sp dp n : Int32} {σ' : HS} (e0 : h_cpI σ rs sp rd dp n = some σ') (kk : V p l e R s m args below meth c D dA bs nL Q σ' (pc + 3) lv rest) : V p l e R s m args below meth c D dA bs nL Q σ pc lv (.int n :: .int dp :: va_rf rd :: .int sp :: va_rf rs :: rest) := fun H locs ls I => by
  obtain ⟨a0, a, rfl, rfl, ⟨ta0, ta, h1, h2, h3, h4, h5⟩, rfl⟩ : ∃ a b, rs = some a ∧ rd = some b ∧ (h_tg σ a = 100 ∧ h_tg σ b = 100 ∧ ¬ sp < 0 ∧ ¬ dp < 0 ∧ ¬ n < 0 ∧ sp.toNatClampNeg + n.toNatClampNeg ≤ h_ln σ a ∧ dp.toNatClampNeg + n.toNatClampNeg ≤ h_ln σ b) ∧ σ' = h_setA σ b (va_cpy (h_iv σ a) (h_iv σ b) sp.toNatClampNeg dp.toNatClampNeg n.toNatClampNeg) := by
    cases rs with
    | none => cases e0
    | some a =>
      cases rd with
      | none => cases e0
      | some b =>
        have h' : (if h_tg σ a = 100 ∧ h_tg σ b = 100 ∧ ¬ sp < 0 ∧ ¬ dp < 0 ∧ ¬ n < 0 ∧ sp.toNatClampNeg + n.toNatClampNeg ≤ h_ln σ a ∧ dp.toNatClampNeg + n.toNatClampNeg ≤ h_ln σ b then some (h_setA σ b (va_cpy (h_iv σ a) (h_iv σ b) sp.toNatClampNeg dp.toNatClampNeg n.toNatClampNeg)) else none) = some σ' := e0
        by_cases hh : h_tg σ a = 100 ∧ h_tg σ b = 100 ∧ ¬ sp < 0 ∧ ¬ dp < 0 ∧ ¬ n < 0 ∧ sp.toNatClampNeg + n.toNatClampNeg ≤ h_ln σ a ∧ dp.toNatClampNeg + n.toNatClampNeg ≤ h_ln σ b
        · rw [if_pos hh] at h'
          exact ⟨a, b, rfl, rfl, hh, (Option.some.inj h').symm⟩
        · rw [if_neg hh] at h'
          cases h'
  have hts := C.1.2.2.2.2
  have nn : ∀ z : Int32, ¬ z < 0 → z.toInt = (z.toNatClampNeg : Int) := by
    intro z hz
    have hz0 : (0 : Int) ≤ z.toInt := by
      have := Int32.not_lt.mp hz
      simpa using Int32.le_iff_toInt_le.mp this
    show z.toInt = ((z.toInt.toNat : Nat) : Int)
    omega
  have hc0 : H[a0]? = some (vp_cell (dA 0) (h_ln σ a0, .inl (h_iv σ a0))) := h_ar I.1 ta0 (by omega)
  have hc1 : H[a]? = some (vp_cell (dA 0) (h_ln σ a, .inl (h_iv σ a))) := h_ar I.1 ta (by omega)
  obtain ⟨-, k0, hk0, cm0, hkk0⟩ := (C.2.1.2 0 _ h_ty0).1 (h_ln σ a0) (fun j => .int (h_iv σ a0 j))
  obtain ⟨-, k1, hk1, cm1, hkk1⟩ := (C.2.1.2 0 _ h_ty0).1 (h_ln σ a) (fun j => .int (h_iv σ a j))
  intro T hT X
  obtain ⟨vm', X', step⟩ := X.arraycopy C.1.1 C.1.2.2.2.1 (hts _ hlink) (hts _ hnat) (hts _ hstat) (hts _ hini) (src := a0) (dst := a) (cs := vp_cell (dA 0) (h_ln σ a0, .inl (h_iv σ a0))) (cd := vp_cell (dA 0) (h_ln σ a, .inl (h_iv σ a))) (srcPos := sp) (destPos := dp) (n := n) (by rw [hT]; exact hc0) (by rw [hT]; exact hc1)
    (fun _ h => by cases h) (fun _ h => by cases h) (fun h => by cases h) (fun h => by cases h) hk0 hk1 hkk0 hkk1 (by simp [refKind]) h1 h2 h3
    (by rw [nn sp h1, nn n h3]; show ¬ _ > ((arrV (dA 0) (h_ln σ a0) (fun j => .int (h_iv σ a0 j))).slots.size : Int); rw [arrV_size]; omega)
    (by rw [nn dp h2, nn n h3]; show ¬ _ > ((arrV (dA 0) (h_ln σ a) (fun j => .int (h_iv σ a j))).slots.size : Int); rw [arrV_size]; omega)
    (fun vm₁ _ i hi => by
      have e : (vp_cell (dA 0) (h_ln σ a0, .inl (h_iv σ a0))).slots.getD (sp.toNatClampNeg + i) .null = .int (h_iv σ a0 (sp.toNatClampNeg + i)) := by
        show (arrV (dA 0) (h_ln σ a0) (fun j => .int (h_iv σ a0 j))).slots.getD _ _ = _
        rw [Array.getD_eq_getD_getElem?, arrV_read _ _ (by omega)]
        rfl
      refine ⟨?_, ?_⟩
      · rw [e]
        rfl
      · rw [e]
        exact trivial)
    (g := F0 m pc ls (.int n :: .int dp :: .ref a :: .int sp :: .ref a0 :: rest)) rfl (by rw [C.1.2.2.1]; exact I.2.2.1.1.1) (rest := rest) rfl (by rw [C.1.2.1]; exact d) hframes (by show 2 * 0 + _ + _ ≤ _; omega)
  have e1 : copied (vp_cell (dA 0) (h_ln σ a0, .inl (h_iv σ a0))) (vp_cell (dA 0) (h_ln σ a, .inl (h_iv σ a))) sp dp n = vp_cell (dA 0) (h_ln σ a, .inl (va_cpy (h_iv σ a0) (h_iv σ a) sp.toNatClampNeg dp.toNatClampNeg n.toNatClampNeg)) := va_copied (fun z => .int z) (dA 0) (dA 0) (h_iv σ a0) (h_iv σ a) h4
  rw [e1] at X' step
  have hl : a < H.size := (Array.getElem?_eq_some_iff.mp hc1).1
  have hheap : ((T.setVm vm').setCell a (vp_cell (dA 0) (h_ln σ a, .inl (va_cpy (h_iv σ a0) (h_iv σ a) sp.toNatClampNeg dp.toNatClampNeg n.toNatClampNeg)))).heap = H.setIfInBounds a (vp_cell (dA 0) (h_ln σ a, .inl (va_cpy (h_iv σ a0) (h_iv σ a) sp.toNatClampNeg dp.toNatClampNeg n.toNatClampNeg))) := by rw [← hT]; rfl
  generalize hH1 : H.setIfInBounds a (vp_cell (dA 0) (h_ln σ a, .inl (va_cpy (h_iv σ a0) (h_iv σ a) sp.toNatClampNeg dp.toNatClampNeg n.toNatClampNeg))) = H1 at hheap
  have oq : ∀ q : Nat, q ≠ a → H1[q]? = H[q]? := fun q hq => by rw [← hH1]; simp [Array.getElem?_setIfInBounds, Ne.symm hq]
  have z1 : H1.size = H.size := by rw [← hH1]; simp
  have ea : H1[a]? = some (vp_cell (dA 0) (h_ln σ a, .inl (va_cpy (h_iv σ a0) (h_iv σ a) sp.toNatClampNeg dp.toNatClampNeg n.toNatClampNeg))) := by rw [← hH1]; simp [Array.getElem?_setIfInBounds, hl]
  have hsv := h_setA_val (σ := σ) (a := a) (g := va_cpy (h_iv σ a0) (h_iv σ a) sp.toNatClampNeg dp.toNatClampNeg n.toNatClampNeg)
  have I' : ∀ L' : List Loc, (∀ q ∈ L', q.base = a) → h_I R s D dA bs nL (h_setA σ a (va_cpy (h_iv σ a0) (h_iv σ a) sp.toNatClampNeg dp.toNatClampNeg n.toNatClampNeg)) lv H1 (locs ++ L') ls := by
    intro L' hL'
    refine ⟨hG_set I.1 rfl rfl rfl rfl rfl rfl hsv.1 hc1 ea (by rw [vp_cell_i, vp_cell_i, arrV_size, arrV_size]) z1 oq ?_, ⟨by rw [z1]; exact I.2.1.1, fun q g1 g2 => ?_, fun q hq => ?_⟩, I.2.2.1, I.2.2.2⟩
    · intro hne
      have htt : h_tg (h_setA σ a (va_cpy (h_iv σ a0) (h_iv σ a) sp.toNatClampNeg dp.toNatClampNeg n.toNatClampNeg)) a = 100 := ta
      rw [htt]
      refine ⟨fun h => absurd h (by omega), fun _ => ?_⟩
      rw [ea, vp_cell_i]
      congr 2
      funext j
      exact (hsv.2 j).symm
    · rw [oq q (fun e => g2 (by rw [e]; exact I.1.2.2.2.2.1 a (by omega)))]
      exact I.2.1.2.1 q g1 g2
    · rcases List.mem_append.mp hq with h | h
      · exact I.2.1.2.2 q h
      · rw [hL' q h]
        exact I.1.2.2.2.2.1 a (by omega)
  obtain ⟨t, a1, b1⟩ := W.tight (kk H1 _ ls (I' _ (fun q hq => by obtain ⟨z, -, hz⟩ := List.mem_map.mp hq; rw [← hz]))) _ hheap X'
  exact ⟨t, step t a1, b1⟩
end HP9
end
/-! from 06k.writes -/
section
/-! ROWS OF THE WALK: what writes, what makes -/
section HP10
variable {p : Program} {l : Launch} {e : Env} {R : Room} {s : State} {m : MethodId} {args : Array Value} {below : List Frame} {meth : Method} {c : Code} {D : va_G} {dA : Nat → ClassId} {bs nL : Nat} {Q : State → Prop} {cc : ByteArray} {own : String} {σ : HS} {pc : Nat} {lv : List (Nat × Value)} {rest : List Value}
theorem V_objInit (C : h_C p m c cc nL s args own D dA) {idx : Nat} (w1 : Cond.methodLink own idx Lib.objectInit ∈ h_ws) (w2 : Cond.instanceMethod Lib.objectInit ∈ h_ws) (w3 : Cond.code Lib.objectInit ⟨#[0xb1]⟩ 1 none ∈ h_ws) (d : decode cc pc = .ok (.invokespecial idx, 3)) {r : Option Nat} {a : Nat} (hr : r = some a) (hf : 1 ≤ R.frames) (hl : (rest.map fun v => v.category).sum + 12 ≤ R.locals) (kk : V p l e R s m args below meth c D dA bs nL Q σ (pc + 3) lv rest) : V p l e R s m args below meth c D dA bs nL Q σ pc lv (va_rf r :: rest) := fun H locs ls I => by
  subst hr
  have hts := C.1.2.2.2.2
  refine W.objInit C.1.1 C.1.2.1 C.1.2.2.2.1 (hts _ w1) (hts _ w2) (hts _ w3) rfl (by rw [C.1.2.2.1]; exact I.2.2.1.1.1) rfl d hf (by show 2 * 0 + _ + _ ≤ _; omega) ?_
  exact kk H locs ls I
end HP10
end
/-! from 07.calls -/
section
/-! CONTRACTS: a method from σ to σ', its answer; calls, returns -/
def h_rm (F L : Nat) (σ : HS) : Room := { frames := F, cells := h_cz σ - h_sz σ, slots := h_ck σ - h_sl σ, locals := L }
def h_Pc (D : va_G) (dA : Nat → ClassId) (bs : Nat) (σ : HS) (av : List Value) : Array Value → State → Prop := va_Pc av (fun U => hG D dA bs σ U.heap ∧ h_K D dA U ∧ bs ≤ U.heap.size)
def h_Q (D : va_G) (dA : Nat → ClassId) (bs : Nat) (rv : Option Value) (σ σ' : HS) : Array Value → State → Outcome → State → Prop := fun _ st o t => o = .returned rv ∧ hG D dA bs σ' t.heap ∧ va_F (fun q => bs ≤ q) st t ∧ h_cz σ' = h_cz σ ∧ h_ck σ' = h_ck σ
def MetC (l : Launch) (y : MethodName) (cc : ByteArray) (maxL : Nat) (ret : Option FieldType) (F L : Nat) (D : va_G) (dA : Nat → ClassId) (bs : Nat) (av : List Value) (rv : Option Value) (σ σ' : HS) : Prop :=
  Met l y (Cond.code y cc maxL ret :: h_ws) (h_rm F L σ) (h_Pc D dA bs σ av) (h_Q D dA bs rv σ σ') (h_cz σ - h_sz σ) (h_ck σ - h_sl σ) (fun q => bs ≤ q)
theorem h_blind {D : va_G} {dA : Nat → ClassId} {bs : Nat} {σ : HS} {av : List Value} : FrameBlind (h_Pc D dA bs σ av) := fun a U g mk q => ⟨q.1, q.2.1, h_K.moved (u := U) (U := U.calling g mk a) (Vm.Alike.refl U.vm) q.2.2.1, q.2.2.2⟩
theorem h_goodIn {y : MethodName} {cc : ByteArray} {maxL : Nat} {ret : Option FieldType} (h : Cond.code y cc maxL ret ∈ h_ws) : GoodIn h_ws (Cond.code y cc maxL ret :: h_ws) := by
  intro w hw
  rcases List.mem_cons.mp hw with e | e
  · rw [e]; exact ⟨h, good_of_word (h_ws_good _ h)⟩
  · exact ⟨e, good_of_word (h_ws_good _ e)⟩
def h_rcv (σ : HS) (r : Option Nat) (t : Nat) : Option Nat := r.bind fun a => if h_tg σ a = t then some a else none
def h_MY (y : MethodName) (n : Nat) : Prop := y.cls ≠ "java/lang/invoke/MethodHandle" ∧ y.cls ≠ "java/lang/invoke/VarHandle" ∧ (parseMethodDescriptor y.desc).map (fun d => d.parameters.length) = some n
/-- the words of a call: by the receiver; static; of a constructor -/
def h_MV (own : String) (idx t : Nat) (y : MethodName) (bytes : ByteArray) (maxL : Nat) (ret : Option FieldType) (n : Nat) : Prop := (∃ (T : u_T) (N : Nat), h_CL t y.cls T N) ∧ h_MY y n ∧ Cond.methodLink own idx y ∈ h_ws ∧ Cond.instanceMethod y ∈ h_ws ∧ Cond.selects y.cls y y ∈ h_ws ∧ Cond.code y bytes maxL ret ∈ h_ws
def h_MS (own : String) (idx : Nat) (y : MethodName) (bytes : ByteArray) (maxL : Nat) (ret : Option FieldType) (n : Nat) : Prop := h_MY y n ∧ Cond.methodLink own idx y ∈ h_ws ∧ Cond.static y ∈ h_ws ∧ Cond.initialized y.cls ∈ h_ws ∧ Cond.code y bytes maxL ret ∈ h_ws
def h_MI (own : String) (idx : Nat) (y : MethodName) (bytes : ByteArray) (maxL : Nat) (n : Nat) : Prop := y.name = "<init>" ∧ h_MY y n ∧ Cond.methodLink own idx y ∈ h_ws ∧ Cond.instanceMethod y ∈ h_ws ∧ Cond.initialized y.cls ∈ h_ws ∧ Cond.code y bytes maxL none ∈ h_ws
/-- what a body knows of its method and its room -/
def h_B (R : Room) (s : State) (meth : Method) (σ : HS) (ret : Option FieldType) (F L : Nat) : Prop := meth.sig.returnType = ret ∧ meth.locks = false ∧ s.heap.size + R.cells = h_cz σ ∧ slotSum s.heap + R.slots = h_ck σ ∧ R.frames = F ∧ R.locals = L
def h_args : Nat → List Value → List (Nat × Value)
  | _, [] => []
  | n, v :: l => (n, v) :: h_args (n + 1) l
section HC
variable {p : Program} {l : Launch} {e : Env} {R : Room} {s : State} {m : MethodId} {args : Array Value} {below : List Frame} {meth : Method} {c : Code} {D : va_G} {dA : Nat → ClassId} {bs nL : Nat} {Q : State → Prop} {cc : ByteArray} {own : String} {σ σ' : HS} {pc : Nat} {lv : List (Nat × Value)} {rest st0 : List Value}
theorem V_run {rv : Option Value} {a : Array Value} (hr : ∀ H locs ls, h_I R s D dA bs nL σ lv H locs ls → slotSum s.heap ≤ slotSum H → va_Run p l e R s m args below meth c H locs (H.size - s.heap.size) (slotSum H - slotSum s.heap) (h_cz σ - h_sz σ) (h_ck σ - h_sl σ) (F0 m pc ls st0) rest (h_Q D dA bs rv σ σ' a) (fun q => bs ≤ q))
    (kk : V p l e R s m args below meth c D dA bs nL Q σ' (pc + 3) lv (rv.toList ++ rest)) : V p l e R s m args below meth c D dA bs nL Q σ pc lv st0 := fun H locs ls I => by
  intro T hT X
  have hge : slotSum s.heap ≤ slotSum H := by rw [← hT]; exact h_sumge X
  obtain ⟨v, st₀, t, T', L, h0, X', hL, e1, e2, ⟨ho, hg', hF', hcz, hck⟩, st⟩ := hr H locs ls I hge T hT X
  cases ho
  rw [← e1] at hg'
  have hz : st₀.heap.size ≤ t.heap.size := hF'.1
  have hk := hF'.2
  rw [h0] at hz hk
  have I' : h_I R s D dA bs nL σ' lv T'.heap (locs ++ L) ls := by
    refine ⟨hg', ⟨Nat.le_trans I.2.1.1 (by rw [e1]; exact hz), fun q h1 h2 => ?_, fun q hq => ?_⟩, I.2.2.1, by rw [hcz]; exact I.2.2.2.1, by rw [hck]; exact I.2.2.2.2.1, I.2.2.2.2.2⟩
    · rw [e1, hk q (Nat.lt_of_lt_of_le h1 I.2.1.1) h2]
      exact I.2.1.2.1 q h1 h2
    · rcases List.mem_append.mp hq with h | h
      · exact I.2.1.2.2 q h
      · exact hL q h
  obtain ⟨t2, a1, b1⟩ := W.tight (kk T'.heap _ ls I') T' rfl X'
  exact ⟨t2, st t2 a1, b1⟩
theorem h_fit {H : Heap} {locs : List Loc} {ls : Array Slot} (I : h_I R s D dA bs nL σ lv H locs ls) (hge : slotSum s.heap ≤ slotSum H) : H.size - s.heap.size + (h_cz σ - h_sz σ) ≤ R.cells ∧ slotSum H - slotSum s.heap + (h_ck σ - h_sl σ) ≤ R.slots := by
  have h1 : H.size = h_sz σ := I.1.1
  have h2 : slotSum H = h_sl σ := I.1.2.1
  have h3 : h_sz σ ≤ h_cz σ := I.1.2.2.1
  have h4 : h_sl σ ≤ h_ck σ := I.1.2.2.2.1
  have h5 : s.heap.size ≤ H.size := I.2.1.1
  have h6 : s.heap.size + R.cells = h_cz σ := I.2.2.2.1
  have h7 : slotSum s.heap + R.slots = h_ck σ := I.2.2.2.2.1
  omega
theorem h_pre {H : Heap} {locs : List Loc} {ls : Array Slot} {av : List Value} (C : h_C p m c cc nL s args own D dA) (I : h_I R s D dA bs nL σ lv H locs ls) : ∀ U : State, U.heap = H → s.WarmedH U.vm → h_Pc D dA bs σ av av.toArray U := by
  intro U hU hW
  refine ⟨rfl, by rw [hU]; exact I.1, h_K.moved hW.alike C.2, ?_⟩
  rw [hU]
  exact Nat.le_trans I.2.2.2.2.2 I.2.1.1
theorem h_rcv_some {r : Option Nat} {t a : Nat} (h : h_rcv σ r t = some a) : r = some a ∧ h_tg σ a = t := by
  obtain ⟨b, h1, h2, h3⟩ := h_rd (f := fun a => a) h
  subst h3
  exact ⟨h1, h2⟩
theorem V_cV (C : h_C p m c cc nL s args own D dA) {idx t maxL n F L a : Nat} {y : MethodName} {bytes : ByteArray} {ret : Option FieldType} {rv : Option Value} {As : List Value} {r : Option Nat} (ml : h_MV own idx t y bytes maxL ret n) (hM : MetC l y bytes maxL ret F L D dA bs (va_rf r :: As) rv σ σ') (hr : h_rcv σ r t = some a) (hn : As.length = n) (hst : st0 = As.reverse ++ va_rf r :: rest) (hW : (rest.map fun v => v.category).sum ≤ 8) (hF : F + 1 ≤ R.frames) (hL : 8 + (maxL + 11) + L ≤ R.locals) (d : decode cc pc = .ok (.invokevirtual idx, 3))
    (kk : V p l e R s m args below meth c D dA bs nL Q σ' (pc + 3) lv (rv.toList ++ rest)) : V p l e R s m args below meth c D dA bs nL Q σ pc lv st0 := by
  obtain ⟨⟨T, N, hc⟩, hy, w1, w2, w3, w4⟩ := ml
  obtain ⟨rfl, hta⟩ := h_rcv_some hr
  have hts := C.1.2.2.2.2
  refine V_run (a := (Value.ref a :: As).toArray) (fun H locs ls I hge => ?_) kk
  refine va_runV (C := y.cls) (bytes := bytes) (maxL := maxL) (ret := ret) (n := n) (b := a) C.1 hM ⟨callB_of n hts (h_goodIn w4) rfl rfl rfl (hts _ hc.2.2.2.2.2.1) (hts _ w1) hy ⟨hF, hL⟩, hts _ w2, hts _ w3⟩ ⟨h_blind, ?_, h_pre C I⟩ rfl hn I.2.2.1.1.1 hst (lv_room hW) d (h_fit I hge)
  exact va_recv C.2.1 (h_ob I.1 hc hta) hc.2.2.1 (q0 := 0) rfl
theorem V_cS (C : h_C p m c cc nL s args own D dA) {idx maxL n F L : Nat} {y : MethodName} {bytes : ByteArray} {ret : Option FieldType} {rv : Option Value} {As : List Value} (ml : h_MS own idx y bytes maxL ret n) (hM : MetC l y bytes maxL ret F L D dA bs As rv σ σ') (hn : As.length = n) (hst : st0 = As.reverse ++ rest) (hW : (rest.map fun v => v.category).sum ≤ 8) (hF : F + 1 ≤ R.frames) (hL : 8 + (maxL + 11) + L ≤ R.locals) (d : decode cc pc = .ok (.invokestatic idx, 3))
    (kk : V p l e R s m args below meth c D dA bs nL Q σ' (pc + 3) lv (rv.toList ++ rest)) : V p l e R s m args below meth c D dA bs nL Q σ pc lv st0 := by
  obtain ⟨hy, w1, w2, w3, w4⟩ := ml
  have hts := C.1.2.2.2.2
  refine V_run (a := As.toArray) (fun H locs ls I hge => ?_) kk
  exact va_runS (bytes := bytes) (maxL := maxL) (ret := ret) (n := n) C.1 hM ⟨callB_of n hts (h_goodIn w4) rfl rfl rfl (hts _ w3) (hts _ w1) hy ⟨hF, hL⟩, hts _ w2⟩ ⟨h_blind, h_pre C I⟩ rfl hn I.2.2.1.1.1 hst (lv_room hW) d (h_fit I hge)
theorem V_cI (C : h_C p m c cc nL s args own D dA) {idx t maxL n F L a : Nat} {y : MethodName} {bytes : ByteArray} {As : List Value} {r : Option Nat} (ml : h_MI own idx y bytes maxL n) (hM : MetC l y bytes maxL none F L D dA bs (va_rf r :: As) none σ σ') (hr : h_rcv σ r t = some a) (hn : As.length = n) (hst : st0 = As.reverse ++ va_rf r :: rest) (hW : (rest.map fun v => v.category).sum ≤ 8) (hF : F + 1 ≤ R.frames) (hL : 8 + (maxL + 11) + L ≤ R.locals) (d : decode cc pc = .ok (.invokespecial idx, 3))
    (kk : V p l e R s m args below meth c D dA bs nL Q σ' (pc + 3) lv rest) : V p l e R s m args below meth c D dA bs nL Q σ pc lv st0 := by
  obtain ⟨hy1, hy, w1, w2, w3, w4⟩ := ml
  obtain ⟨rfl, hta⟩ := h_rcv_some hr
  have hts := C.1.2.2.2.2
  refine V_run (rv := none) (a := (Value.ref a :: As).toArray) (fun H locs ls I hge => ?_) kk
  exact va_runI (bytes := bytes) (maxL := maxL) (n := n) (b := a) C.1 hM ⟨callB_of n hts (h_goodIn w4) rfl rfl rfl (hts _ w3) (hts _ w1) hy ⟨hF, hL⟩, hy1, hts _ w2⟩ ⟨h_blind, h_pre C I⟩ rfl hn I.2.2.1.1.1 hst (lv_room hW) d (h_fit I hge)
-- returns
theorem h_end {σ0 : HS} {rv : Option Value} {ret : Option FieldType} {F L : Nat} {H : Heap} {locs : List Loc} {ls : Array Slot} (B : h_B R s meth σ0 ret F L) (I : h_I R s D dA bs nL σ lv H locs ls) : ∀ t : State, t.heap = H → s.WarmedH t.vm → h_Q D dA bs rv σ0 σ args s (.returned rv) t := by
  intro t ht hW
  exact ⟨rfl, by rw [ht]; exact I.1, I.2.1.F ht, by rw [← I.2.2.2.1, ← B.2.2.1], by rw [← I.2.2.2.2.1, ← B.2.2.2.1]⟩
theorem h_wid {H : Heap} {locs : List Loc} {ls : Array Slot} (I : h_I R s D dA bs nL σ lv H locs ls) : H.size - s.heap.size ≤ R.cells ∧ slotSum H - slotSum s.heap ≤ R.slots := by
  have h1 : H.size = h_sz σ := I.1.1
  have h2 : slotSum H = h_sl σ := I.1.2.1
  have h3 : h_sz σ ≤ h_cz σ := I.1.2.2.1
  have h4 : h_sl σ ≤ h_ck σ := I.1.2.2.2.1
  have h6 : s.heap.size + R.cells = h_cz σ := I.2.2.2.1
  have h7 : slotSum s.heap + R.slots = h_ck σ := I.2.2.2.2.1
  omega
theorem V_iret (C : h_C p m c cc nL s args own D dA) {σ0 : HS} {F L : Nat} {v : Int32} (B : h_B R s meth σ0 (some .int) F L) (d : decode cc pc = .ok (.ireturn, 1)) : V p l e R s m args below meth c D dA bs nL (MQ below (h_Q D dA bs (some (.int v)) σ0 σ) args s R.cells R.slots (fun q => bs ≤ q)) σ pc lv [.int v] := fun H locs ls I =>
  W.widen (h_wid I).1 (h_wid I).2 (W.iret C.1.1 C.1.2.1 B.1 (h_end B I) I.2.1.2.2 d B.2.1)
theorem V_zret (C : h_C p m c cc nL s args own D dA) {σ0 : HS} {F L : Nat} {v : Int32} (B : h_B R s meth σ0 (some .boolean) F L) (d : decode cc pc = .ok (.ireturn, 1)) (hv : v = 0 ∨ v = 1) : V p l e R s m args below meth c D dA bs nL (MQ below (h_Q D dA bs (some (.int v)) σ0 σ) args s R.cells R.slots (fun q => bs ≤ q)) σ pc lv [.int v] := fun H locs ls I =>
  W.widen (h_wid I).1 (h_wid I).2 (W.zret C.1.1 C.1.2.1 B.1 (by rcases hv with rfl | rfl <;> rfl) (h_end B I) I.2.1.2.2 d B.2.1)
theorem V_vret (C : h_C p m c cc nL s args own D dA) {σ0 : HS} {F L : Nat} (B : h_B R s meth σ0 none F L) (d : decode cc pc = .ok (.return_, 1)) : V p l e R s m args below meth c D dA bs nL (MQ below (h_Q D dA bs none σ0 σ) args s R.cells R.slots (fun q => bs ≤ q)) σ pc lv [] := fun H locs ls I =>
  W.widen (h_wid I).1 (h_wid I).2 (W.vret C.1.1 C.1.2.1 B.1 (h_end B I) I.2.1.2.2 d B.2.1)
theorem V_aret (C : h_C p m c cc nL s args own D dA) {σ0 : HS} {F L : Nat} {v : Option Nat} {Cn : String} (B : h_B R s meth σ0 (some (.object Cn)) F L) (d : decode cc pc = .ok (.areturn, 1)) : V p l e R s m args below meth c D dA bs nL (MQ below (h_Q D dA bs (some (va_rf v)) σ0 σ) args s R.cells R.slots (fun q => bs ≤ q)) σ pc lv [va_rf v] := fun H locs ls I =>
  W.widen (h_wid I).1 (h_wid I).2 (W.aret C.1.1 C.1.2.1 B.1 (Or.inl ⟨_, rfl⟩) (va_rf_or v) (h_end B I) I.2.1.2.2 d B.2.1)
end HC
theorem h_args_eq : ∀ (vs : List Value) (n : Nat), (∀ v ∈ vs, v.category = 1) → lv_args n vs = h_args n vs
  | [], n, _ => rfl
  | v :: vs, n, h => by
    have hv := h v List.mem_cons_self
    have ih := h_args_eq vs (n + 1) (fun w hw => h w (List.mem_cons_of_mem _ hw))
    simp only [lv_args, h_args, hv]
    first | exact congrArg _ ih | simpa using ih
theorem h_args_c1 : ∀ (vs : List Value) (n : Nat), (∀ v ∈ vs, v.category = 1) → h_c1 (h_args n vs)
  | [], n, _ => fun q hq => by cases hq
  | v :: vs, n, h => by
    intro q hq
    rcases List.mem_cons.mp hq with e | e
    · rw [e]; exact h v List.mem_cons_self
    · exact h_args_c1 vs (n + 1) (fun w hw => h w (List.mem_cons_of_mem _ hw)) q e
theorem h_sl_len : ∀ (vs : List Value), (∀ v ∈ vs, v.category = 1) → (lg_sl vs).length = vs.length
  | [], _ => rfl
  | v :: vs, h => by
    have hv := h v List.mem_cons_self
    have ih := h_sl_len vs (fun w hw => h w (List.mem_cons_of_mem _ hw))
    have e : lg_sl (v :: vs) = .val v :: lg_sl vs := by
      simp [lg_sl, hv]
    rw [e, List.length_cons, ih, List.length_cons]
theorem MetC.of {l : Launch} {y : MethodName} {cc : ByteArray} {maxL : Nat} {ret : Option FieldType} {F L : Nat} {D : va_G} {dA : Nat → ClassId} {bs : Nat} {av : List Value} {rv : Option Value} {σ σ' : HS} (hy : plainName y.cls = true) (hav : ∀ v ∈ av, v.category = 1) (hlen : av.length ≤ maxL)
    (body : ∀ (p : Program) (e : Env) (R : Room) (s : State) (m : MethodId) (args : Array Value) (below : List Frame) (meth : Method) (c : Code), h_C p m c cc maxL s args y.cls D dA → h_B R s meth σ ret F L → meth.name = y.name →
      V p l e R s m args below meth c D dA bs maxL (MQ below (h_Q D dA bs rv σ σ') args s R.cells R.slots (fun q => bs ≤ q)) σ 0 (h_args 0 av) []) : MetC l y cc maxL ret F L D dA bs av rv σ σ' := by
  refine Met.ofW (cc := cc) (maxL := maxL) (ret := ret) hy rfl ?_
  intro p e s m args below meth c s₁ B hml hv
  obtain ⟨rfl, hg, hK, hb⟩ := hv
  have hts := atoms_spec (ws := Cond.code y cc maxL ret :: h_ws) B.pre
  have hown : s.vm.findClass y.cls = some m.cls := findClass_of_methodNamed B.named
  have hz : s.heap.size = h_sz σ := hg.1
  have hs : slotSum s.heap = h_sl σ := hg.2.1
  have h3 : h_sz σ ≤ h_cz σ := hg.2.2.1
  have h4 : h_sl σ ≤ h_ck σ := hg.2.2.2.1
  have hl := lv_entry av (n := maxL) (by rw [h_sl_len av hav]; exact hlen)
  rw [lg_entry_eq]
  generalize (lg_sl av ++ List.replicate (maxL - (lg_sl av).length) Slot.unset).toArray = ls at hl ⊢
  have c1 : s.heap.size + (headSpec (Cond.code y cc maxL ret :: h_ws) (h_rm F L σ)).room.cells = h_cz σ := by
    show s.heap.size + (h_cz σ - h_sz σ) = h_cz σ
    omega
  have c2 : slotSum s.heap + (headSpec (Cond.code y cc maxL ret :: h_ws) (h_rm F L σ)).room.slots = h_ck σ := by
    show slotSum s.heap + (h_ck σ - h_sl σ) = h_ck σ
    omega
  have hV := body p e (headSpec (Cond.code y cc maxL ret :: h_ws) (h_rm F L σ)).room s m av.toArray below meth c ⟨⟨B.exec, B.bytes, hml, hown, fun w hw => hts w (List.mem_cons_of_mem _ hw)⟩, hK⟩ ⟨B.returns, B.notSynchronized, c1, c2, rfl, rfl⟩ (name_of_methodNamed B.named B.method).1
  refine W.tight (hV s.heap [] ls ⟨hg, va_S.rf, ⟨by rw [← h_args_eq av 0 hav]; exact hl, h_args_c1 av 0 hav⟩, c1, c2, hb⟩)
end
