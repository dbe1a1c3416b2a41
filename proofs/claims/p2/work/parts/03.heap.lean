/-! THE HEAP AS FUNCTIONS. A state σ of the part of the heap that the law makes: tag, length, ints, references, longs by address; number of cells, number of slots, the two bounds. -/
abbrev HS : Type := (Nat → Nat) × (Nat → Nat) × (Nat → Nat → Int32) × (Nat → Nat → Option Nat) × (Nat → Nat → Int64) × Nat × Nat × Nat × Nat
def h_tg (σ : HS) : Nat → Nat := σ.1
def h_ln (σ : HS) : Nat → Nat := σ.2.1
def h_iv (σ : HS) : Nat → Nat → Int32 := σ.2.2.1
def h_rv (σ : HS) : Nat → Nat → Option Nat := σ.2.2.2.1
def h_lv (σ : HS) : Nat → Nat → Int64 := σ.2.2.2.2.1
def h_sz (σ : HS) : Nat := σ.2.2.2.2.2.1
def h_sl (σ : HS) : Nat := σ.2.2.2.2.2.2.1
def h_cz (σ : HS) : Nat := σ.2.2.2.2.2.2.2.1
def h_ck (σ : HS) : Nat := σ.2.2.2.2.2.2.2.2
def h_up2 {α : Type} (f : Nat → Nat → α) (a k : Nat) (v : α) : Nat → Nat → α := fun b j => if b = a ∧ j = k then v else f b j
def h_upA {α : Type} (f : Nat → Nat → α) (a : Nat) (g : Nat → α) : Nat → Nat → α := fun b j => if b = a then g j else f b j
def h_setI (σ : HS) (a k : Nat) (v : Int32) : HS := (σ.1, σ.2.1, h_up2 σ.2.2.1 a k v, σ.2.2.2)
def h_setR (σ : HS) (a k : Nat) (v : Option Nat) : HS := (σ.1, σ.2.1, σ.2.2.1, h_up2 σ.2.2.2.1 a k v, σ.2.2.2.2)
def h_setL (σ : HS) (a k : Nat) (v : Int64) : HS := (σ.1, σ.2.1, σ.2.2.1, σ.2.2.2.1, h_up2 σ.2.2.2.2.1 a k v, σ.2.2.2.2.2)
def h_setA (σ : HS) (a : Nat) (g : Nat → Int32) : HS := (σ.1, σ.2.1, h_upA σ.2.2.1 a g, σ.2.2.2)
/-- a new cell: tag t, length n, k slots -/
def h_push (σ : HS) (t n k : Nat) : HS := (va_up σ.1 (h_sz σ) t, va_up σ.2.1 (h_sz σ) n, h_upA σ.2.2.1 (h_sz σ) (fun _ => 0), h_upA σ.2.2.2.1 (h_sz σ) (fun _ => none), h_upA σ.2.2.2.2.1 (h_sz σ) (fun _ => 0), h_sz σ + 1, h_sl σ + k, h_cz σ, h_ck σ)
def h_bump (σ : HS) (z k : Nat) : HS := (σ.1, σ.2.1, σ.2.2.1, σ.2.2.2.1, σ.2.2.2.2.1, z, k, σ.2.2.2.2.2.2.2)
-- reads, writes, allocation: none where the machine itself would throw (or the room is out)
def h_gI (σ : HS) (r : Option Nat) (t k : Nat) : Option Int32 := r.bind fun a => if h_tg σ a = t then some (h_iv σ a k) else none
def h_gR (σ : HS) (r : Option Nat) (t k : Nat) : Option (Option Nat) := r.bind fun a => if h_tg σ a = t then some (h_rv σ a k) else none
def h_gL (σ : HS) (r : Option Nat) (t k : Nat) : Option Int64 := r.bind fun a => if h_tg σ a = t then some (h_lv σ a k) else none
def h_pI (σ : HS) (r : Option Nat) (t k : Nat) (v : Int32) : Option HS := r.bind fun a => if h_tg σ a = t then some (h_setI σ a k v) else none
def h_pR (σ : HS) (r : Option Nat) (t k : Nat) (v : Option Nat) : Option HS := r.bind fun a => if h_tg σ a = t then some (h_setR σ a k v) else none
def h_pL (σ : HS) (r : Option Nat) (t k : Nat) (v : Int64) : Option HS := r.bind fun a => if h_tg σ a = t then some (h_setL σ a k v) else none
def h_ok (σ : HS) (a t : Nat) (i : Int32) : Bool := decide (h_tg σ a = t) && !(decide (i < 0) || decide (h_ln σ a ≤ i.toNatClampNeg))
def h_aI (σ : HS) (r : Option Nat) (t : Nat) (i : Int32) : Option Int32 := r.bind fun a => if h_ok σ a t i = true then some (h_iv σ a i.toNatClampNeg) else none
def h_aR (σ : HS) (r : Option Nat) (t : Nat) (i : Int32) : Option (Option Nat) := r.bind fun a => if h_ok σ a t i = true then some (h_rv σ a i.toNatClampNeg) else none
def h_aL (σ : HS) (r : Option Nat) (t : Nat) (i : Int32) : Option Int64 := r.bind fun a => if h_ok σ a t i = true then some (h_lv σ a i.toNatClampNeg) else none
def h_sI (σ : HS) (r : Option Nat) (t : Nat) (i : Int32) (v : Int32) : Option HS := r.bind fun a => if h_ok σ a t i = true then some (h_setI σ a i.toNatClampNeg v) else none
def h_sL (σ : HS) (r : Option Nat) (t : Nat) (i : Int32) (v : Int64) : Option HS := r.bind fun a => if h_ok σ a t i = true then some (h_setL σ a i.toNatClampNeg v) else none
/-- into an array of references to objects of the tag u -/
def h_fitR (σ : HS) (u : Nat) (v : Option Nat) : Bool := match v with
  | none => true
  | some b => decide (h_tg σ b = u)
def h_sR (σ : HS) (r : Option Nat) (t u : Nat) (i : Int32) (v : Option Nat) : Option HS := r.bind fun a => if (h_ok σ a t i && h_fitR σ u v) = true then some (h_setR σ a i.toNatClampNeg v) else none
def h_len (σ : HS) (r : Option Nat) (t : Nat) : Option Int32 := r.bind fun a => if h_tg σ a = t then some (Int32.ofNat (h_ln σ a)) else none
/-- a new object of n fields; a new array of n places -/
def h_mk (σ : HS) (t n : Nat) : Option (Option Nat × HS) := if h_sz σ + 1 ≤ h_cz σ ∧ h_sl σ + n ≤ h_ck σ then some (some (h_sz σ), h_push σ t 0 n) else none
def h_mkA (σ : HS) (t : Nat) (n : Int32) : Option (Option Nat × HS) := if ¬ n < 0 ∧ n.toNatClampNeg ≤ 60000000 ∧ h_sz σ + 1 ≤ h_cz σ ∧ h_sl σ + n.toNatClampNeg ≤ h_ck σ then some (some (h_sz σ), h_push σ t n.toNatClampNeg n.toNatClampNeg) else none
def h_cpI (σ : HS) (rs : Option Nat) (sp : Int32) (rd : Option Nat) (dp n : Int32) : Option HS := rs.bind fun a => rd.bind fun b =>
  if h_tg σ a = 100 ∧ h_tg σ b = 100 ∧ ¬ sp < 0 ∧ ¬ dp < 0 ∧ ¬ n < 0 ∧ sp.toNatClampNeg + n.toNatClampNeg ≤ h_ln σ a ∧ dp.toNatClampNeg + n.toNatClampNeg ≤ h_ln σ b then some (h_setA σ b (va_cpy (h_iv σ a) (h_iv σ b) sp.toNatClampNeg dp.toNatClampNeg n.toNatClampNeg)) else none
def h_bd {α β : Type} (o : Option (α × HS)) (k : α → HS → Option β) : Option β := match o with
  | none => none
  | some q => k q.1 q.2
def h_b1 {α β : Type} (o : Option α) (k : α → Option β) : Option β := match o with
  | none => none
  | some q => k q
theorem h_bd_some {α β : Type} {o : Option (α × HS)} {k : α → HS → Option β} {z : β} (h : h_bd o k = some z) : ∃ r σ', o = some (r, σ') ∧ k r σ' = some z := by
  cases o with
  | none => cases h
  | some q => exact ⟨q.1, q.2, rfl, h⟩
theorem h_b1_some {α β : Type} {o : Option α} {k : α → Option β} {z : β} (h : h_b1 o k = some z) : ∃ r, o = some r ∧ k r = some z := by
  cases o with
  | none => cases h
  | some q => exact ⟨q, rfl, h⟩
def h_hN : Nat := 2000
def h_ushr (x y : Int32) : Int32 := (x.toUInt32 >>> (y.toUInt32 &&& Int32.toUInt32 31)).toInt32
