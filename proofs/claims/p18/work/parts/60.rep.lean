/-! from 60.rep -/
section
/-! THE TWO SIDES HELD TOGETHER: what the heap of the one says of the numbers of the other -/
/-- the cell a is the same in both -/
def Sm (σ σ' : HS) (a : Nat) : Prop := h_tg σ' a = h_tg σ a ∧ h_ln σ' a = h_ln σ a ∧ (∀ k, h_iv σ' a k = h_iv σ a k) ∧ (∀ k, h_rv σ' a k = h_rv σ a k) ∧ ∀ k, h_lv σ' a k = h_lv σ a k
theorem Sm.rf {σ : HS} {a : Nat} : Sm σ σ a := ⟨rfl, rfl, fun _ => rfl, fun _ => rfl, fun _ => rfl⟩
theorem Sm.tr {σ σ1 σ2 : HS} {a : Nat} (h : Sm σ σ1 a) (h' : Sm σ1 σ2 a) : Sm σ σ2 a := ⟨h'.1.trans h.1, h'.2.1.trans h.2.1, fun k => (h'.2.2.1 k).trans (h.2.2.1 k), fun k => (h'.2.2.2.1 k).trans (h.2.2.2.1 k), fun k => (h'.2.2.2.2 k).trans (h.2.2.2.2 k)⟩
theorem up2_ne {α : Type} {f : Nat → Nat → α} {a k b j : Nat} {v : α} (h : b ≠ a) : h_up2 f a k v b j = f b j := if_neg (fun z => h z.1)
theorem up2_nk {α : Type} {f : Nat → Nat → α} {a k b j : Nat} {v : α} (h : j ≠ k) : h_up2 f a k v b j = f b j := if_neg (fun z => h z.2)
theorem up2_eq {α : Type} {f : Nat → Nat → α} {a k : Nat} {v : α} : h_up2 f a k v a k = v := if_pos ⟨rfl, rfl⟩
theorem upA_ne {α : Type} {f : Nat → Nat → α} {a b j : Nat} {g : Nat → α} (h : b ≠ a) : h_upA f a g b j = f b j := if_neg h
theorem Sm_I {σ : HS} {a k b : Nat} {v : Int32} (h : b ≠ a) : Sm σ (h_setI σ a k v) b := ⟨rfl, rfl, fun _ => up2_ne h, fun _ => rfl, fun _ => rfl⟩
theorem Sm_R {σ : HS} {a k b : Nat} {v : Option Nat} (h : b ≠ a) : Sm σ (h_setR σ a k v) b := ⟨rfl, rfl, fun _ => rfl, fun _ => up2_ne h, fun _ => rfl⟩
theorem Sm_L {σ : HS} {a k b : Nat} {v : Int64} (h : b ≠ a) : Sm σ (h_setL σ a k v) b := ⟨rfl, rfl, fun _ => rfl, fun _ => rfl, fun _ => up2_ne h⟩
theorem Sm_A {σ : HS} {a b : Nat} {g : Nat → Int32} (h : b ≠ a) : Sm σ (h_setA σ a g) b := ⟨rfl, rfl, fun _ => upA_ne h, fun _ => rfl, fun _ => rfl⟩
theorem Sm_P {σ : HS} {t n k b : Nat} (h : b ≠ h_sz σ) : Sm σ (h_push σ t n k) b := ⟨va_up_ne _ _ h, va_up_ne _ _ h, fun _ => upA_ne (f := h_iv σ) (g := fun _ => 0) h, fun _ => upA_ne (f := h_rv σ) (g := fun _ => none) h, fun _ => upA_ne (f := h_lv σ) (g := fun _ => 0) h⟩
theorem Sm_B {σ : HS} {z w b : Nat} : Sm σ (h_bump σ z w) b := ⟨rfl, rfl, fun _ => rfl, fun _ => rfl, fun _ => rfl⟩
theorem Sm_MF {σ σ' : HS} {m : Nat} {A : Nat → Nat} (F : MF σ σ' m A) {b : Nat} (h1 : b ≠ m) (h2 : ∀ k, k_tag k ≠ 0 → b ≠ A k) : Sm σ σ' b := by
  obtain ⟨f1, f2, f3, -, -, -, -, f8⟩ := F
  exact ⟨by rw [f1], by rw [f2], fun k => (f8 b h1 h2 k).1, fun k => by rw [f3], fun k => (f8 b h1 h2 k).2⟩
-- reads behind writes
theorem iv_sI {σ : HS} {a k : Nat} {v : Int32} : h_iv (h_setI σ a k v) a k = v := up2_eq
theorem iv_sIk {σ : HS} {a k j : Nat} {v : Int32} (h : j ≠ k) : h_iv (h_setI σ a k v) a j = h_iv σ a j := up2_nk h
theorem rv_sR {σ : HS} {a k : Nat} {v : Option Nat} : h_rv (h_setR σ a k v) a k = v := up2_eq
theorem rv_sRk {σ : HS} {a k j : Nat} {v : Option Nat} (h : j ≠ k) : h_rv (h_setR σ a k v) a j = h_rv σ a j := up2_nk h
theorem lv_sL {σ : HS} {a k : Nat} {v : Int64} : h_lv (h_setL σ a k v) a k = v := up2_eq
theorem lv_sLk {σ : HS} {a k j : Nat} {v : Int64} (h : j ≠ k) : h_lv (h_setL σ a k v) a j = h_lv σ a j := up2_nk h
/-- the shape that never changes -/
def Fx (σ : HS) (x : Nat) : Prop := h_tg σ x = 10 ∧ (h_rv σ x 0 = some (x + 1) ∧ h_rv σ x 1 = some (x + 7) ∧ h_rv σ x 2 = some (x + 8) ∧ h_rv σ x 3 = some (x + 9) ∧ h_rv σ x 4 = some (x + 10) ∧ h_rv σ x 5 = some (x + 12) ∧ h_rv σ x 6 = some (x + 13) ∧ h_rv σ x 7 = some (x + 14)) ∧
  (h_tg σ (x + 1) = 9 ∧ h_rv σ (x + 1) 0 = some (x + 2)) ∧ (h_tg σ (x + 2) = 107 ∧ h_ln σ (x + 2) = 8) ∧ (h_tg σ (x + 7) = 108 ∧ h_ln σ (x + 7) = 8) ∧ (h_tg σ (x + 8) = 100 ∧ h_ln σ (x + 8) = 16) ∧ (h_tg σ (x + 9) = 100 ∧ h_ln σ (x + 9) = 16) ∧
  (h_tg σ (x + 10) = 6 ∧ h_rv σ (x + 10) 0 = some (x + 11)) ∧ (h_tg σ (x + 11) = 100 ∧ h_ln σ (x + 11) = 1600) ∧ (h_tg σ (x + 12) = 100 ∧ h_ln σ (x + 12) = 8) ∧ (h_tg σ (x + 13) = 100 ∧ h_ln σ (x + 13) = 6) ∧ (h_tg σ (x + 14) = 105 ∧ h_ln σ (x + 14) = 200)
/-- tags, lengths and the references of the three objects are the same -/
def Fs (σ σ' : HS) (x : Nat) : Prop := (∀ b, b ≤ x + 14 → h_tg σ' b = h_tg σ b ∧ h_ln σ' b = h_ln σ b) ∧ (∀ k, h_rv σ' x k = h_rv σ x k) ∧ (∀ k, h_rv σ' (x + 1) k = h_rv σ (x + 1) k) ∧ ∀ k, h_rv σ' (x + 10) k = h_rv σ (x + 10) k
theorem Fx.to {σ σ' : HS} {x : Nat} (F : Fx σ x) (h : Fs σ σ' x) : Fx σ' x := by
  obtain ⟨h1, h2, h3, h4⟩ := h
  unfold Fx at *
  rw [(h1 x (by omega)).1, (h1 (x + 1) (by omega)).1, (h1 (x + 2) (by omega)).1, (h1 (x + 2) (by omega)).2, (h1 (x + 7) (by omega)).1, (h1 (x + 7) (by omega)).2, (h1 (x + 8) (by omega)).1, (h1 (x + 8) (by omega)).2, (h1 (x + 9) (by omega)).1, (h1 (x + 9) (by omega)).2, (h1 (x + 10) (by omega)).1, (h1 (x + 11) (by omega)).1, (h1 (x + 11) (by omega)).2, (h1 (x + 12) (by omega)).1, (h1 (x + 12) (by omega)).2, (h1 (x + 13) (by omega)).1, (h1 (x + 13) (by omega)).2, (h1 (x + 14) (by omega)).1, (h1 (x + 14) (by omega)).2, h2, h2, h2, h2, h2, h2, h2, h2, h3, h4]
  exact F
theorem Fs_I {σ : HS} {x a k : Nat} {v : Int32} : Fs σ (h_setI σ a k v) x := ⟨fun _ _ => ⟨rfl, rfl⟩, fun _ => rfl, fun _ => rfl, fun _ => rfl⟩
theorem Fs_L {σ : HS} {x a k : Nat} {v : Int64} : Fs σ (h_setL σ a k v) x := ⟨fun _ _ => ⟨rfl, rfl⟩, fun _ => rfl, fun _ => rfl, fun _ => rfl⟩
theorem Fs_A {σ : HS} {x a : Nat} {g : Nat → Int32} : Fs σ (h_setA σ a g) x := ⟨fun _ _ => ⟨rfl, rfl⟩, fun _ => rfl, fun _ => rfl, fun _ => rfl⟩
theorem Fs_B {σ : HS} {x z w : Nat} : Fs σ (h_bump σ z w) x := ⟨fun _ _ => ⟨rfl, rfl⟩, fun _ => rfl, fun _ => rfl, fun _ => rfl⟩
theorem Fs_R {σ : HS} {x a k : Nat} {v : Option Nat} (h0 : a ≠ x) (h1 : a ≠ x + 1) (h2 : a ≠ x + 10) : Fs σ (h_setR σ a k v) x := ⟨fun _ _ => ⟨rfl, rfl⟩, fun j => (Sm_R (Ne.symm h0)).2.2.2.1 j, fun j => (Sm_R (Ne.symm h1)).2.2.2.1 j, fun j => (Sm_R (Ne.symm h2)).2.2.2.1 j⟩
theorem Fs_P {σ : HS} {x t n k : Nat} (h : x + 14 < h_sz σ) : Fs σ (h_push σ t n k) x := ⟨fun b hb => ⟨(Sm_P (by omega)).1, (Sm_P (by omega)).2.1⟩, fun j => (Sm_P (by omega)).2.2.2.1 j, fun j => (Sm_P (by omega)).2.2.2.1 j, fun j => (Sm_P (by omega)).2.2.2.1 j⟩
theorem Fs.tr {σ σ1 σ2 : HS} {x : Nat} (h : Fs σ σ1 x) (h' : Fs σ1 σ2 x) : Fs σ σ2 x := ⟨fun b hb => ⟨((h'.1 b hb).1).trans (h.1 b hb).1, ((h'.1 b hb).2).trans (h.1 b hb).2⟩, fun k => (h'.2.1 k).trans (h.2.1 k), fun k => (h'.2.2.1 k).trans (h.2.2.1 k), fun k => (h'.2.2.2 k).trans (h.2.2.2 k)⟩
/-- the plain ints -/
def Nx (σ : HS) (x : Nat) (ms : MS) : Prop := h_iv σ x 8 = ms.1 28 ∧ h_iv σ x 9 = ms.1 1 ∧ h_iv σ x 10 = ms.1 2 ∧ h_iv σ x 11 = ms.1 39 ∧ h_iv σ x 12 = ms.1 40 ∧ h_iv σ x 13 = ms.1 41
theorem Nx.to {σ σ' : HS} {x : Nat} {ms ms' : MS} (N : Nx σ x ms) (h : Sm σ σ' x) (e1 : ms'.1 1 = ms.1 1) (e2 : ms'.1 2 = ms.1 2) (e3 : ms'.1 28 = ms.1 28) (e4 : ms'.1 39 = ms.1 39) (e5 : ms'.1 40 = ms.1 40) (e6 : ms'.1 41 = ms.1 41) : Nx σ' x ms' := by
  unfold Nx at *
  rw [h.2.2.1, h.2.2.1, h.2.2.1, h.2.2.1, h.2.2.1, h.2.2.1, e1, e2, e3, e4, e5, e6]
  exact N
/-- the row: a ring on the one side -/
def ring (f q : Nat) : Nat := (f + q) % 200
def cel (σ : HS) (x f q j : Nat) : Int32 := h_iv σ (x + 11) (8 * ring f q + j)
/-- fields that are held loosely: those of DATA behind the third -/
def loose (fx : Bool) (kd : Int32) (j : Nat) : Prop := fx = false ∧ kd = 3 ∧ 3 ≤ j ∧ j ≤ 5
def Rx (fx : Bool) (σ : HS) (x : Nat) (ms : MS) : Prop := ∃ f n, f < 200 ∧ n ≤ 200 ∧ h_iv σ (x + 10) 1 = nI f ∧ h_iv σ (x + 10) 2 = nI n ∧ ms.1 36 = nI n ∧ h_iv σ (x + 10) 3 = ms.1 42 ∧ ∀ q j, q < n → j < 8 → loose fx (ms.2.1 37 (8 * q + 6)) j ∨ cel σ x f q j = ms.2.1 37 (8 * q + j)
theorem Rx.to {fx : Bool} {σ σ' : HS} {x : Nat} {ms ms' : MS} (R : Rx fx σ x ms) (h1 : Sm σ σ' (x + 10)) (h2 : Sm σ σ' (x + 11)) (e1 : ms'.1 36 = ms.1 36) (e2 : ms'.1 42 = ms.1 42) (e3 : ∀ j, ms'.2.1 37 j = ms.2.1 37 j) : Rx fx σ' x ms' := by
  obtain ⟨f, n, a1, a2, a3, a4, a5, a6, a7⟩ := R
  refine ⟨f, n, a1, a2, by rw [h1.2.2.1]; exact a3, by rw [h1.2.2.1]; exact a4, by rw [e1]; exact a5, by rw [h1.2.2.1, e2]; exact a6, fun q j hq hj => ?_⟩
  unfold cel
  rw [h2.2.2.1, e3, e3]
  exact a7 q j hq hj
/-- who went away from a place last -/
def Wx (σ : HS) (x : Nat) (ms : MS) : Prop := ∀ p, p < 16 → h_iv σ (x + 8) p = ms.2.1 26 p ∧ (¬ ms.2.1 26 p = -1 → ∃ t tn, h_iv σ (x + 9) p = nI t ∧ ms.2.1 27 p = nI (t + 30) ∧ ms.1 1 = nI tn ∧ t ≤ tn ∧ tn ≤ 1000000)
theorem Wx.to {σ σ' : HS} {x : Nat} {ms ms' : MS} (W : Wx σ x ms) (h1 : Sm σ σ' (x + 8)) (h2 : Sm σ σ' (x + 9)) (e1 : ms'.1 1 = ms.1 1) (e2 : ∀ j, ms'.2.1 26 j = ms.2.1 26 j) (e3 : ∀ j, ms'.2.1 27 j = ms.2.1 27 j) : Wx σ' x ms' := by
  intro p hp
  rw [h1.2.2.1, h2.2.2.1, e1, e2, e3]
  exact W p hp
/-- packets -/
def Kx (σ : HS) (x : Nat) (G : Nat → Nat → Nat) (ms : MS) : Prop := ∃ np, np ≤ 200 ∧ ms.1 28 = nI np ∧ (∀ i j, i < np → j < np → G 7 i = G 7 j → i = j) ∧ ∀ i, i < np → h_rv σ (x + 14) i = some (G 7 i) ∧ h_tg σ (G 7 i) = 4 ∧ h_iv σ (G 7 i) 0 = nI (i + 1) ∧ h_iv σ (G 7 i) 1 = ms.2.1 29 (i + 1) ∧ h_iv σ (G 7 i) 2 = ms.2.1 30 (i + 1) ∧ h_iv σ (G 7 i) 3 = ms.2.1 31 (i + 1) ∧ h_iv σ (G 7 i) 4 = ms.2.1 32 (i + 1) ∧ h_iv σ (G 7 i) 5 = ms.2.1 33 (i + 1) ∧ h_iv σ (G 7 i) 6 = ms.2.1 34 (i + 1) ∧ h_iv σ (G 7 i) 7 = ms.2.1 35 (i + 1)
theorem Kx.to {σ σ' : HS} {x : Nat} {G : Nat → Nat → Nat} {ms ms' : MS} (K : Kx σ x G ms) (h1 : Sm σ σ' (x + 14)) (h2 : ∀ b, h_tg σ b = 4 → Sm σ σ' b) (e1 : ms'.1 28 = ms.1 28) (e2 : ∀ k j, 29 ≤ k → k ≤ 35 → ms'.2.1 k j = ms.2.1 k j) : Kx σ' x G ms' := by
  obtain ⟨np, a1, a2, a3, a4⟩ := K
  refine ⟨np, a1, by rw [e1]; exact a2, a3, fun i hi => ?_⟩
  obtain ⟨b1, b2, b3⟩ := a4 i hi
  have hs := h2 _ b2
  rw [h1.2.2.2.1, hs.1, hs.2.2.1, hs.2.2.1, hs.2.2.1, hs.2.2.1, hs.2.2.1, hs.2.2.1, hs.2.2.1, hs.2.2.1, e2 29 _ (by omega) (by omega), e2 30 _ (by omega) (by omega), e2 31 _ (by omega) (by omega), e2 32 _ (by omega) (by omega), e2 33 _ (by omega) (by omega), e2 34 _ (by omega) (by omega), e2 35 _ (by omega) (by omega)]
  exact ⟨b1, b2, b3⟩
theorem hP.to {σ σ' : HS} {p n : Nat} {b : Int32} (h : hP σ p b n) (hs : Sm σ σ' p) : hP σ' p b n := by
  unfold hP at *
  rw [hs.1, hs.2.2.1, hs.2.2.1]
  exact h
/-- an entry's six numbers: bits, length, site, place, version, end -/
abbrev E6 : Type := Int32 × Int32 × Int32 × Int32 × Int32 × Int32
def eV (σ : HS) (a : Nat) : E6 := (h_iv σ ((h_rv σ a 0).getD 0) 0, h_iv σ ((h_rv σ a 0).getD 0) 1, h_iv σ a 1, h_iv σ a 2, h_iv σ a 3, h_iv σ a 4)
def eOk (σ : HS) (a : Nat) : Prop := h_tg σ a = 1 ∧ ∃ p b n, h_rv σ a 0 = some p ∧ hP σ p b n
theorem eOk.to {σ σ' : HS} {a : Nat} (h : eOk σ a) (ht : ∀ b, h_tg σ b = 1 ∨ h_tg σ b = 5 → Sm σ σ' b) : eOk σ' a ∧ eV σ' a = eV σ a := by
  obtain ⟨h1, p, b, n, h2, h3⟩ := h
  have s1 := ht a (Or.inl h1)
  have s2 := ht p (Or.inr h3.1)
  have er : h_rv σ' a 0 = some p := by rw [s1.2.2.2.1]; exact h2
  refine ⟨⟨by rw [s1.1]; exact h1, p, b, n, er, h3.to s2⟩, ?_⟩
  unfold eV
  rw [er, h2, s1.2.2.1, s1.2.2.1, s1.2.2.1, s1.2.2.1]
  show (h_iv σ' p 0, h_iv σ' p 1, _) = (h_iv σ p 0, h_iv σ p 1, _)
  rw [s2.2.2.1, s2.2.2.1]
/-- those of a range that haven't lapsed -/
def eL (now : Int32) (f : Nat → Option E6) : Nat → Nat → List E6
  | _, 0 => []
  | i, c + 1 => match f i with
    | some q => if now < q.2.2.2.2.2 then q :: eL now f (i + 1) c else eL now f (i + 1) c
    | none => eL now f (i + 1) c
def eC (σ : HS) (e : Nat) (j : Nat) : Option E6 := (h_rv σ e j).map (eV σ)
def eM (ms : MS) (k : Nat) : Option E6 := some (ms.2.1 7 k, ms.2.1 8 k, ms.2.1 9 k, ms.2.1 10 k, ms.2.1 11 k, ms.2.1 12 k)
theorem eL_congr {now : Int32} {f f' : Nat → Option E6} : ∀ (c i : Nat), (∀ j, i ≤ j → j < i + c → f j = f' j) → eL now f i c = eL now f' i c
  | 0, i, _ => rfl
  | c + 1, i, h => by
    unfold eL
    rw [h i (Nat.le_refl i) (by omega), eL_congr c (i + 1) (fun j h1 h2 => h j (by omega) (by omega))]
/-- a nonce that was taken last, none yet -/
def hiR (a b : Int64) : Prop := (a = -9223372036854775808 ∧ b = -3000000000) ∨ (a = b ∧ ∃ v : Int32, a = v.toInt64)
def SvR (σ : HS) (G : Nat → Nat → Nat) (ms : MS) (i : Nat) : Prop := h_tg σ (G 0 i) = 7 ∧ h_iv σ (G 0 i) 0 = nI i ∧ h_iv σ (G 0 i) 1 = ms.2.1 6 i ∧ (∃ p, h_rv σ (G 0 i) 2 = some p ∧ hP σ p (pB ms i) (pL ms i)) ∧
  (h_rv σ (G 0 i) 3 = some (G 1 i) ∧ h_tg σ (G 1 i) = 103 ∧ h_ln σ (G 1 i) = 16) ∧ (h_rv σ (G 0 i) 4 = some (G 2 i) ∧ h_tg σ (G 2 i) = 101 ∧ h_ln σ (G 2 i) = 8) ∧ (∀ s, s < 8 → hiR (h_lv σ (G 2 i) s) (ms.2.2 (8 * i + s))) ∧
  (∀ j, j < 16 → ∀ a, h_rv σ (G 1 i) j = some a → eOk σ a) ∧ (eL (ms.1 1) (eC σ (G 1 i)) 0 16).Perm (eL (ms.1 1) (eM ms) (16 * i) 16)
def Sx (σ : HS) (x : Nat) (G : Nat → Nat → Nat) (ms : MS) : Prop := (∀ i j, i < 8 → j < 8 → pr ms i → pr ms j → (G 1 i = G 1 j ∨ G 2 i = G 2 j ∨ G 0 i = G 0 j) → i = j) ∧ (∀ i, i < 8 → pr ms i → G 2 i < x + 15 ∨ x + 49 < G 2 i) ∧ ∀ i, i < 8 → (ms.2.1 3 i = 0 → h_rv σ (x + 2) i = none) ∧ (pr ms i → h_rv σ (x + 2) i = some (G 0 i) ∧ SvR σ G ms i)
theorem SvR.to {σ σ' : HS} {G : Nat → Nat → Nat} {ms ms' : MS} {i : Nat} (h : SvR σ G ms i) (ht : ∀ b, h_tg σ b = 1 ∨ h_tg σ b = 5 ∨ h_tg σ b = 7 ∨ h_tg σ b = 103 → Sm σ σ' b) (hl : Sm σ σ' (G 2 i)) (e1 : ms'.1 1 = ms.1 1) (e2 : ∀ k j, 4 ≤ k → k ≤ 12 → ms'.2.1 k j = ms.2.1 k j) (e3 : ms'.2.2 = ms.2.2) : SvR σ' G ms' i := by
  obtain ⟨a1, a2, a3, ⟨p, a4, a5⟩, ⟨a6, a7, a8⟩, ⟨a9, b1, b2⟩, b3, b4, b5⟩ := h
  have s0 := ht (G 0 i) (by rw [a1]; decide)
  have s1 := ht (G 1 i) (by rw [a7]; decide)
  have sp := ht p (by rw [a5.1]; decide)
  have h15 : ∀ b, h_tg σ b = 1 ∨ h_tg σ b = 5 → Sm σ σ' b := fun b hb => ht b (by rcases hb with h | h <;> rw [h] <;> decide)
  have epB : pB ms' i = pB ms i := e2 4 i (by omega) (by omega)
  have epL : pL ms' i = pL ms i := by unfold pL; rw [e2 5 i (by omega) (by omega)]
  refine ⟨by rw [s0.1]; exact a1, by rw [s0.2.2.1]; exact a2, by rw [s0.2.2.1, e2 6 i (by omega) (by omega)]; exact a3, ⟨p, by rw [s0.2.2.2.1]; exact a4, by rw [epB, epL]; exact a5.to sp⟩, ⟨by rw [s0.2.2.2.1]; exact a6, by rw [s1.1]; exact a7, by rw [s1.2.1]; exact a8⟩, ⟨by rw [s0.2.2.2.1]; exact a9, by rw [hl.1]; exact b1, by rw [hl.2.1]; exact b2⟩, fun s hs => by rw [hl.2.2.2.2, e3]; exact b3 s hs, fun j hj a ha => ?_, ?_⟩
  · rw [s1.2.2.2.1] at ha
    exact ((b4 j hj a ha).to h15).1
  · have ec : eL (ms'.1 1) (eC σ' (G 1 i)) 0 16 = eL (ms.1 1) (eC σ (G 1 i)) 0 16 := by
      rw [e1]
      refine eL_congr 16 0 (fun j _ hj => ?_)
      unfold eC
      rw [s1.2.2.2.1]
      cases hr : h_rv σ (G 1 i) j with
      | none => rfl
      | some a => exact congrArg some ((b4 j (by omega) a hr).to h15).2
    have em : eL (ms'.1 1) (eM ms') (16 * i) 16 = eL (ms.1 1) (eM ms) (16 * i) 16 := by
      rw [e1]
      refine eL_congr 16 (16 * i) (fun j _ hj => ?_)
      unfold eM
      rw [e2 7 j (by omega) (by omega), e2 8 j (by omega) (by omega), e2 9 j (by omega) (by omega), e2 10 j (by omega) (by omega), e2 11 j (by omega) (by omega), e2 12 j (by omega) (by omega)]
    rw [ec, em]
    exact b5
theorem Sx.to {σ σ' : HS} {x : Nat} {G : Nat → Nat → Nat} {ms ms' : MS} (S : Sx σ x G ms) (h2 : Sm σ σ' (x + 2)) (ht : ∀ b, h_tg σ b = 1 ∨ h_tg σ b = 5 ∨ h_tg σ b = 7 ∨ h_tg σ b = 103 → Sm σ σ' b) (hl : ∀ i, i < 8 → pr ms i → Sm σ σ' (G 2 i)) (e1 : ms'.1 1 = ms.1 1) (e2 : ∀ k j, 3 ≤ k → k ≤ 12 → ms'.2.1 k j = ms.2.1 k j) (e3 : ms'.2.2 = ms.2.2) : Sx σ' x G ms' := by
  obtain ⟨s1, s2, s3⟩ := S
  have ep : ∀ i, pr ms' i ↔ pr ms i := fun i => by unfold pr; rw [e2 3 i (by omega) (by omega)]
  refine ⟨fun i j hi hj p1 p2 h => s1 i j hi hj ((ep i).mp p1) ((ep j).mp p2) h, fun i hi p1 => s2 i hi ((ep i).mp p1), fun i hi => ⟨fun h => ?_, fun h => ?_⟩⟩
  · rw [h2.2.2.2.1]
    rw [e2 3 i (by omega) (by omega)] at h
    exact (s3 i hi).1 h
  · have hp := (ep i).mp h
    obtain ⟨a1, a2⟩ := (s3 i hi).2 hp
    exact ⟨by rw [h2.2.2.2.1]; exact a1, a2.to ht (hl i hi hp) e1 (fun k j h4 h5 => e2 k j (by omega) h5) e3⟩
end
/-! from 61.rep2 -/
section
/-! SITES AND THEIR NOTES; the two sides held together -/
/-- a note's five numbers: bits, length, place, version, end -/
abbrev N5 : Type := Int32 × Int32 × Int32 × Int32 × Int32
def nV (σ : HS) (a : Nat) : N5 := (h_iv σ ((h_rv σ a 0).getD 0) 0, h_iv σ ((h_rv σ a 0).getD 0) 1, h_iv σ a 1, h_iv σ a 2, h_iv σ a 3)
def nOk (σ : HS) (a : Nat) : Prop := h_tg σ a = 2 ∧ ∃ p b n, h_rv σ a 0 = some p ∧ hP σ p b n
theorem nOk.to {σ σ' : HS} {a : Nat} (h : nOk σ a) (ht : ∀ b, h_tg σ b = 2 ∨ h_tg σ b = 5 → Sm σ σ' b) : nOk σ' a ∧ nV σ' a = nV σ a := by
  obtain ⟨h1, p, b, n, h2, h3⟩ := h
  have s1 := ht a (Or.inl h1)
  have s2 := ht p (Or.inr h3.1)
  have er : h_rv σ' a 0 = some p := by rw [s1.2.2.2.1]; exact h2
  refine ⟨⟨by rw [s1.1]; exact h1, p, b, n, er, h3.to s2⟩, ?_⟩
  unfold nV
  rw [er, h2, s1.2.2.1, s1.2.2.1, s1.2.2.1]
  show (h_iv σ' p 0, h_iv σ' p 1, _) = (h_iv σ p 0, h_iv σ p 1, _)
  rw [s2.2.2.1, s2.2.2.1]
/-- those of a range for which P holds -/
def lL {α : Type} (P : α → Bool) (f : Nat → Option α) : Nat → Nat → List α
  | _, 0 => []
  | i, c + 1 => match f i with
    | some q => if P q = true then q :: lL P f (i + 1) c else lL P f (i + 1) c
    | none => lL P f (i + 1) c
theorem lL_congr {α : Type} {P : α → Bool} {f f' : Nat → Option α} : ∀ (c i : Nat), (∀ j, i ≤ j → j < i + c → f j = f' j) → lL P f i c = lL P f' i c
  | 0, i, _ => rfl
  | c + 1, i, h => by
    unfold lL
    rw [h i (Nat.le_refl i) (by omega), lL_congr c (i + 1) (fun j h1 h2 => h j (by omega) (by omega))]
def nC (σ : HS) (e : Nat) (j : Nat) : Option N5 := (h_rv σ e j).map (nV σ)
def nM (ms : MS) (k : Nat) : Option (N5 × Int32) := some ((ms.2.1 19 k, ms.2.1 20 k, ms.2.1 21 k, ms.2.1 22 k, ms.2.1 23 k), ms.2.1 24 k)
def nP (now : Int32) (q : N5) : Bool := decide (now < q.2.2.2.2)
/-- two notes are one, but for the version of a HOLE that is held loosely -/
def nR (fx : Bool) (q r : N5) : Prop := q.1 = r.1 ∧ q.2.1 = r.2.1 ∧ q.2.2.1 = r.2.2.1 ∧ q.2.2.2.2 = r.2.2.2.2 ∧ (q.2.2.2.1 = r.2.2.2.1 ∨ (fx = false ∧ q.2.2.1 = -1))
def fa2 {α β : Type} (R : α → β → Prop) : List α → List β → Prop
  | [], [] => True
  | a :: l, b :: r => R a b ∧ fa2 R l r
  | _, _ => False
/-- the notes of a site: on the one side in the order of their making, on the other with a number for it -/
def NtR (fx : Bool) (cl : List N5) (rl : List (N5 × Int32)) : Prop := ∃ L : List (N5 × Int32), L.Perm rl ∧ L.Pairwise (fun a b => a.2 < b.2) ∧ fa2 (fun q r => nR fx q r.1) cl L
def SiR (fx : Bool) (σ : HS) (G : Nat → Nat → Nat) (ms : MS) (s : Nat) : Prop := h_tg σ (G 3 s) = 8 ∧ h_iv σ (G 3 s) 0 = ms.2.1 14 s ∧ h_iv σ (G 3 s) 1 = ms.2.1 18 s ∧ h_iv σ (G 3 s) 3 = ms.2.1 15 s ∧ (h_rv σ (G 3 s) 2 = some (G 4 s) ∧ h_tg σ (G 4 s) = 106 ∧ h_ln σ (G 4 s) = 4) ∧
  (∃ c, c ≤ 4 ∧ ms.2.1 15 s = nI c ∧ ∀ k, k < c → ∃ p n, h_rv σ (G 4 s) k = some p ∧ ms.2.1 17 (4 * s + k) = nI n ∧ hP σ p (ms.2.1 16 (4 * s + k)) n) ∧ (h_rv σ (G 3 s) 4 = some (G 5 s) ∧ h_tg σ (G 5 s) = 3) ∧ (h_rv σ (G 5 s) 0 = some (G 6 s) ∧ h_tg σ (G 6 s) = 104 ∧ h_ln σ (G 6 s) = 6) ∧
  ∃ z, z ≤ 6 ∧ h_iv σ (G 5 s) 1 = nI z ∧ (∀ j, j < z → ∃ a, h_rv σ (G 6 s) j = some a ∧ nOk σ a) ∧ NtR fx (lL (nP (ms.1 1)) (nC σ (G 6 s)) 0 z) (lL (fun q => nP (ms.1 1) q.1) (nM ms) (6 * s) 6)
theorem SiR.to {fx : Bool} {σ σ' : HS} {G : Nat → Nat → Nat} {ms ms' : MS} {s : Nat} (h : SiR fx σ G ms s) (ht : ∀ b, h_tg σ b = 2 ∨ h_tg σ b = 3 ∨ h_tg σ b = 5 ∨ h_tg σ b = 8 ∨ h_tg σ b = 104 ∨ h_tg σ b = 106 → Sm σ σ' b) (e1 : ms'.1 1 = ms.1 1) (e2 : ∀ k j, 14 ≤ k → k ≤ 24 → ms'.2.1 k j = ms.2.1 k j) : SiR fx σ' G ms' s := by
  obtain ⟨a1, a2, a3, a4, ⟨a5, a6, a7⟩, ⟨c, c1, c2, c3⟩, ⟨a8, a9⟩, ⟨b1, b2, b3⟩, z, z1, z2, z3, z4⟩ := h
  have s3 := ht (G 3 s) (by rw [a1]; decide)
  have s4 := ht (G 4 s) (by rw [a6]; decide)
  have s5 := ht (G 5 s) (by rw [a9]; decide)
  have s6 := ht (G 6 s) (by rw [b2]; decide)
  have h25 : ∀ b, h_tg σ b = 2 ∨ h_tg σ b = 5 → Sm σ σ' b := fun b hb => ht b (by rcases hb with h | h <;> rw [h] <;> decide)
  refine ⟨by rw [s3.1]; exact a1, by rw [s3.2.2.1, e2 14 s (by omega) (by omega)]; exact a2, by rw [s3.2.2.1, e2 18 s (by omega) (by omega)]; exact a3, by rw [s3.2.2.1, e2 15 s (by omega) (by omega)]; exact a4, ⟨by rw [s3.2.2.2.1]; exact a5, by rw [s4.1]; exact a6, by rw [s4.2.1]; exact a7⟩, ⟨c, c1, by rw [e2 15 s (by omega) (by omega)]; exact c2, fun k hk => ?_⟩, ⟨by rw [s3.2.2.2.1]; exact a8, by rw [s5.1]; exact a9⟩, ⟨by rw [s5.2.2.2.1]; exact b1, by rw [s6.1]; exact b2, by rw [s6.2.1]; exact b3⟩, z, z1, by rw [s5.2.2.1]; exact z2, fun j hj => ?_, ?_⟩
  · obtain ⟨p, n, d1, d2, d3⟩ := c3 k hk
    exact ⟨p, n, by rw [s4.2.2.2.1]; exact d1, by rw [e2 17 _ (by omega) (by omega)]; exact d2, by rw [e2 16 _ (by omega) (by omega)]; exact d3.to (ht p (by rw [d3.1]; decide))⟩
  · obtain ⟨a, d1, d2⟩ := z3 j hj
    exact ⟨a, by rw [s6.2.2.2.1]; exact d1, (d2.to h25).1⟩
  · have ec : lL (nP (ms'.1 1)) (nC σ' (G 6 s)) 0 z = lL (nP (ms.1 1)) (nC σ (G 6 s)) 0 z := by
      rw [e1]
      refine lL_congr z 0 (fun j _ hj => ?_)
      obtain ⟨a, d1, d2⟩ := z3 j (by omega)
      unfold nC
      rw [s6.2.2.2.1, d1]
      exact congrArg some (d2.to h25).2
    have em : lL (fun q => nP (ms'.1 1) q.1) (nM ms') (6 * s) 6 = lL (fun q => nP (ms.1 1) q.1) (nM ms) (6 * s) 6 := by
      rw [e1]
      refine lL_congr 6 (6 * s) (fun j _ hj => ?_)
      unfold nM
      rw [e2 19 j (by omega) (by omega), e2 20 j (by omega) (by omega), e2 21 j (by omega) (by omega), e2 22 j (by omega) (by omega), e2 23 j (by omega) (by omega), e2 24 j (by omega) (by omega)]
    rw [ec, em]
    exact z4
def Tx (fx : Bool) (σ : HS) (x : Nat) (G : Nat → Nat → Nat) (ms : MS) : Prop := (∀ i j, i < 8 → j < 8 → ¬ ms.2.1 14 i = -1 → ¬ ms.2.1 14 j = -1 → (G 3 i = G 3 j ∨ G 4 i = G 4 j ∨ G 5 i = G 5 j ∨ G 6 i = G 6 j) → i = j) ∧ ∀ s, s < 8 → (ms.2.1 14 s = -1 → h_rv σ (x + 7) s = none) ∧ (¬ ms.2.1 14 s = -1 → h_rv σ (x + 7) s = some (G 3 s) ∧ SiR fx σ G ms s)
theorem Tx.to {fx : Bool} {σ σ' : HS} {x : Nat} {G : Nat → Nat → Nat} {ms ms' : MS} (T : Tx fx σ x G ms) (h7 : Sm σ σ' (x + 7)) (ht : ∀ b, h_tg σ b = 2 ∨ h_tg σ b = 3 ∨ h_tg σ b = 5 ∨ h_tg σ b = 8 ∨ h_tg σ b = 104 ∨ h_tg σ b = 106 → Sm σ σ' b) (e1 : ms'.1 1 = ms.1 1) (e2 : ∀ k j, 14 ≤ k → k ≤ 24 → ms'.2.1 k j = ms.2.1 k j) : Tx fx σ' x G ms' := by
  obtain ⟨t1, t2⟩ := T
  have e14 : ∀ i, ms'.2.1 14 i = ms.2.1 14 i := fun i => e2 14 i (by omega) (by omega)
  refine ⟨fun i j hi hj p1 p2 h => t1 i j hi hj (by rw [← e14]; exact p1) (by rw [← e14]; exact p2) h, fun s hs => ⟨fun h => ?_, fun h => ?_⟩⟩
  · rw [h7.2.2.2.1]; exact (t2 s hs).1 (by rw [← e14]; exact h)
  · obtain ⟨a1, a2⟩ := (t2 s hs).2 (by rw [← e14]; exact h)
    exact ⟨by rw [h7.2.2.2.1]; exact a1, a2.to ht e1 e2⟩
/-- nothing bears a tag behind the heap's end; the other side's cells are what they are -/
def Zx (σ : HS) (x : Nat) : Prop := x + 50 ≤ h_sz σ ∧ (∀ a, h_sz σ ≤ a → h_tg σ a = 0) ∧ ∀ a, x + 15 ≤ a → a ≤ x + 49 → h_tg σ a = 11 ∨ h_tg σ a = 100 ∨ h_tg σ a = 101 ∨ h_tg σ a = 102
/-- all of it -/
def Rep (fx : Bool) (σ : HS) (x : Nat) (G : Nat → Nat → Nat) (ms : MS) : Prop := Zx σ x ∧ Fx σ x ∧ Nx σ x ms ∧ Rx fx σ x ms ∧ Wx σ x ms ∧ Kx σ x G ms ∧ Sx σ x G ms ∧ Tx fx σ x G ms
/-- every cell but a is the same; a is none that the rest of Rep reads -/
def Eq1 (σ σ' : HS) (a : Nat) : Prop := ∀ b, b ≠ a → Sm σ σ' b
theorem Eq1.ne {σ σ' : HS} {a b : Nat} (h : Eq1 σ σ' a) (hb : h_tg σ b ≠ h_tg σ a) : Sm σ σ' b := h b (fun e => hb (by rw [e]))
theorem Eq1_I {σ : HS} {a k : Nat} {v : Int32} : Eq1 σ (h_setI σ a k v) a := fun _ h => Sm_I h
theorem Eq1_R {σ : HS} {a k : Nat} {v : Option Nat} : Eq1 σ (h_setR σ a k v) a := fun _ h => Sm_R h
theorem Eq1_L {σ : HS} {a k : Nat} {v : Int64} : Eq1 σ (h_setL σ a k v) a := fun _ h => Sm_L h
theorem Eq1_A {σ : HS} {a : Nat} {g : Nat → Int32} : Eq1 σ (h_setA σ a g) a := fun _ h => Sm_A h
theorem Eq1_P {σ : HS} {t n k : Nat} : Eq1 σ (h_push σ t n k) (h_sz σ) := fun _ h => Sm_P h
theorem Eq1.tr {σ σ1 σ2 : HS} {a : Nat} (h : Eq1 σ σ1 a) (h' : Eq1 σ1 σ2 a) : Eq1 σ σ2 a := fun b hb => (h b hb).tr (h' b hb)
end
/-! from 62.reads -/
section
/-! WHAT THE ONE SIDE'S READING METHODS ANSWER, BY THE OTHER'S NUMBERS: sites, servers -/
section RDS
variable {fx : Bool} {σ : HS} {x : Nat} {G : Nat → Nat → Nat} {ms : MS}
theorem n8 {i : Nat} (h : i < 8) : ¬ nI i < 0 ∧ nI i < 8 := ⟨nI_pos (by omega), nI_lt (a := i) (b := 8) h (by omega)⟩
theorem b8 {a : Int32} (h1 : ¬ a < 0) (h2 : a < 8) : ∃ i, i < 8 ∧ a = nI i := by
  obtain ⟨j, hj, rfl⟩ := nI_of h1
  exact ⟨j, (nI_ltI (a := j) (b := 8) hj (by omega)).mp h2, rfl⟩
theorem siteB_no {a : Int32} (h : a < 0 ∨ ¬ a < 8) : siteB ms a = false := by
  unfold siteB
  rw [decide_eq_false (fun z => by
    rcases h with h | h
    · exact absurd (Int32.lt_of_le_of_lt z.1 h) (by decide)
    · apply h
      obtain ⟨i, hi, rfl⟩ := i8 z
      exact (n8 hi).2)]
  rfl
theorem srvB_no {a : Int32} (h : a < 0 ∨ ¬ a < 8) : srvB ms a = false := by
  unfold srvB
  rw [decide_eq_false (fun z => by
    rcases h with h | h
    · exact absurd (Int32.lt_of_le_of_lt z.1 h) (by decide)
    · apply h
      obtain ⟨i, hi, rfl⟩ := i8 z
      exact (n8 hi).2)]
  rfl
theorem c_siteAt (F : Fx σ x) (T : Tx fx σ x G ms) (s : Int32) : f_X9_siteAt σ (some x) s = some (if siteB ms s = true then some (G 3 s.toNatClampNeg) else none, σ) := by
  unfold f_X9_siteAt
  by_cases h1 : s < 0
  · rw [if_pos h1, siteB_no (Or.inl h1)]; rfl
  · rw [if_neg h1]
    by_cases h2 : s < 8
    · obtain ⟨i, hi, rfl⟩ := b8 h1 h2
      rw [if_pos h2, gR_s F.1, F.2.1.2.1, h_b1_s, aR_s F.2.2.2.2.1.1 F.2.2.2.2.1.2 hi (by omega), h_b1_s, nI_clamp (by omega), siteB_i hi]
      by_cases h3 : ms.2.1 14 i = -1
      · rw [(T.2 i hi).1 h3, decide_eq_false (fun z => z h3)]; rfl
      · rw [((T.2 i hi).2 h3).1, decide_eq_true (show ¬ ms.2.1 14 i = -1 from h3)]; rfl
    · rw [if_neg h2, siteB_no (Or.inr h2)]; rfl
theorem c_isPlace (p : Int32) : f_X9_isPlace σ p = some (b2i (decide (0 ≤ p ∧ p ≤ 15)), σ) := by
  unfold f_X9_isPlace
  by_cases h1 : p < 0
  · rw [if_pos h1, decide_eq_false (fun z => absurd (Int32.lt_of_le_of_lt z.1 h1) (by decide))]; rfl
  · obtain ⟨j, hj, rfl⟩ := nI_of h1
    rw [if_neg h1]
    by_cases h2 : (16 : Int32) ≤ nI j
    · rw [if_pos h2, decide_eq_false (fun z => ?_)]; rfl
      have a1 := (nI_leI (a := 16) (b := j) (by omega) hj).mp h2
      have a2 := (nI_leI (a := j) (b := 15) hj (by omega)).mp z.2
      omega
    · have a1 : ¬ 16 ≤ j := fun z => h2 (nI_le (a := 16) (b := j) z hj)
      rw [if_neg h2, decide_eq_true ⟨nI_pos' hj, nI_le (a := j) (b := 15) (by omega) (by omega)⟩]; rfl
theorem c_hostOf (F : Fx σ x) (T : Tx fx σ x G ms) {p : Int32} (hp : ¬ p = -1) : f_X9_hostOf σ (some x) p = some (o2i (ff (fun s => decide (ms.2.1 14 s = p)) 0 8), σ) := by
  unfold f_X9_hostOf
  have key := lp_find (fun n k => g_X9_hostOf_2 n σ (some x) p k) 8 (fun s => decide (ms.2.1 14 s = p)) (fun s => some (nI s, σ)) (some (-1, σ))
    (fun n => by show g_X9_hostOf_2 (n + 1) σ (some x) p (nI 8) = _; rw [g_X9_hostOf_2, if_pos (by decide)])
    (fun n i hi => by
      show g_X9_hostOf_2 (n + 1) σ (some x) p (nI i) = _
      rw [g_X9_hostOf_2, if_neg (show ¬ (8 : Int32) ≤ nI i from nI_ge (b := 8) hi (by omega)), gR_s F.1, F.2.1.2.1]
      simp only [h_b1_s]
      rw [aR_s F.2.2.2.2.1.1 F.2.2.2.2.1.2 hi (by omega)]
      simp only [h_b1_s]
      rw [nI_1]
      by_cases h3 : ms.2.1 14 i = -1
      · rw [(T.2 i hi).1 h3, if_pos rfl, decide_eq_false (fun z => hp (z.symm.trans h3))]; rfl
      · obtain ⟨a1, a2⟩ := (T.2 i hi).2 h3
        rw [a1, if_neg (by simp), gI_s a2.1, h_b1_s, a2.2.1]
        by_cases h4 : ms.2.1 14 i = p
        · rw [if_pos h4, decide_eq_true h4]; rfl
        · rw [if_neg h4, decide_eq_false h4]; rfl)
    8 h_hN 0 rfl (h_hN_lt (by omega))
  refine Eq.trans key ?_
  cases ff (fun s => decide (ms.2.1 14 s = p)) 0 8 <;> rfl
theorem c_at (F : Fx σ x) (S : Sx σ x G ms) (s : Int32) : f_X8_at σ (some (x + 1)) s = some (if srvB ms s = true then some (G 0 s.toNatClampNeg) else none, σ) := by
  unfold f_X8_at
  by_cases h1 : s < 0
  · rw [if_pos h1, srvB_no (Or.inl h1)]; rfl
  · rw [if_neg h1]
    by_cases h2 : s < 8
    · obtain ⟨i, hi, rfl⟩ := b8 h1 h2
      rw [if_pos h2, gR_s F.2.2.1.1, F.2.2.1.2, h_b1_s, aR_s F.2.2.2.1.1 F.2.2.2.1.2 hi (by omega), h_b1_s, nI_clamp (by omega), srvB_i hi]
      by_cases h3 : ms.2.1 3 i = 0
      · rw [(S.2.2 i hi).1 h3, decide_eq_false (fun z => z h3)]; rfl
      · rw [((S.2.2 i hi).2 h3).1, decide_eq_true (show ¬ ms.2.1 3 i = 0 from h3)]; rfl
    · rw [if_neg h2, srvB_no (Or.inr h2)]; rfl
theorem c_isChild (F : Fx σ x) (S : Sx σ x G ms) (T : Tr ms) {c i : Nat} (hc : c < 8) (hi : i < 8) (hp : pr ms i) : f_X8_isChild σ (some (x + 1)) (nI c) (some (G 0 i)) = some (b2i (decide (ms.2.1 6 c = nI i)), σ) := by
  unfold f_X8_isChild
  rw [gR_s F.2.2.1.1, F.2.2.1.2]
  simp only [h_b1_s]
  rw [aR_s F.2.2.2.1.1 F.2.2.2.1.2 hc (by omega)]
  simp only [h_b1_s]
  have hs := ((S.2.2 i hi).2 hp).2
  by_cases h3 : ms.2.1 3 c = 0
  · rw [(S.2.2 c hc).1 h3, if_pos rfl, decide_eq_false (fun z => ?_)]
    · rfl
    · have := T.2.2.2.1 c hc h3
      exact nI_ne_m1 (by omega) (z.symm.trans this)
  · obtain ⟨a1, a2⟩ := (S.2.2 c hc).2 h3
    rw [a1, if_neg (by simp), gI_s a2.1, h_b1_s, gI_s hs.1, h_b1_s, a2.2.2.1, hs.2.1]
    by_cases h4 : ms.2.1 6 c = nI i
    · rw [if_pos h4, decide_eq_true h4]; rfl
    · rw [if_neg h4, decide_eq_false h4]; rfl
/-- a server that is there: where it stands, the prefix of its part -/
theorem c_sv (S : Sx σ x G ms) (F : Fx σ x) {c : Nat} (hc : c < 8) (hp : pr ms c) : h_aR σ (some (x + 2)) 107 (nI c) = some (some (G 0 c)) ∧ ∃ p, h_gR σ (some (G 0 c)) 7 2 = some (some p) ∧ hP σ p (pB ms c) (pL ms c) := by
  obtain ⟨a1, a2⟩ := (S.2.2 c hc).2 hp
  obtain ⟨p, p1, p2⟩ := a2.2.2.2.1
  exact ⟨by rw [aR_s F.2.2.2.1.1 F.2.2.2.1.2 hc (by omega), a1], p, by rw [gR_s a2.1, p1], p2⟩
theorem ch_pr (T : Tr ms) {c i : Nat} (hc : c < 8) (hi : i < 8) (h : ms.2.1 6 c = nI i) : pr ms c := (T.2.2.2.2.1 c i hi ⟨hc, h⟩).1
def ownB (ms : MS) (b : Int32) (n i : Nat) : Bool := (decide (pL ms i ≤ n) && ag (pL ms i) b (pB ms i)) && (ff (fun c => decide (ms.2.1 6 c = nI i) && mtB (pB ms c) (pL ms c) b n) 0 8).isNone
theorem ownB_iff (T : Tr ms) {b : Int32} {n i : Nat} (hi : i < 8) (hp : pr ms i) : ownB ms b n i = true ↔ owns ms b n i := by
  unfold ownB owns
  rw [Bool.and_eq_true, Bool.and_eq_true, Option.isNone_iff_eq_none, ff_none, decide_eq_true_eq]
  constructor
  · intro h
    refine ⟨hi, hp, ⟨h.1.1, h.1.2⟩, fun c hc => ?_⟩
    have := h.2 c (by omega) (by have := hc.1; omega)
    rw [decide_eq_true hc.2, Bool.true_and] at this
    exact this
  · intro h
    refine ⟨⟨h.2.2.1.1, h.2.2.1.2⟩, fun c _ hc => ?_⟩
    by_cases e : ms.2.1 6 c = nI i
    · rw [decide_eq_true e, Bool.true_and]
      exact h.2.2.2 c ⟨by omega, e⟩
    · rw [decide_eq_false e]; rfl
theorem c_owns (F : Fx σ x) (S : Sx σ x G ms) (T : Tr ms) {i p n : Nat} {b : Int32} (hi : i < 8) (hpr : pr ms i) (hp : hP σ p b n) : f_X8_owns σ (some (x + 1)) (some (G 0 i)) (some p) = some (b2i (ownB ms b n i), σ) := by
  obtain ⟨-, p0, e1, hp0⟩ := c_sv S F hi hpr
  unfold f_X8_owns ownB
  rw [e1, h_b1_s, rcv_s hp.1, h_b1_s, liesIn_eq hp hp0, h_bd_s]
  cases h1 : (decide (pL ms i ≤ n) && ag (pL ms i) b (pB ms i))
  · rw [if_pos (show b2i false = 0 from rfl)]; rfl
  · rw [if_neg (by decide)]
    have key := lp_find (fun m k => g_X8_owns_15 m σ (some (x + 1)) (some (G 0 i)) (some p) k) 8 (fun c => decide (ms.2.1 6 c = nI i) && mtB (pB ms c) (pL ms c) b n) (fun _ => some (0, σ)) (some (1, σ))
      (fun m => by show g_X8_owns_15 (m + 1) σ (some (x + 1)) (some (G 0 i)) (some p) (nI 8) = _; rw [g_X8_owns_15, if_pos (by decide)])
      (fun m c hc => by
        show g_X8_owns_15 (m + 1) σ (some (x + 1)) (some (G 0 i)) (some p) (nI c) = _
        rw [g_X8_owns_15, if_neg (show ¬ (8 : Int32) ≤ nI c from nI_ge (b := 8) hc (by omega)), rcv_s F.2.2.1.1, h_b1_s, c_isChild F S T hc hi hpr, h_bd_s, nI_1]
        by_cases h2 : ms.2.1 6 c = nI i
        · obtain ⟨f1, q, f2, hq⟩ := c_sv S F hc (ch_pr T hc hi h2)
          rw [decide_eq_true h2, if_neg (by decide), gR_s F.2.2.1.1, F.2.2.1.2, h_b1_s, f1, h_b1_s, f2, h_b1_s, rcv_s hq.1, h_b1_s, meets_eq hq hp, h_bd_s, Bool.true_and]
          cases mtB (pB ms c) (pL ms c) b n <;> rfl
        · rw [decide_eq_false h2]; rfl)
      8 h_hN 0 rfl (h_hN_lt (by omega))
    refine Eq.trans key ?_
    cases ff (fun c => decide (ms.2.1 6 c = nI i) && mtB (pB ms c) (pL ms c) b n) 0 8 <;> rfl
theorem c_ownerOf (F : Fx σ x) (S : Sx σ x G ms) (T : Tr ms) {p n : Nat} {b : Int32} (hp : hP σ p b n) : f_X8_ownerOf σ (some (x + 1)) (some p) = some ((ownE ms b n).map (G 0), σ) := by
  unfold f_X8_ownerOf
  have key := lp_find (fun m k => g_X8_ownerOf_2 m σ (some (x + 1)) (some p) k) 8 (fun i => decide (¬ ms.2.1 3 i = 0) && ownB ms b n i) (fun i => some (some (G 0 i), σ)) (some (none, σ))
    (fun m => by show g_X8_ownerOf_2 (m + 1) σ (some (x + 1)) (some p) (nI 8) = _; rw [g_X8_ownerOf_2, if_pos (by decide)])
    (fun m i hi => by
      show g_X8_ownerOf_2 (m + 1) σ (some (x + 1)) (some p) (nI i) = _
      rw [g_X8_ownerOf_2, if_neg (show ¬ (8 : Int32) ≤ nI i from nI_ge (b := 8) hi (by omega)), gR_s F.2.2.1.1, F.2.2.1.2]
      simp only [h_b1_s]
      rw [nI_1]
      by_cases h3 : ms.2.1 3 i = 0
      · rw [aR_s F.2.2.2.1.1 F.2.2.2.1.2 hi (by omega), (S.2.2 i hi).1 h3, decide_eq_false (show ¬ ¬ ms.2.1 3 i = 0 from fun z => z h3)]; rfl
      · obtain ⟨f1, -⟩ := c_sv S F hi h3
        rw [f1]
        simp only [h_b1_s]
        rw [if_neg (by simp), rcv_s F.2.2.1.1, h_b1_s, c_owns F S T hi h3 hp, h_bd_s, decide_eq_true (show ¬ ms.2.1 3 i = 0 from h3), Bool.true_and]
        cases ownB ms b n i
        · rfl
        · rw [if_neg (by decide), gR_s F.2.2.1.1, F.2.2.1.2, h_b1_s, f1, h_b1_s]; rfl)
    8 h_hN 0 rfl (h_hN_lt (by omega))
  refine Eq.trans key ?_
  have hn := hp.2.2.2.1
  cases hf : ff (fun i => decide (¬ ms.2.1 3 i = 0) && ownB ms b n i) 0 8 with
  | none =>
    cases ho : ownE ms b n with
    | none => rfl
    | some j =>
      exfalso
      have hj := (ownE_iff T hn).mp ho
      have := (ff_none.mp hf) j (by omega) (by have := hj.1; omega)
      rw [decide_eq_true (show ¬ ms.2.1 3 j = 0 from hj.2.1), Bool.true_and, (ownB_iff T hj.1 hj.2.1).mpr hj] at this
      cases this
  | some j =>
    obtain ⟨-, j1, j2, -⟩ := ff_some.mp hf
    rw [Bool.and_eq_true, decide_eq_true_eq] at j2
    rw [(ownE_iff T hn).mpr ((ownB_iff T (by omega) j2.1).mp j2.2)]
    rfl
theorem c_childWith (F : Fx σ x) (S : Sx σ x G ms) (T : Tr ms) {i : Nat} (hi : i < 8) (hpr : pr ms i) (ep : Int32) : f_X8_childWith σ (some (x + 1)) (some (G 0 i)) ep = some ((chiF ms i ep).map (G 0), σ) := by
  unfold f_X8_childWith
  have key := lp_find (fun m k => g_X8_childWith_2 m σ (some (x + 1)) (some (G 0 i)) ep k) 8 (fun c => decide (ms.2.1 6 c = nI i) && ag (ln (ms.2.1 5 c)) (ms.2.1 4 c) ep) (fun c => some (some (G 0 c), σ)) (some (none, σ))
    (fun m => by show g_X8_childWith_2 (m + 1) σ (some (x + 1)) (some (G 0 i)) ep (nI 8) = _; rw [g_X8_childWith_2, if_pos (by decide)])
    (fun m c hc => by
      show g_X8_childWith_2 (m + 1) σ (some (x + 1)) (some (G 0 i)) ep (nI c) = _
      rw [g_X8_childWith_2, if_neg (show ¬ (8 : Int32) ≤ nI c from nI_ge (b := 8) hc (by omega)), rcv_s F.2.2.1.1, h_b1_s, c_isChild F S T hc hi hpr, h_bd_s, nI_1]
      by_cases h2 : ms.2.1 6 c = nI i
      · obtain ⟨f1, q, f2, hq⟩ := c_sv S F hc (ch_pr T hc hi h2)
        rw [decide_eq_true h2, if_neg (by decide), gR_s F.2.2.1.1, F.2.2.1.2]
        simp only [h_b1_s]
        rw [f1]
        simp only [h_b1_s]
        rw [f2, h_b1_s, rcv_s hq.1, h_b1_s, has_eq hq ep, h_bd_s, ag_comm (pL_le T hc), Bool.true_and]
        show _ = if ag (pL ms c) (pB ms c) ep = true then _ else _
        cases ag (pL ms c) (pB ms c) ep
        · rfl
        · rw [if_neg (by decide), gR_s F.2.2.1.1, F.2.2.1.2, h_b1_s, f1, h_b1_s]; rfl
      · rw [decide_eq_false h2]; rfl)
    8 h_hN 0 rfl (h_hN_lt (by omega))
  refine Eq.trans key ?_
  unfold chiF
  cases ff (fun c => decide (ms.2.1 6 c = nI i) && ag (ln (ms.2.1 5 c)) (ms.2.1 4 c) ep) 0 8 <;> rfl
theorem c_childRound (F : Fx σ x) (S : Sx σ x G ms) (T : Tr ms) {i n : Nat} (hi : i < 8) (hpr : pr ms i) (hn : n ≤ 32) (ep : Int32) : f_X8_hasChildRound σ (some (x + 1)) (some (G 0 i)) ep (nI n) = some (b2i (ff (inC ms i ep n) 0 8).isSome, σ) := by
  unfold f_X8_hasChildRound
  have key := lp_find (fun m k => g_X8_hasChildRound_3 m σ (some (x + 1)) (some (G 0 i)) ep (nI n) k) 8 (inC ms i ep n) (fun _ => some (1, σ)) (some (0, σ))
    (fun m => by show g_X8_hasChildRound_3 (m + 1) σ (some (x + 1)) (some (G 0 i)) ep (nI n) (nI 8) = _; rw [g_X8_hasChildRound_3, if_pos (by decide)])
    (fun m c hc => by
      show g_X8_hasChildRound_3 (m + 1) σ (some (x + 1)) (some (G 0 i)) ep (nI n) (nI c) = _
      rw [g_X8_hasChildRound_3, if_neg (show ¬ (8 : Int32) ≤ nI c from nI_ge (b := 8) hc (by omega)), rcv_s F.2.2.1.1, h_b1_s, c_isChild F S T hc hi hpr, h_bd_s, nI_1]
      unfold inC
      by_cases h2 : ms.2.1 6 c = nI i
      · obtain ⟨f1, q, f2, hq⟩ := c_sv S F hc (ch_pr T hc hi h2)
        rw [decide_eq_true h2, if_neg (by decide), gR_s F.2.2.1.1, F.2.2.1.2, h_b1_s, f1, h_b1_s, f2, h_b1_s, rcv_s hq.1, h_b1_s, liesRound_eq hq ep hn, h_bd_s, ag_comm hn, Bool.true_and]
        show _ = if (decide (n ≤ pL ms c) && ag n ep (pB ms c)) = true then _ else _
        cases (decide (n ≤ pL ms c) && ag n ep (pB ms c)) <;> rfl
      · rw [decide_eq_false h2]; rfl)
    8 h_hN 0 rfl (h_hN_lt (by omega))
  refine Eq.trans key ?_
  cases ff (inC ms i ep n) 0 8 <;> rfl
end RDS
end
/-! from 63.reads2 -/
section
/-! .. THE PREFIXES OF SITES; PACKETS; THE ROW -/
theorem ff_shift (P : Nat → Bool) (a : Nat) : ∀ (c i : Nat), ff P (a + i) c = (ff (fun k => P (a + k)) i c).map (fun k => a + k)
  | 0, i => rfl
  | c + 1, i => by
    unfold ff
    by_cases h : P (a + i) = true
    · rw [if_pos h, if_pos h]; rfl
    · rw [if_neg h, if_neg h]
      exact ff_shift P a c (i + 1)
section RDT
variable {fx : Bool} {σ : HS} {x : Nat} {G : Nat → Nat → Nat} {ms : MS}
/-- the prefixes of a site -/
theorem c_px {s c k : Nat} (I : SiR fx σ G ms s) (hc : ms.2.1 15 s = nI c) (hc4 : c ≤ 4) (hk : k < c) : ∃ p n, h_aR σ (some (G 4 s)) 106 (nI k) = some (some p) ∧ ms.2.1 17 (4 * s + k) = nI n ∧ hP σ p (ms.2.1 16 (4 * s + k)) n := by
  obtain ⟨-, -, -, -, ⟨a5, a6, a7⟩, ⟨c', c1, c2, c3⟩, -⟩ := I
  have ec : c' = c := (nI_eq (by omega) (by omega)).mp (c2.symm.trans hc)
  subst ec
  obtain ⟨p, n, d1, d2, d3⟩ := c3 k hk
  exact ⟨p, n, by rw [aR_s a6 a7 (by omega) (by omega), d1], d2, d3⟩
theorem c_hasEnd {s : Nat} (hs : s < 8) (I : SiR fx σ G ms s) (ep : Int32) : f_X7_hasEndpoint σ (some (G 3 s)) ep = some (b2i (hasB ms s ep), σ) := by
  obtain ⟨c, c1, c2, -⟩ := I.2.2.2.2.2.1
  unfold f_X7_hasEndpoint hasB
  rw [c2, nI_clamp (by omega)]
  have key := lp_find (fun m k => g_X7_hasEndpoint_2 m σ (some (G 3 s)) ep k) c (fun k => ag (ln (ms.2.1 17 (4 * s + k))) (ms.2.1 16 (4 * s + k)) ep) (fun _ => some (1, σ)) (some (0, σ))
    (fun m => by
      show g_X7_hasEndpoint_2 (m + 1) σ (some (G 3 s)) ep (nI c) = _
      rw [g_X7_hasEndpoint_2, gI_s I.1, I.2.2.2.1, c2, h_b1_s, if_pos (Int32.le_refl _)])
    (fun m k hk => by
      show g_X7_hasEndpoint_2 (m + 1) σ (some (G 3 s)) ep (nI k) = _
      obtain ⟨p, n, f1, f2, f3⟩ := c_px I c2 c1 hk
      rw [g_X7_hasEndpoint_2, gI_s I.1, I.2.2.2.1, c2, h_b1_s, if_neg (nI_ge hk (by omega)), gR_s I.1, I.2.2.2.2.1.1, h_b1_s, f1, h_b1_s, rcv_s f3.1, h_b1_s, has_eq f3 ep, h_bd_s, nI_1, f2, ln_nI f3.2.2.2.1, ag_comm f3.2.2.2.1]
      cases ag n (ms.2.1 16 (4 * s + k)) ep <;> rfl)
    c h_hN 0 (by omega) (h_hN_lt (by omega))
  refine Eq.trans key ?_
  have e : ff (fun k => ag (ln (ms.2.1 17 k)) (ms.2.1 16 k) ep) (4 * s) c = (ff (fun k => ag (ln (ms.2.1 17 (4 * s + k))) (ms.2.1 16 (4 * s + k)) ep) 0 c).map (fun k => 4 * s + k) := ff_shift _ (4 * s) c 0
  rw [e]
  cases ff (fun k => ag (ln (ms.2.1 17 (4 * s + k))) (ms.2.1 16 (4 * s + k)) ep) 0 c <;> rfl
/-- a site has the very same prefix -/
theorem c_holds {s p n : Nat} {b : Int32} (I : SiR fx σ G ms s) (hp : hP σ p b n) : f_X7_holds σ (some (G 3 s)) (some p) = some (b2i (ff (fun k => decide (ms.2.1 16 (4 * s + k) = b) && decide (ms.2.1 17 (4 * s + k) = nI n)) 0 (ms.2.1 15 s).toNatClampNeg).isSome, σ) := by
  obtain ⟨c, c1, c2, -⟩ := I.2.2.2.2.2.1
  unfold f_X7_holds
  rw [c2, nI_clamp (by omega)]
  have key := lp_find (fun m k => g_X7_holds_2 m σ (some (G 3 s)) (some p) k) c (fun k => decide (ms.2.1 16 (4 * s + k) = b) && decide (ms.2.1 17 (4 * s + k) = nI n)) (fun _ => some (1, σ)) (some (0, σ))
    (fun m => by
      show g_X7_holds_2 (m + 1) σ (some (G 3 s)) (some p) (nI c) = _
      rw [g_X7_holds_2, gI_s I.1, I.2.2.2.1, c2, h_b1_s, if_pos (Int32.le_refl _)])
    (fun m k hk => by
      show g_X7_holds_2 (m + 1) σ (some (G 3 s)) (some p) (nI k) = _
      obtain ⟨p', n', f1, f2, f3⟩ := c_px I c2 c1 hk
      have h32 := f3.2.2.2.1
      have h32' := hp.2.2.2.1
      rw [g_X7_holds_2, gI_s I.1, I.2.2.2.1, c2, h_b1_s, if_neg (nI_ge hk (by omega)), gR_s I.1, I.2.2.2.2.1.1, h_b1_s, f1, h_b1_s, rcv_s f3.1, h_b1_s, same_eq f3 hp, h_bd_s, nI_1, f2]
      have e : decide (nI n' = nI n) = decide (n' = n) := decide_eq_decide.mpr (nI_eq (by omega) (by omega))
      rw [e]
      cases (decide (ms.2.1 16 (4 * s + k) = b) && decide (n' = n)) <;> rfl)
    c h_hN 0 (by omega) (h_hN_lt (by omega))
  refine Eq.trans key ?_
  cases ff (fun k => decide (ms.2.1 16 (4 * s + k) = b) && decide (ms.2.1 17 (4 * s + k) = nI n)) 0 c <;> rfl
-- packets
theorem c_packetAt (F : Fx σ x) (N : Nx σ x ms) (K : Kx σ x G ms) (p : Int32) : f_X9_packetAt σ (some x) p = some (if decide (1 ≤ p ∧ p ≤ ms.1 28) = true then some (G 7 (p.toNatClampNeg - 1)) else none, σ) := by
  obtain ⟨np, k1, k2, k3, k4⟩ := K
  unfold f_X9_packetAt
  by_cases h1 : p < 1
  · rw [if_pos h1, decide_eq_false (fun z => absurd (Int32.lt_of_lt_of_le h1 z.1) (Int32.lt_irrefl))]; rfl
  · have h1' : (1 : Int32) ≤ p := Int32.not_lt.mp h1
    rw [if_neg h1, gI_s F.1, N.1, h_b1_s]
    by_cases h2 : p ≤ ms.1 28
    · rw [if_pos h2, decide_eq_true ⟨h1', h2⟩, gR_s F.1, F.2.1.2.2.2.2.2.2.2, h_b1_s]
      obtain ⟨i, hi, rfl⟩ := nI_of (x := p) (fun z => absurd (Int32.lt_of_le_of_lt h1' z) (by decide))
      have hi1 : 1 ≤ i := (nI_leI (a := 1) (by omega) hi).mp h1'
      have hi2 : i ≤ np := by rw [k2] at h2; exact (nI_leI hi (by omega)).mp h2
      rw [show (1 : Int32) = nI 1 from rfl, pk_sub (by omega), aR_s F.2.2.2.2.2.2.2.2.2.2.2.1 F.2.2.2.2.2.2.2.2.2.2.2.2 (by omega) (by omega), h_b1_s, nI_clamp hi, (k4 (i - 1) (by omega)).1]
      rfl
    · rw [if_neg h2, decide_eq_false (fun z => h2 z.2)]; rfl
/-- the packet that waits with a nonce: the first such -/
def wtP (ms : MS) (s no : Int32) (i : Nat) : Bool := decide (ms.2.1 31 (i + 1) = 0) && (decide (ms.2.1 29 (i + 1) = s) && decide (ms.2.1 32 (i + 1) = no))
theorem c_waiting (F : Fx σ x) (N : Nx σ x ms) (K : Kx σ x G ms) (s no : Int32) {np : Nat} (hnp : ms.1 28 = nI np) (hnp2 : np ≤ 200) : f_X9_waiting σ (some x) s no = some ((ff (wtP ms s no) 0 np).map (G 7), σ) := by
  obtain ⟨np', k1, k2, k3, k4⟩ := K
  have en : np' = np := (nI_eq (by omega) (by omega)).mp (k2.symm.trans hnp)
  subst en
  unfold f_X9_waiting
  have key := lp_find (fun m k => g_X9_waiting_2 m σ (some x) s no k) np' (wtP ms s no) (fun i => some (some (G 7 i), σ)) (some (none, σ))
    (fun m => by
      show g_X9_waiting_2 (m + 1) σ (some x) s no (nI np') = _
      rw [g_X9_waiting_2, gI_s F.1, N.1, hnp, h_b1_s, if_pos (Int32.le_refl _)])
    (fun m i hi => by
      show g_X9_waiting_2 (m + 1) σ (some x) s no (nI i) = _
      obtain ⟨a1, a2, a3, a4, a5, a6, a7, -⟩ := k4 i hi
      rw [g_X9_waiting_2, gI_s F.1, N.1, hnp, h_b1_s, if_neg (nI_ge hi (by omega)), gR_s F.1, F.2.1.2.2.2.2.2.2.2, h_b1_s, aR_s F.2.2.2.2.2.2.2.2.2.2.2.1 F.2.2.2.2.2.2.2.2.2.2.2.2 (by omega) (by omega), a1]
      simp only [h_b1_s]
      rw [gI_s a2, gI_s a2, gI_s a2, a6, a4, a7, nI_1]
      simp only [h_b1_s]
      unfold wtP
      by_cases h1 : ms.2.1 31 (i + 1) = 0
      · rw [if_pos h1, decide_eq_true h1]
        by_cases h2 : ms.2.1 29 (i + 1) = s
        · rw [if_pos h2, decide_eq_true h2]
          by_cases h3 : ms.2.1 32 (i + 1) = no
          · rw [if_pos h3, decide_eq_true h3]; rfl
          · rw [if_neg h3, decide_eq_false h3]; rfl
        · rw [if_neg h2, decide_eq_false h2]; rfl
      · rw [if_neg h1, decide_eq_false h1]; rfl)
    np' h_hN 0 (by omega) (h_hN_lt (by omega))
  refine Eq.trans key ?_
  cases ff (wtP ms s no) 0 np' <;> rfl
-- the row
theorem c_has (F : Fx σ x) (R : Rx fx σ x ms) {n : Nat} (hn : ms.1 36 = nI n) (h : n ≤ 200) (k : Int32) : f_X5_has σ (some (x + 10)) k = some (b2i (msgB n k), σ) := by
  obtain ⟨f, n', a1, a2, a3, a4, a5, a6, a7⟩ := R
  have en : n' = n := (nI_eq (by omega) (by omega)).mp (a5.symm.trans hn)
  subst en
  unfold f_X5_has msgB
  by_cases h1 : k < 0
  · rw [if_pos h1, decide_eq_false (fun z => absurd (Int32.lt_of_le_of_lt z.1 h1) (by decide))]; rfl
  · rw [if_neg h1, gI_s F.2.2.2.2.2.2.2.1.1, a4, h_b1_s]
    by_cases h2 : nI n' ≤ k
    · rw [if_pos h2, decide_eq_false (fun z => Int32.not_lt.mpr h2 z.2)]; rfl
    · rw [if_neg h2, decide_eq_true ⟨Int32.not_lt.mp h1, Int32.not_le.mp h2⟩]; rfl
theorem r200 {f q : Nat} (hf : f < 200) (hq : q ≤ 200) : (nI f + nI q) - (nI f + nI q) / 200 * 200 = nI (ring f q) := by
  rw [nI_add, show (200 : Int32) = nI 200 from rfl]
  exact pk_rem (by omega) (by omega) (by omega)
end RDT
end
/-! from 64.row -/
section
/-! WRITING THE ROW -/
/-- ints alone were written, at cells of L -/
def WI (L : List Nat) (σ σ' : HS) : Prop := h_tg σ' = h_tg σ ∧ h_ln σ' = h_ln σ ∧ h_rv σ' = h_rv σ ∧ h_lv σ' = h_lv σ ∧ (h_sz σ' = h_sz σ ∧ h_sl σ' = h_sl σ ∧ h_cz σ' = h_cz σ ∧ h_ck σ' = h_ck σ) ∧ ∀ b, b ∉ L → ∀ k, h_iv σ' b k = h_iv σ b k
theorem WI.rf {L : List Nat} {σ : HS} : WI L σ σ := ⟨rfl, rfl, rfl, rfl, ⟨rfl, rfl, rfl, rfl⟩, fun _ _ _ => rfl⟩
theorem WI_I {σ : HS} {a k : Nat} {v : Int32} {L : List Nat} (h : a ∈ L) : WI L σ (h_setI σ a k v) := ⟨rfl, rfl, rfl, rfl, ⟨rfl, rfl, rfl, rfl⟩, fun b hb _ => up2_ne (fun z => hb (by rw [z]; exact h))⟩
theorem WI_A {σ : HS} {a : Nat} {g : Nat → Int32} {L : List Nat} (h : a ∈ L) : WI L σ (h_setA σ a g) := ⟨rfl, rfl, rfl, rfl, ⟨rfl, rfl, rfl, rfl⟩, fun b hb _ => upA_ne (fun z => hb (by rw [z]; exact h))⟩
theorem WI.tr {L : List Nat} {σ σ1 σ2 : HS} (h : WI L σ σ1) (h' : WI L σ1 σ2) : WI L σ σ2 := by
  obtain ⟨a1, a2, a3, a4, ⟨a5, a6, a7, a8⟩, a9⟩ := h
  obtain ⟨b1, b2, b3, b4, ⟨b5, b6, b7, b8⟩, b9⟩ := h'
  exact ⟨b1.trans a1, b2.trans a2, b3.trans a3, b4.trans a4, ⟨b5.trans a5, b6.trans a6, b7.trans a7, b8.trans a8⟩, fun b hb k => (b9 b hb k).trans (a9 b hb k)⟩
theorem WI.up {L M : List Nat} {σ σ' : HS} (h : WI L σ σ') (hs : ∀ b, b ∈ L → b ∈ M) : WI M σ σ' := ⟨h.1, h.2.1, h.2.2.1, h.2.2.2.1, h.2.2.2.2.1, fun b hb => h.2.2.2.2.2 b (fun z => hb (hs b z))⟩
theorem WI.sm {L : List Nat} {σ σ' : HS} (h : WI L σ σ') {b : Nat} (hb : b ∉ L) : Sm σ σ' b := ⟨by rw [h.1], by rw [h.2.1], h.2.2.2.2.2 b hb, fun k => by rw [h.2.2.1], fun k => by rw [h.2.2.2.1]⟩
theorem WI.fs {L : List Nat} {σ σ' : HS} (h : WI L σ σ') {x : Nat} : Fs σ σ' x := ⟨fun b _ => ⟨by rw [h.1], by rw [h.2.1]⟩, fun k => by rw [h.2.2.1], fun k => by rw [h.2.2.1], fun k => by rw [h.2.2.1]⟩
theorem WI.fx {L : List Nat} {σ σ' : HS} (h : WI L σ σ') {x : Nat} (F : Fx σ x) : Fx σ' x := F.to h.fs
theorem iv_sIa {σ : HS} {a k b j : Nat} {v : Int32} (h : b ≠ a) : h_iv (h_setI σ a k v) b j = h_iv σ b j := up2_ne h
section ROW
variable {fx : Bool} {σ : HS} {x : Nat} {G : Nat → Nat → Nat} {ms : MS}
theorem Fx.rw6 (F : Fx σ x) : h_tg σ (x + 10) = 6 := F.2.2.2.2.2.2.2.1.1
theorem Fx.rwc (F : Fx σ x) : h_rv σ (x + 10) 0 = some (x + 11) := F.2.2.2.2.2.2.2.1.2
theorem Fx.c100 (F : Fx σ x) : h_tg σ (x + 11) = 100 := F.2.2.2.2.2.2.2.2.1.1
theorem Fx.cln (F : Fx σ x) : h_ln σ (x + 11) = 1600 := F.2.2.2.2.2.2.2.2.1.2
theorem Fx.h100 (F : Fx σ x) : h_tg σ (x + 12) = 100 := F.2.2.2.2.2.2.2.2.2.1.1
theorem Fx.hln (F : Fx σ x) : h_ln σ (x + 12) = 8 := F.2.2.2.2.2.2.2.2.2.1.2
theorem Fx.d100 (F : Fx σ x) : h_tg σ (x + 13) = 100 := F.2.2.2.2.2.2.2.2.2.2.1.1
theorem Fx.dln (F : Fx σ x) : h_ln σ (x + 13) = 6 := F.2.2.2.2.2.2.2.2.2.2.1.2
theorem Fx.rRow (F : Fx σ x) : h_rv σ x 4 = some (x + 10) := F.2.1.2.2.2.2.1
theorem Fx.rHand (F : Fx σ x) : h_rv σ x 5 = some (x + 12) := F.2.1.2.2.2.2.2.1
theorem Fx.rDraft (F : Fx σ x) : h_rv σ x 6 = some (x + 13) := F.2.1.2.2.2.2.2.2.1
theorem ring_lt (f q : Nat) : ring f q < 200 := Nat.mod_lt _ (by omega)
theorem ring_inj {f q q' : Nat} (hq : q < 200) (hq' : q' < 200) (h : ring f q = ring f q') : q = q' := by
  unfold ring at h
  omega
theorem c_cell (F : Fx σ x) {f q : Nat} (hf : h_iv σ (x + 10) 1 = nI f) (hf2 : f < 200) (hq : q ≤ 200) : f_X5_cell σ (some (x + 10)) (nI q) = some (nI (8 * ring f q), σ) := by
  unfold f_X5_cell
  rw [gI_s F.rw6, hf, h_b1_s, r200 hf2 hq, show (8 : Int32) = nI 8 from rfl, pk_mul, Nat.mul_comm]
theorem c_get (F : Fx σ x) {f q j : Nat} (hf : h_iv σ (x + 10) 1 = nI f) (hf2 : f < 200) (hq : q ≤ 200) (hj : j < 8) : f_X5_get σ (some (x + 10)) (nI q) (nI j) = some (cel σ x f q j, σ) := by
  have := ring_lt f q
  unfold f_X5_get cel
  rw [gR_s F.rw6, F.rwc, h_b1_s, rcv_s F.rw6, h_b1_s, c_cell F hf hf2 hq, h_bd_s, nI_add, aI_s F.c100 F.cln (by omega) (by omega), h_b1_s]
theorem c_set (F : Fx σ x) {f q j : Nat} {v : Int32} (hf : h_iv σ (x + 10) 1 = nI f) (hf2 : f < 200) (hq : q ≤ 200) (hj : j < 8) : f_X5_set σ (some (x + 10)) (nI q) (nI j) v = some ((), h_setI σ (x + 11) (8 * ring f q + j) v) := by
  have := ring_lt f q
  unfold f_X5_set
  rw [gR_s F.rw6, F.rwc, h_b1_s, rcv_s F.rw6, h_b1_s, c_cell F hf hf2 hq, h_bd_s, nI_add, sI_s F.c100 F.cln (by omega) (by omega), h_b1_s]
theorem cp_s {a b sp dp n la lb : Nat} (ha : h_tg σ a = 100) (hb : h_tg σ b = 100) (la' : h_ln σ a = la) (lb' : h_ln σ b = lb) (h1 : sp + n ≤ la) (h2 : dp + n ≤ lb) (hla : la < 2 ^ 31) (hlb : lb < 2 ^ 31) : h_cpI σ (some a) (nI sp) (some b) (nI dp) (nI n) = some (h_setA σ b (va_cpy (h_iv σ a) (h_iv σ b) sp dp n)) := by
  show (if _ then _ else _) = _
  rw [nI_clamp (by omega), nI_clamp (by omega), nI_clamp (by omega), if_pos ⟨ha, hb, nI_pos (by omega), nI_pos (by omega), nI_pos (by omega), by omega, by omega⟩]
/-- hand := the q-th message -/
theorem c_copy (F : Fx σ x) {f q : Nat} (hf : h_iv σ (x + 10) 1 = nI f) (hf2 : f < 200) (hq : q ≤ 200) : f_X5_copy σ (some (x + 10)) (nI q) (some (x + 12)) = some ((), h_setA σ (x + 12) (va_cpy (h_iv σ (x + 11)) (h_iv σ (x + 12)) (8 * ring f q) 0 8)) := by
  have := ring_lt f q
  unfold f_X5_copy
  rw [gR_s F.rw6, F.rwc, h_b1_s, rcv_s F.rw6, h_b1_s, c_cell F hf hf2 hq, h_bd_s, show (0 : Int32) = nI 0 from rfl, show (8 : Int32) = nI 8 from rfl, cp_s F.c100 F.h100 F.cln F.hln (by omega) (by omega) (by omega) (by omega), h_b1_s]
/-- a message comes to the row's end -/
theorem Rx_post {fx : Bool} {σ σ' : HS} {x : Nat} {ms : MS} (R : Rx fx σ x ms) {n f : Nat} (hn : ms.1 36 = nI n) (hf : h_iv σ (x + 10) 1 = nI f) (hf2 : f < 200) (hlt : n < 200) {g : Nat → Int32} (e1 : h_iv σ' (x + 10) 1 = nI f) (e2 : h_iv σ' (x + 10) 2 = nI (n + 1)) (e3 : h_iv σ' (x + 10) 3 = h_iv σ (x + 10) 3)
    (e4 : ∀ q j, q < n → j < 8 → cel σ' x f q j = cel σ x f q j) (e5 : ∀ j, j < 8 → loose fx (g 6) j ∨ cel σ' x f n j = g j) : Rx fx σ' x (postM ms n g) := by
  obtain ⟨f', n', a1, a2, a3, a4, a5, a6, a7⟩ := R
  have en : n' = n := (nI_eq (by omega) (by omega)).mp (a5.symm.trans hn)
  have ef : f' = f := (nI_eq (by omega) (by omega)).mp (a3.symm.trans hf)
  subst en; subst ef
  have hne : n' ≠ 200 := by omega
  refine ⟨f', n' + 1, hf2, by omega, e1, e2, ?_, ?_, fun q j hq hj => ?_⟩
  · rw [postM_36 hn]; unfold postN; rw [if_neg hne]
  · rw [e3, a6]
    unfold postM
    rw [if_neg hne, pI_n1 (by decide)]; rfl
  · rw [postM_37 (show 6 < 8 by omega), postM_37 hj]
    by_cases h : q = n'
    · subst h
      rw [if_pos ⟨hne, rfl⟩, if_pos ⟨hne, rfl⟩]
      exact e5 j hj
    · rw [if_neg (fun z => h z.2), if_neg (fun z => h z.2), e4 q j (by omega) hj]
      exact a7 q j (by omega) hj
theorem Rx_lost {fx : Bool} {σ σ' : HS} {x : Nat} {ms : MS} (R : Rx fx σ x ms) (hn : ms.1 36 = nI 200) {g : Nat → Int32} (e1 : h_iv σ' (x + 10) 1 = h_iv σ (x + 10) 1) (e2 : h_iv σ' (x + 10) 2 = h_iv σ (x + 10) 2) (e3 : h_iv σ' (x + 10) 3 = h_iv σ (x + 10) 3 + 1) (e4 : ∀ k, h_iv σ' (x + 11) k = h_iv σ (x + 11) k) : Rx fx σ' x (postM ms 200 g) := by
  obtain ⟨f', n', a1, a2, a3, a4, a5, a6, a7⟩ := R
  have en : n' = 200 := (nI_eq (by omega) (by omega)).mp (a5.symm.trans hn)
  subst en
  refine ⟨f', 200, a1, a2, by rw [e1]; exact a3, by rw [e2]; exact a4, ?_, ?_, fun q j hq hj => ?_⟩
  · rw [postM_36 hn]; rfl
  · rw [e3, a6]
    unfold postM
    rw [if_pos rfl, pI_s1]
  · rw [postM_37 (show 6 < 8 by omega), postM_37 hj, if_neg (fun z => z.1 rfl), if_neg (fun z => z.1 rfl)]
    unfold cel
    rw [e4]
    exact a7 q j hq hj
theorem c_add (F : Fx σ x) (R : Rx fx σ x ms) {n : Nat} (hn : ms.1 36 = nI n) (h : n ≤ 200) {kd to : Int32} {g : Nat → Int32} (hg : ∀ j, j < 6 → loose fx kd j ∨ h_iv σ (x + 13) j = g j) (h6 : g 6 = kd) (h7 : g 7 = to) : ∃ σ', f_X5_add σ (some (x + 10)) kd to (some (x + 13)) = some ((), σ') ∧ WI [x + 10, x + 11] σ σ' ∧ Rx fx σ' x (postM ms n g) := by
  have R0 := R
  obtain ⟨f, n', a1, a2, a3, a4, a5, a6, a7⟩ := R
  have en : n' = n := (nI_eq (by omega) (by omega)).mp (a5.symm.trans hn)
  subst en
  unfold f_X5_add
  rw [gI_s F.rw6, a4, h_b1_s]
  by_cases h200 : n' = 200
  · subst h200
    rw [if_neg (by decide), gI_s F.rw6, h_b1_s, pI_s F.rw6, h_b1_s]
    refine ⟨_, rfl, WI_I (by simp), Rx_lost R0 hn (iv_sIk (by decide)) (iv_sIk (by decide)) iv_sI (fun k => up2_ne (by omega))⟩
  · have hr := ring_lt f n'
    rw [if_pos (show nI n' < (200 : Int32) from nI_lt (a := n') (b := 200) (by omega) (by omega))]
    rw [h_b1_s, rcv_s F.rw6, h_b1_s, c_cell F a3 a1 (by omega), h_bd_s, gR_s F.rw6, F.rwc, h_b1_s, show (0 : Int32) = nI 0 from rfl, show (6 : Int32) = nI 6 from rfl, cp_s F.d100 F.c100 F.dln F.cln (by omega) (by omega) (by omega) (by omega), h_b1_s]
    have W1 : WI [x + 10, x + 11] σ (h_setA σ (x + 11) (va_cpy (h_iv σ (x + 13)) (h_iv σ (x + 11)) 0 (8 * ring f n') 6)) := WI_A (by simp)
    generalize hs1 : h_setA σ (x + 11) (va_cpy (h_iv σ (x + 13)) (h_iv σ (x + 11)) 0 (8 * ring f n') 6) = s1 at W1
    have F1 := W1.fx F
    have i1 : ∀ k, h_iv s1 (x + 10) k = h_iv σ (x + 10) k := fun k => by rw [← hs1]; exact upA_ne (by omega)
    have c1 : ∀ k, h_iv s1 (x + 11) k = va_cpy (h_iv σ (x + 13)) (h_iv σ (x + 11)) 0 (8 * ring f n') 6 k := fun k => by
      rw [← hs1]
      show h_upA _ _ _ _ _ = _
      unfold h_upA
      rw [if_pos rfl]
    rw [gR_s F1.rw6, F1.rwc, h_b1_s, nI_add, sI_s F1.c100 F1.cln (by omega) (by omega), h_b1_s]
    have W2 : WI [x + 10, x + 11] s1 (h_setI s1 (x + 11) (8 * ring f n' + 6) kd) := WI_I (by simp)
    generalize hs2 : h_setI s1 (x + 11) (8 * ring f n' + 6) kd = s2 at W2
    have F2 := W2.fx F1
    have i2 : ∀ k, h_iv s2 (x + 10) k = h_iv σ (x + 10) k := fun k => by rw [← hs2, ← i1]; exact up2_ne (by omega)
    have c2 : ∀ k, h_iv s2 (x + 11) k = if k = 8 * ring f n' + 6 then kd else h_iv s1 (x + 11) k := fun k => by
      rw [← hs2]
      show h_up2 _ _ _ _ _ _ = _
      unfold h_up2
      by_cases e : k = 8 * ring f n' + 6
      · rw [if_pos ⟨rfl, e⟩, if_pos e]
      · rw [if_neg (fun z => e z.2), if_neg e]; rfl
    rw [gR_s F2.rw6, F2.rwc, h_b1_s, show (7 : Int32) = nI 7 from rfl, nI_add, sI_s F2.c100 F2.cln (by omega) (by omega), h_b1_s]
    have W3 : WI [x + 10, x + 11] s2 (h_setI s2 (x + 11) (8 * ring f n' + 7) to) := WI_I (by simp)
    generalize hs3 : h_setI s2 (x + 11) (8 * ring f n' + 7) to = s3 at W3
    have F3 := W3.fx F2
    have i3 : ∀ k, h_iv s3 (x + 10) k = h_iv σ (x + 10) k := fun k => by rw [← hs3, ← i2]; exact up2_ne (by omega)
    have c3 : ∀ k, h_iv s3 (x + 11) k = if k = 8 * ring f n' + 7 then to else h_iv s2 (x + 11) k := fun k => by
      rw [← hs3]
      show h_up2 _ _ _ _ _ _ = _
      unfold h_up2
      by_cases e : k = 8 * ring f n' + 7
      · rw [if_pos ⟨rfl, e⟩, if_pos e]
      · rw [if_neg (fun z => e z.2), if_neg e]; rfl
    rw [gI_s F3.rw6, i3, a4, h_b1_s, pI_s F3.rw6, h_b1_s, nI_c1]
    refine ⟨_, rfl, ((W1.tr W2).tr W3).tr (WI_I (by simp)), ?_⟩
    refine Rx_post R0 hn a3 a1 (by omega) (by rw [iv_sIk (by decide), i3]; exact a3) iv_sI (by rw [iv_sIk (by decide), i3]) (fun q j hq hj => ?_) (fun j hj => ?_)
    · have hrq := ring_lt f q
      have hne : ring f q ≠ ring f n' := fun e => by have := ring_inj (by omega) (by omega) e; omega
      unfold cel
      rw [iv_sIa (show x + 11 ≠ x + 10 by omega), c3, if_neg (by omega), c2, if_neg (by omega), c1, pk_cpy_out (by omega)]
    · unfold cel
      rw [iv_sIa (show x + 11 ≠ x + 10 by omega), c3]
      by_cases j7 : j = 7
      · rw [if_pos (by omega), j7, h7]; exact Or.inr rfl
      · rw [if_neg (by omega), c2]
        by_cases j6 : j = 6
        · rw [if_pos (by omega), j6, h6]; exact Or.inr rfl
        · rw [if_neg (by omega), c1, pk_cpy_in (by omega) (by omega), show 0 + (8 * ring f n' + j - 8 * ring f n') = j by omega, h6]
          exact hg j (by omega)
end ROW
end
/-! from 65.row2 -/
section
/-! THE ROW: once more, taken out; posts -/
section ROX
variable {fx : Bool} {σ : HS} {x : Nat} {G : Nat → Nat → Nat} {ms : MS}
theorem iv_sA {σ : HS} {a j : Nat} {g : Nat → Int32} : h_iv (h_setA σ a g) a j = g j := by
  show h_upA _ _ _ _ _ = _
  unfold h_upA
  rw [if_pos rfl]
theorem iv_sAa {σ : HS} {a b j : Nat} {g : Nat → Int32} (h : b ≠ a) : h_iv (h_setA σ a g) b j = h_iv σ b j := upA_ne h
/-- one message copied onto another's place -/
theorem cp_cel {f q q' : Nat} (hq : q < 200) (hq' : q' < 200) {t j : Nat} (ht : t < 200) (hj : j < 8) : cel (h_setA σ (x + 11) (va_cpy (h_iv σ (x + 11)) (h_iv σ (x + 11)) (8 * ring f q) (8 * ring f q') 8)) x f t j = if t = q' then cel σ x f q j else cel σ x f t j := by
  unfold cel
  rw [iv_sA]
  by_cases h : t = q'
  · subst h
    rw [if_pos rfl, pk_cpy_in (by omega) (by omega), show 8 * ring f q + (8 * ring f t + j - 8 * ring f t) = 8 * ring f q + j by omega]
  · have hne : ring f t ≠ ring f q' := fun e => h (ring_inj (by omega) (by omega) e)
    rw [if_neg h, pk_cpy_out (by omega)]
theorem c_addAgain (F : Fx σ x) (R : Rx fx σ x ms) {n k : Nat} (hn : ms.1 36 = nI n) (h : n ≤ 200) (hk : k < n) : ∃ σ', f_X5_addAgain σ (some (x + 10)) (nI k) = some ((), σ') ∧ WI [x + 10, x + 11] σ σ' ∧ Rx fx σ' x (postM ms n (fun j => ms.2.1 37 (8 * k + (if j < 8 then j else 7)))) := by
  have R0 := R
  obtain ⟨f, n', a1, a2, a3, a4, a5, a6, a7⟩ := R
  have en : n' = n := (nI_eq (by omega) (by omega)).mp (a5.symm.trans hn)
  subst en
  unfold f_X5_addAgain
  rw [gI_s F.rw6, a4, h_b1_s]
  by_cases h200 : n' = 200
  · subst h200
    rw [if_neg (by decide), gI_s F.rw6, h_b1_s, pI_s F.rw6, h_b1_s]
    refine ⟨_, rfl, WI_I (by simp), Rx_lost R0 hn (iv_sIk (by decide)) (iv_sIk (by decide)) iv_sI (fun k => up2_ne (by omega))⟩
  · have hr := ring_lt f n'
    have hr2 := ring_lt f k
    rw [if_pos (show nI n' < (200 : Int32) from nI_lt (a := n') (b := 200) (by omega) (by omega)), gR_s F.rw6, F.rwc, h_b1_s, rcv_s F.rw6, h_b1_s, c_cell F a3 a1 (by omega), h_bd_s, gR_s F.rw6, F.rwc, h_b1_s]
    rw [gI_s F.rw6, a4, h_b1_s, rcv_s F.rw6, h_b1_s, c_cell F a3 a1 (by omega), h_bd_s, show (8 : Int32) = nI 8 from rfl, cp_s F.c100 F.c100 F.cln F.cln (by omega) (by omega) (by omega) (by omega), h_b1_s]
    have W1 : WI [x + 10, x + 11] σ (h_setA σ (x + 11) (va_cpy (h_iv σ (x + 11)) (h_iv σ (x + 11)) (8 * ring f k) (8 * ring f n') 8)) := WI_A (by simp)
    have c1 := fun t j ht hj => cp_cel (σ := σ) (x := x) (f := f) (q := k) (q' := n') (by omega) (by omega) (t := t) (j := j) ht hj
    have i1 : ∀ j, h_iv (h_setA σ (x + 11) (va_cpy (h_iv σ (x + 11)) (h_iv σ (x + 11)) (8 * ring f k) (8 * ring f n') 8)) (x + 10) j = h_iv σ (x + 10) j := fun j => iv_sAa (by omega)
    generalize h_setA σ (x + 11) (va_cpy (h_iv σ (x + 11)) (h_iv σ (x + 11)) (8 * ring f k) (8 * ring f n') 8) = s1 at W1 c1 i1
    have F1 := W1.fx F
    rw [gI_s F1.rw6, i1, a4, h_b1_s, pI_s F1.rw6, h_b1_s, nI_c1]
    refine ⟨_, rfl, W1.tr (WI_I (by simp)), ?_⟩
    have ec : ∀ q j, cel (h_setI s1 (x + 10) 2 (nI (n' + 1))) x f q j = cel s1 x f q j := fun q j => iv_sIa (by omega)
    refine Rx_post R0 hn a3 a1 (by omega) (by rw [iv_sIk (by decide), i1]; exact a3) iv_sI (by rw [iv_sIk (by decide), i1]) (fun q j hq hj => ?_) (fun j hj => ?_)
    · rw [ec, c1 q j (by omega) hj, if_neg (by omega)]
    · rw [ec, c1 n' j (by omega) hj, if_pos rfl, if_pos hj]
      exact a7 k j hk hj
/-- a message taken out -/
theorem g_remove {f : Nat} (hf2 : f < 200) : ∀ (i m : Nat) (σ : HS), Fx σ x → h_iv σ (x + 10) 1 = nI f → i < 200 → i < m → ∃ σ', g_X5_remove_2 m σ (some (x + 10)) (nI i) = some ((), σ') ∧ WI [x + 10, x + 11] σ σ' ∧ h_iv σ' (x + 10) 1 = nI (ring f 1) ∧ h_iv σ' (x + 10) 2 = h_iv σ (x + 10) 2 - 1 ∧ h_iv σ' (x + 10) 3 = h_iv σ (x + 10) 3 ∧ ∀ t j, t < 200 → j < 8 → cel σ' x f t j = if 1 ≤ t ∧ t ≤ i then cel σ x f (t - 1) j else cel σ x f t j
  | 0, m, σ, F, hf, h1, h2 => by
    obtain ⟨m', rfl⟩ : ∃ m', m = m' + 1 := ⟨m - 1, by omega⟩
    rw [g_X5_remove_2, if_pos (by decide), gI_s F.rw6, hf, h_b1_s, pI_s F.rw6, h_b1_s]
    have e1 : (nI f + 1) - (nI f + 1) / 200 * 200 = nI (ring f 1) := r200 (q := 1) hf2 (by omega)
    rw [e1]
    have W1 : WI [x + 10, x + 11] σ (h_setI σ (x + 10) 1 (nI (ring f 1))) := WI_I (by simp)
    have F1 := W1.fx F
    rw [gI_s F1.rw6, h_b1_s, pI_s F1.rw6, h_b1_s]
    refine ⟨_, rfl, W1.tr (WI_I (by simp)), by rw [iv_sIk (by decide)]; exact iv_sI, by rw [iv_sI, iv_sIk (by decide)], by rw [iv_sIk (by decide), iv_sIk (by decide)], fun t j ht hj => ?_⟩
    rw [if_neg (by omega)]
    unfold cel
    rw [iv_sIa (by omega), iv_sIa (by omega)]
  | i + 1, m, σ, F, hf, h1, h2 => by
    obtain ⟨m', rfl⟩ : ∃ m', m = m' + 1 := ⟨m - 1, by omega⟩
    have hr := ring_lt f i
    have hr2 := ring_lt f (i + 1)
    rw [g_X5_remove_2, if_neg (show ¬ nI (i + 1) ≤ 0 from nI_nle (by omega) (by omega)), gR_s F.rw6, F.rwc, h_b1_s, rcv_s F.rw6, h_b1_s, show (1 : Int32) = nI 1 from rfl, pk_sub (by omega), show i + 1 - 1 = i by omega, c_cell F hf hf2 (by omega), h_bd_s, gR_s F.rw6, F.rwc, h_b1_s, rcv_s F.rw6, h_b1_s, c_cell F hf hf2 (by omega), h_bd_s, show (8 : Int32) = nI 8 from rfl, cp_s F.c100 F.c100 F.cln F.cln (by omega) (by omega) (by omega) (by omega), h_b1_s]
    have W1 : WI [x + 10, x + 11] σ (h_setA σ (x + 11) (va_cpy (h_iv σ (x + 11)) (h_iv σ (x + 11)) (8 * ring f i) (8 * ring f (i + 1)) 8)) := WI_A (by simp)
    have c1 := fun t j ht hj => cp_cel (σ := σ) (x := x) (f := f) (q := i) (q' := i + 1) (by omega) (by omega) (t := t) (j := j) ht hj
    have i1 : ∀ j, h_iv (h_setA σ (x + 11) (va_cpy (h_iv σ (x + 11)) (h_iv σ (x + 11)) (8 * ring f i) (8 * ring f (i + 1)) 8)) (x + 10) j = h_iv σ (x + 10) j := fun j => iv_sAa (by omega)
    generalize h_setA σ (x + 11) (va_cpy (h_iv σ (x + 11)) (h_iv σ (x + 11)) (8 * ring f i) (8 * ring f (i + 1)) 8) = s1 at W1 c1 i1
    obtain ⟨σ', r1, r2, r3, r4, r5, r6⟩ := g_remove hf2 i m' s1 (W1.fx F) (by rw [i1]; exact hf) (by omega) (by omega)
    have em : nI (i + 1) + -nI 1 = nI i := by
      have : nI (i + 1) + -nI 1 = nI (i + 1) - nI 1 := (Int32.sub_eq_add_neg _ _).symm
      rw [this, pk_sub (by omega)]; rfl
    rw [em]
    refine ⟨σ', r1, W1.tr r2, r3, by rw [r4, i1]; rfl, by rw [r5, i1], fun t j ht hj => ?_⟩
    rw [r6 t j ht hj]
    by_cases ha : 1 ≤ t ∧ t ≤ i
    · rw [if_pos ha, if_pos (by omega), c1 (t - 1) j (by omega) hj, if_neg (by omega)]
    · rw [if_neg ha, c1 t j ht hj]
      by_cases hb : t = i + 1
      · rw [if_pos hb, if_pos (by omega), show t - 1 = i by omega]
      · rw [if_neg hb, if_neg (by omega)]
theorem ring_s (f q : Nat) : ring (ring f 1) q = ring f (q + 1) := by
  unfold ring
  omega
theorem c_remove (F : Fx σ x) (R : Rx fx σ x ms) {n k : Nat} (hn : ms.1 36 = nI n) (h : n ≤ 200) (hk : k < n) : ∃ σ', f_X5_remove σ (some (x + 10)) (nI k) = some ((), σ') ∧ WI [x + 10, x + 11] σ σ' ∧ Rx fx σ' x (takeM ms n k) := by
  obtain ⟨f, n', a1, a2, a3, a4, a5, a6, a7⟩ := R
  have en : n' = n := (nI_eq (by omega) (by omega)).mp (a5.symm.trans hn)
  subst en
  unfold f_X5_remove
  obtain ⟨σ', r1, r2, r3, r4, r5, r6⟩ := g_remove a1 k h_hN σ F a3 (by omega) (h_hN_lt (by omega))
  refine ⟨σ', r1, r2, ring f 1, n' - 1, ring_lt f 1, by omega, r3, ?_, takeM_36, ?_, fun q j hq hj => ?_⟩
  · rw [r4, a4, show (1 : Int32) = nI 1 from rfl, pk_sub (by omega)]
  · rw [r5, a6, takeM_s (by decide)]
  · have e1 : cel σ' x (ring f 1) q j = cel σ' x f (q + 1) j := by unfold cel; rw [ring_s]
    rw [e1, r6 (q + 1) j (by omega) hj, takeM_37 (show 6 < 8 by omega) hk, takeM_37 hj hk]
    by_cases hc : k ≤ q ∧ q < n' - 1
    · rw [if_neg (show ¬(1 ≤ q + 1 ∧ q + 1 ≤ k) by omega), if_pos hc]
      exact a7 (q + 1) j (by omega) hj
    · rw [if_pos (show 1 ≤ q + 1 ∧ q + 1 ≤ k by omega), if_neg hc, show q + 1 - 1 = q by omega]
      exact a7 q j (by omega) hj
-- the draft
theorem d_s (F : Fx σ x) {i : Nat} {v : Int32} (hi : i < 6) : h_gR σ (some x) 10 6 = some (some (x + 13)) ∧ h_sI σ (some (x + 13)) 100 (nI i) v = some (h_setI σ (x + 13) i v) := ⟨by rw [gR_s F.1, F.rDraft], sI_s F.d100 F.dln hi (by omega)⟩
/-- six numbers in the draft, then the message comes -/
theorem c_draft (F : Fx σ x) (R : Rx fx σ x ms) {n : Nat} (hn : ms.1 36 = nI n) (h : n ≤ 200) {σ6 : HS} (W : WI [x + 13] σ σ6) {a b c d e f kd to : Int32} (h0 : h_iv σ6 (x + 13) 0 = a) (h1 : h_iv σ6 (x + 13) 1 = b) (h2 : h_iv σ6 (x + 13) 2 = c) (h3 : h_iv σ6 (x + 13) 3 = d) (h4 : h_iv σ6 (x + 13) 4 = e) (h5 : h_iv σ6 (x + 13) 5 = f) :
    ∃ σ', f_X5_add σ6 (some (x + 10)) kd to (some (x + 13)) = some ((), σ') ∧ WI [x + 10, x + 11, x + 13] σ σ' ∧ Rx fx σ' x (postM ms n (mG a b c d e f kd to)) := by
  have R6 : Rx fx σ6 x ms := R.to (W.sm (by simp)) (W.sm (by simp)) rfl rfl (fun _ => rfl)
  obtain ⟨σ', r1, r2, r3⟩ := c_add (W.fx F) R6 hn h (kd := kd) (to := to) (g := mG a b c d e f kd to) (fun j hj => by
    rcases (show j = 0 ∨ j = 1 ∨ j = 2 ∨ j = 3 ∨ j = 4 ∨ j = 5 by omega) with rfl | rfl | rfl | rfl | rfl | rfl
    · exact Or.inr h0
    · exact Or.inr h1
    · exact Or.inr h2
    · exact Or.inr h3
    · exact Or.inr h4
    · exact Or.inr h5) rfl rfl
  exact ⟨σ', r1, (W.up (by simp)).tr (r2.up (by intro b hb; simp at hb ⊢; omega)), r3⟩
/-- six writes -/
theorem d6 {a b c d e f : Int32} : WI [x + 13] σ (h_setI (h_setI (h_setI (h_setI (h_setI (h_setI σ (x + 13) 0 a) (x + 13) 1 b) (x + 13) 2 c) (x + 13) 3 d) (x + 13) 4 e) (x + 13) 5 f) ∧ ∀ τ, τ = h_setI (h_setI (h_setI (h_setI (h_setI (h_setI σ (x + 13) 0 a) (x + 13) 1 b) (x + 13) 2 c) (x + 13) 3 d) (x + 13) 4 e) (x + 13) 5 f → h_iv τ (x + 13) 0 = a ∧ h_iv τ (x + 13) 1 = b ∧ h_iv τ (x + 13) 2 = c ∧ h_iv τ (x + 13) 3 = d ∧ h_iv τ (x + 13) 4 = e ∧ h_iv τ (x + 13) 5 = f := by
  refine ⟨((((((WI_I (by simp)).tr (WI_I (by simp))).tr (WI_I (by simp))).tr (WI_I (by simp))).tr (WI_I (by simp))).tr (WI_I (by simp))), fun τ ht => ?_⟩
  subst ht
  refine ⟨?_, ?_, ?_, ?_, ?_, ?_⟩
  · rw [iv_sIk (by decide), iv_sIk (by decide), iv_sIk (by decide), iv_sIk (by decide), iv_sIk (by decide), iv_sI]
  · rw [iv_sIk (by decide), iv_sIk (by decide), iv_sIk (by decide), iv_sIk (by decide), iv_sI]
  · rw [iv_sIk (by decide), iv_sIk (by decide), iv_sIk (by decide), iv_sI]
  · rw [iv_sIk (by decide), iv_sIk (by decide), iv_sI]
  · rw [iv_sIk (by decide), iv_sI]
  · rw [iv_sI]
theorem dw (F : Fx σ x) {k i : Nat} {v w : Int32} (hi : i < 6) : h_gR (h_setI σ (x + 13) k w) (some x) 10 6 = some (some (x + 13)) ∧ h_sI (h_setI σ (x + 13) k w) (some (x + 13)) 100 (nI i) v = some (h_setI (h_setI σ (x + 13) k w) (x + 13) i v) := d_s ((WI_I (L := [x + 13]) (by simp) : WI [x + 13] σ _).fx F) hi
theorem c_postShort (F : Fx σ x) (R : Rx fx σ x ms) {n : Nat} (hn : ms.1 36 = nI n) (h : n ≤ 200) (kd to a b c : Int32) : ∃ σ', f_X9_postShort σ (some x) kd to a b c = some ((), σ') ∧ WI [x + 10, x + 11, x + 13] σ σ' ∧ Rx fx σ' x (postM ms n (mG a b c 0 0 0 kd to)) := by
  unfold f_X9_postShort
  have q0 := d_s (v := a) F (i := 0) (by omega)
  have F1 : Fx (h_setI σ (x + 13) 0 a) x := (WI_I (L := [x + 13]) (by simp) : WI [x + 13] σ _).fx F
  have q1 := d_s (v := b) F1 (i := 1) (by omega)
  have F2 : Fx (h_setI (h_setI σ (x + 13) 0 a) (x + 13) 1 b) x := (WI_I (L := [x + 13]) (by simp) : WI [x + 13] _ _).fx F1
  have q2 := d_s (v := c) F2 (i := 2) (by omega)
  have F3 : Fx (h_setI (h_setI (h_setI σ (x + 13) 0 a) (x + 13) 1 b) (x + 13) 2 c) x := (WI_I (L := [x + 13]) (by simp) : WI [x + 13] _ _).fx F2
  have q3 := d_s (v := 0) F3 (i := 3) (by omega)
  have F4 : Fx (h_setI (h_setI (h_setI (h_setI σ (x + 13) 0 a) (x + 13) 1 b) (x + 13) 2 c) (x + 13) 3 0) x := (WI_I (L := [x + 13]) (by simp) : WI [x + 13] _ _).fx F3
  have q4 := d_s (v := 0) F4 (i := 4) (by omega)
  have F5 : Fx (h_setI (h_setI (h_setI (h_setI (h_setI σ (x + 13) 0 a) (x + 13) 1 b) (x + 13) 2 c) (x + 13) 3 0) (x + 13) 4 0) x := (WI_I (L := [x + 13]) (by simp) : WI [x + 13] _ _).fx F4
  have q5 := d_s (v := 0) F5 (i := 5) (by omega)
  obtain ⟨W, hv⟩ := d6 (σ := σ) (x := x) (a := a) (b := b) (c := c) (d := 0) (e := 0) (f := 0)
  obtain ⟨v0, v1, v2, v3, v4, v5⟩ := hv _ rfl
  have F6 := W.fx F
  obtain ⟨σ', r1, r2, r3⟩ := c_draft F R hn h W v0 v1 v2 v3 v4 v5 (kd := kd) (to := to)
  refine ⟨σ', ?_, r2, r3⟩
  rw [q0.1, h_b1_s, (show h_sI σ (some (x + 13)) 100 0 a = _ from q0.2), h_b1_s, q1.1, h_b1_s, (show h_sI _ (some (x + 13)) 100 1 b = _ from q1.2), h_b1_s, q2.1, h_b1_s, (show h_sI _ (some (x + 13)) 100 2 c = _ from q2.2), h_b1_s, q3.1, h_b1_s, (show h_sI _ (some (x + 13)) 100 3 0 = _ from q3.2), h_b1_s, q4.1, h_b1_s, (show h_sI _ (some (x + 13)) 100 4 0 = _ from q4.2), h_b1_s, q5.1, h_b1_s, (show h_sI _ (some (x + 13)) 100 5 0 = _ from q5.2), h_b1_s, gR_s F6.1, F6.rRow, h_b1_s, gR_s F6.1, F6.rDraft, h_b1_s, rcv_s F6.rw6, h_b1_s, r1, h_bd_s]
end ROX
end
/-! from 66.acts -/
section
/-! WRITES THAT KEEP THE TWO SIDES TOGETHER -/
section ACT
variable {fx : Bool} {σ σ' : HS} {x : Nat} {G : Nat → Nat → Nat} {ms ms' : MS} {L : List Nat}
theorem Sx_WI (S : Sx σ x G ms) (F : Fx σ x) (W : WI L σ σ') (hL : ∀ a, a ∈ L → h_tg σ a = 10 ∨ h_tg σ a = 6 ∨ h_tg σ a = 100 ∨ h_tg σ a = 4 ∨ h_tg σ a = 8 ∨ h_tg σ a = 3) (e1 : ms'.1 1 = ms.1 1) (e2 : ∀ k j, 3 ≤ k → k ≤ 12 → ms'.2.1 k j = ms.2.1 k j) (e3 : ms'.2.2 = ms.2.2) : Sx σ' x G ms' := by
  have nt : ∀ b, h_tg σ b ≠ 10 → h_tg σ b ≠ 6 → h_tg σ b ≠ 100 → h_tg σ b ≠ 4 → h_tg σ b ≠ 8 → h_tg σ b ≠ 3 → b ∉ L := fun b h1 h2 h3 h4 h5 h6 hb => by
    rcases hL b hb with h | h | h | h | h | h
    · exact h1 h
    · exact h2 h
    · exact h3 h
    · exact h4 h
    · exact h5 h
    · exact h6 h
  refine S.to (W.sm (nt _ ?_ ?_ ?_ ?_ ?_ ?_)) (fun b hb => W.sm (nt b ?_ ?_ ?_ ?_ ?_ ?_)) (fun i hi hp => W.sm (nt _ ?_ ?_ ?_ ?_ ?_ ?_)) e1 e2 e3
  all_goals first
    | (rw [F.2.2.2.1.1]; decide)
    | (rcases hb with h | h | h | h <;> rw [h] <;> decide)
    | (rw [((S.2.2 i hi).2 hp).2.2.2.2.2.2.1.2.1]; decide)
theorem Tx_WI (T : Tx fx σ x G ms) (F : Fx σ x) (W : WI L σ σ') (hL : ∀ a, a ∈ L → h_tg σ a = 10 ∨ h_tg σ a = 6 ∨ h_tg σ a = 100 ∨ h_tg σ a = 4) (e1 : ms'.1 1 = ms.1 1) (e2 : ∀ k j, 14 ≤ k → k ≤ 24 → ms'.2.1 k j = ms.2.1 k j) : Tx fx σ' x G ms' := by
  have nt : ∀ b, h_tg σ b ≠ 10 → h_tg σ b ≠ 6 → h_tg σ b ≠ 100 → h_tg σ b ≠ 4 → b ∉ L := fun b h1 h2 h3 h4 hb => by
    rcases hL b hb with h | h | h | h
    · exact h1 h
    · exact h2 h
    · exact h3 h
    · exact h4 h
  refine T.to (W.sm (nt _ ?_ ?_ ?_ ?_)) (fun b hb => W.sm (nt b ?_ ?_ ?_ ?_)) e1 e2
  all_goals first
    | (rw [F.2.2.2.2.1.1]; decide)
    | (rcases hb with h | h | h | h | h | h <;> rw [h] <;> decide)
theorem Kx_WI (K : Kx σ x G ms) (F : Fx σ x) (W : WI L σ σ') (hL : ∀ a, a ∈ L → h_tg σ a = 10 ∨ h_tg σ a = 6 ∨ h_tg σ a = 100 ∨ h_tg σ a = 8 ∨ h_tg σ a = 3) (e1 : ms'.1 28 = ms.1 28) (e2 : ∀ k j, 29 ≤ k → k ≤ 35 → ms'.2.1 k j = ms.2.1 k j) : Kx σ' x G ms' := by
  have nt : ∀ b, h_tg σ b ≠ 10 → h_tg σ b ≠ 6 → h_tg σ b ≠ 100 → h_tg σ b ≠ 8 → h_tg σ b ≠ 3 → b ∉ L := fun b h1 h2 h3 h4 h5 hb => by
    rcases hL b hb with h | h | h | h | h
    · exact h1 h
    · exact h2 h
    · exact h3 h
    · exact h4 h
    · exact h5 h
  refine K.to (W.sm (nt _ ?_ ?_ ?_ ?_ ?_)) (fun b hb => W.sm (nt b ?_ ?_ ?_ ?_ ?_)) e1 e2
  all_goals first
    | (rw [F.2.2.2.2.2.2.2.2.2.2.2.1]; decide)
    | (rw [hb]; decide)
theorem Zx_WI (W : WI L σ σ') (Z : Zx σ x) : Zx σ' x := by
  unfold Zx at *
  rw [W.1, W.2.2.2.2.1.1]
  exact Z
/-- a message has come -/
theorem Rep_post (P : Rep fx σ x G ms) (W : WI [x + 10, x + 11, x + 13] σ σ') {n : Nat} {f : Nat → Int32} (R : Rx fx σ' x (postM ms n f)) : Rep fx σ' x G (postM ms n f) := by
  obtain ⟨Z, F, N, -, Wn, K, S, T⟩ := P
  have hL : ∀ a, a ∈ [x + 10, x + 11, x + 13] → h_tg σ a = 6 ∨ h_tg σ a = 100 := by
    intro a ha
    simp only [List.mem_cons, List.mem_nil_iff, or_false] at ha
    rcases ha with rfl | rfl | rfl
    · exact Or.inl F.rw6
    · exact Or.inr F.c100
    · exact Or.inr F.d100
  refine ⟨Zx_WI W Z, W.fx F, N.to (W.sm (by simp)) (postM_s (by decide) (by decide)) (postM_s (by decide) (by decide)) (postM_s (by decide) (by decide)) (postM_s (by decide) (by decide)) (postM_s (by decide) (by decide)) (postM_s (by decide) (by decide)), R, Wn.to (W.sm (by simp)) (W.sm (by simp)) (postM_s (by decide) (by decide)) (fun j => postM_k (by decide)) (fun j => postM_k (by decide)), Kx_WI K F W (fun a ha => ?_) (postM_s (by decide) (by decide)) (fun k j h1 h2 => postM_k (by omega)), Sx_WI S F W (fun a ha => ?_) (postM_s (by decide) (by decide)) (fun k j h1 h2 => postM_k (by omega)) postM_L, Tx_WI T F W (fun a ha => ?_) (postM_s (by decide) (by decide)) (fun k j h1 h2 => postM_k (by omega))⟩
  · rcases hL a ha with h | h <;> rw [h] <;> decide
  · rcases hL a ha with h | h <;> rw [h] <;> decide
  · rcases hL a ha with h | h <;> rw [h] <;> decide
/-- a plain int of the object -/
def xk (k : Nat) : Nat := if k = 10 then 2 else if k = 11 then 39 else if k = 12 then 40 else 41
theorem Rep_xi (P : Rep fx σ x G ms) {k : Nat} {v : Int32} (hk : k = 10 ∨ k = 11 ∨ k = 12 ∨ k = 13) : Rep fx (h_setI σ x k v) x G (k_pI ms (xk k) v) := by
  obtain ⟨Z, F, N, R, Wn, K, S, T⟩ := P
  have W : WI [x] σ (h_setI σ x k v) := WI_I (by simp)
  have hx : ∀ a, a ∈ [x] → h_tg σ a = 10 := fun a ha => by rw [List.mem_singleton.mp ha]; exact F.1
  have hxk : xk k = 2 ∨ xk k = 39 ∨ xk k = 40 ∨ xk k = 41 := by rcases hk with rfl | rfl | rfl | rfl <;> decide
  refine ⟨Zx_WI W Z, W.fx F, ?_, R.to (W.sm (by simp)) (W.sm (by simp)) (pI_n1 (by omega)) (pI_n1 (by omega)) (fun _ => rfl), Wn.to (W.sm (by simp)) (W.sm (by simp)) (pI_n1 (by omega)) (fun _ => rfl) (fun _ => rfl), Kx_WI K F W (fun a ha => Or.inl (hx a ha)) (pI_n1 (by omega)) (fun _ _ _ _ => rfl), Sx_WI S F W (fun a ha => Or.inl (hx a ha)) (pI_n1 (by omega)) (fun _ _ _ _ => rfl) rfl, Tx_WI T F W (fun a ha => Or.inl (hx a ha)) (pI_n1 (by omega)) (fun _ _ _ _ => rfl)⟩
  obtain ⟨n1, n2, n3, n4, n5, n6⟩ := N
  rcases hk with rfl | rfl | rfl | rfl
  · exact ⟨by rw [iv_sIk (by decide), pI_n1 (by decide)]; exact n1, by rw [iv_sIk (by decide), pI_n1 (by decide)]; exact n2, by rw [iv_sI]; exact pI_s1.symm, by rw [iv_sIk (by decide), pI_n1 (by decide)]; exact n4, by rw [iv_sIk (by decide), pI_n1 (by decide)]; exact n5, by rw [iv_sIk (by decide), pI_n1 (by decide)]; exact n6⟩
  · exact ⟨by rw [iv_sIk (by decide), pI_n1 (by decide)]; exact n1, by rw [iv_sIk (by decide), pI_n1 (by decide)]; exact n2, by rw [iv_sIk (by decide), pI_n1 (by decide)]; exact n3, by rw [iv_sI]; exact pI_s1.symm, by rw [iv_sIk (by decide), pI_n1 (by decide)]; exact n5, by rw [iv_sIk (by decide), pI_n1 (by decide)]; exact n6⟩
  · exact ⟨by rw [iv_sIk (by decide), pI_n1 (by decide)]; exact n1, by rw [iv_sIk (by decide), pI_n1 (by decide)]; exact n2, by rw [iv_sIk (by decide), pI_n1 (by decide)]; exact n3, by rw [iv_sIk (by decide), pI_n1 (by decide)]; exact n4, by rw [iv_sI]; exact pI_s1.symm, by rw [iv_sIk (by decide), pI_n1 (by decide)]; exact n6⟩
  · exact ⟨by rw [iv_sIk (by decide), pI_n1 (by decide)]; exact n1, by rw [iv_sIk (by decide), pI_n1 (by decide)]; exact n2, by rw [iv_sIk (by decide), pI_n1 (by decide)]; exact n3, by rw [iv_sIk (by decide), pI_n1 (by decide)]; exact n4, by rw [iv_sIk (by decide), pI_n1 (by decide)]; exact n5, by rw [iv_sI]; exact pI_s1.symm⟩
/-- an int of a packet -/
theorem Rep_pk (P : Rep fx σ x G ms) {i k np : Nat} {v : Int32} (hnp : ms.1 28 = nI np) (hnp2 : np ≤ 200) (hi : i < np) (hk : 3 ≤ k ∧ k ≤ 7) : Rep fx (h_setI σ (G 7 i) k v) x G (aS ms (k + 28) (i + 1) v) := by
  obtain ⟨Z, F, N, R, Wn, K, S, T⟩ := P
  have K0 := K
  obtain ⟨np', k1, k2, k3, k4⟩ := K
  have en : np' = np := (nI_eq (by omega) (by omega)).mp (k2.symm.trans hnp)
  subst en
  have ht := (k4 i hi).2.1
  have W : WI [G 7 i] σ (h_setI σ (G 7 i) k v) := WI_I (by simp)
  have hx : ∀ a, a ∈ [G 7 i] → h_tg σ a = 4 := fun a ha => by rw [List.mem_singleton.mp ha]; exact ht
  have ne : ∀ a t, h_tg σ a = t → t ≠ 4 → a ∉ [G 7 i] := fun a t h1 h2 ha => h2 (h1.symm.trans (hx a ha))
  refine ⟨Zx_WI W Z, W.fx F, N.to (W.sm (ne _ _ F.1 (by decide))) rfl rfl rfl rfl rfl rfl, R.to (W.sm (ne _ _ F.rw6 (by decide))) (W.sm (ne _ _ F.c100 (by decide))) rfl rfl (fun j => aS_k (by omega)), Wn.to (W.sm (ne _ _ F.2.2.2.2.2.1.1 (by decide))) (W.sm (ne _ _ F.2.2.2.2.2.2.1.1 (by decide))) rfl (fun j => aS_k (by omega)) (fun j => aS_k (by omega)), ?_, Sx_WI S F W (fun a ha => by rw [hx a ha]; decide) rfl (fun k' j h1 h2 => aS_k (by omega)) rfl, Tx_WI T F W (fun a ha => by rw [hx a ha]; decide) rfl (fun k' j h1 h2 => aS_k (by omega))⟩
  refine ⟨np', k1, k2, k3, fun q hq => ?_⟩
  obtain ⟨b0, b1, b2, b3, b4, b5, b6, b7, b8, b9⟩ := k4 q hq
  by_cases e : q = i
  · subst e
    refine ⟨b0, b1, ?_, ?_, ?_, ?_, ?_, ?_, ?_, ?_⟩
    · rw [iv_sIk (by omega)]; exact b2
    · rw [iv_sIk (by omega), aS_k (by omega)]; exact b3
    · rw [iv_sIk (by omega), aS_k (by omega)]; exact b4
    · by_cases h : k = 3
      · subst h; rw [iv_sI, aS_s]
      · rw [iv_sIk (by omega), aS_k (by omega)]; exact b5
    · by_cases h : k = 4
      · subst h; rw [iv_sI, aS_s]
      · rw [iv_sIk (by omega), aS_k (by omega)]; exact b6
    · by_cases h : k = 5
      · subst h; rw [iv_sI, aS_s]
      · rw [iv_sIk (by omega), aS_k (by omega)]; exact b7
    · by_cases h : k = 6
      · subst h; rw [iv_sI, aS_s]
      · rw [iv_sIk (by omega), aS_k (by omega)]; exact b8
    · by_cases h : k = 7
      · subst h; rw [iv_sI, aS_s]
      · rw [iv_sIk (by omega), aS_k (by omega)]; exact b9
  · have hG : G 7 q ≠ G 7 i := fun z => e (k3 q i hq hi z)
    rw [iv_sIa hG, iv_sIa hG, iv_sIa hG, iv_sIa hG, iv_sIa hG, iv_sIa hG, iv_sIa hG, iv_sIa hG, aS_j (show q + 1 ≠ i + 1 by omega), aS_j (show q + 1 ≠ i + 1 by omega), aS_j (show q + 1 ≠ i + 1 by omega), aS_j (show q + 1 ≠ i + 1 by omega), aS_j (show q + 1 ≠ i + 1 by omega), aS_j (show q + 1 ≠ i + 1 by omega), aS_j (show q + 1 ≠ i + 1 by omega)]
    exact ⟨b0, b1, b2, b3, b4, b5, b6, b7, b8, b9⟩
end ACT
end
/-! from 67.acts2 -/
section
/-! THE ACTS OF THE ONE SIDE, HELD AGAINST THE OTHER'S: lose, deliver, draw, ask, follow, solicit -/
/-- the heap has grown by dz cells of ds places; the other side's cells are as they were -/
def Kp (x dz ds : Nat) (σ σ' : HS) : Prop := h_sz σ' = h_sz σ + dz ∧ h_sl σ' = h_sl σ + ds ∧ h_cz σ' = h_cz σ ∧ h_ck σ' = h_ck σ ∧ ∀ a, x + 15 ≤ a → a ≤ x + 49 → Sm σ σ' a
theorem Kp.rf {x : Nat} {σ : HS} : Kp x 0 0 σ σ := ⟨rfl, rfl, rfl, rfl, fun _ _ _ => Sm.rf⟩
theorem Kp.tr {x d1 d2 s1 s2 : Nat} {σ σ1 σ2 : HS} (h : Kp x d1 s1 σ σ1) (h' : Kp x d2 s2 σ1 σ2) : Kp x (d1 + d2) (s1 + s2) σ σ2 := by
  obtain ⟨a1, a2, a3, a4, a5⟩ := h
  obtain ⟨b1, b2, b3, b4, b5⟩ := h'
  exact ⟨by rw [b1, a1]; omega, by rw [b2, a2]; omega, b3.trans a3, b4.trans a4, fun a h1 h2 => (a5 a h1 h2).tr (b5 a h1 h2)⟩
theorem Kp.tr0 {x : Nat} {σ σ1 σ2 : HS} (h : Kp x 0 0 σ σ1) (h' : Kp x 0 0 σ1 σ2) : Kp x 0 0 σ σ2 := h.tr h'
theorem aS_comm {ms : MS} {k k' j j' : Nat} {v v' : Int32} (h : k ≠ k') : aS (aS ms k j v) k' j' v' = aS (aS ms k' j' v') k j v := by
  unfold aS
  refine Prod.ext rfl (Prod.ext ?_ rfl)
  funext a b
  show h_up2 (h_up2 ms.2.1 k j v) k' j' v' a b = h_up2 (h_up2 ms.2.1 k' j' v') k j v a b
  unfold h_up2
  by_cases h1 : a = k' ∧ b = j'
  · rw [if_pos h1, if_neg (fun z => h (z.1.symm.trans h1.1)), if_pos h1]
  · rw [if_neg h1]
    by_cases h2 : a = k ∧ b = j
    · rw [if_pos h2, if_pos h2]
    · rw [if_neg h2, if_neg h2, if_neg h1]
section AC2
variable {fx : Bool} {σ : HS} {x : Nat} {G : Nat → Nat → Nat} {ms : MS}
theorem Kp_WI {L : List Nat} {σ' : HS} (Z : Zx σ x) (W : WI L σ σ') (hL : ∀ a, a ∈ L → a < x + 15 ∨ h_tg σ a = 4 ∨ h_tg σ a = 8 ∨ h_tg σ a = 3) : Kp x 0 0 σ σ' := by
  refine ⟨W.2.2.2.2.1.1, W.2.2.2.2.1.2.1, W.2.2.2.2.1.2.2.1, W.2.2.2.2.1.2.2.2, fun a h1 h2 => W.sm (fun ha => ?_)⟩
  have ht := Z.2.2 a h1 h2
  rcases hL a ha with h | h | h | h
  · omega
  · rw [h] at ht; revert ht; decide
  · rw [h] at ht; revert ht; decide
  · rw [h] at ht; revert ht; decide
/-- a packet: where it stands -/
theorem Rep_np (P : Rep fx σ x G ms) : ∃ np, np ≤ 200 ∧ ms.1 28 = nI np := by
  obtain ⟨np, k1, k2, -⟩ := P.2.2.2.2.2.1
  exact ⟨np, k1, k2⟩
theorem Rep_n (P : Rep fx σ x G ms) : ∃ n, n ≤ 200 ∧ ms.1 36 = nI n := by
  obtain ⟨f, n, a1, a2, a3, a4, a5, -⟩ := P.2.2.2.1
  exact ⟨n, a2, a5⟩
theorem pkt (P : Rep fx σ x G ms) {i np : Nat} (hnp : ms.1 28 = nI np) (hnp2 : np ≤ 200) (hi : i < np) : h_tg σ (G 7 i) = 4 ∧ h_iv σ (G 7 i) 0 = nI (i + 1) ∧ h_iv σ (G 7 i) 1 = ms.2.1 29 (i + 1) ∧ h_iv σ (G 7 i) 2 = ms.2.1 30 (i + 1) ∧ h_iv σ (G 7 i) 3 = ms.2.1 31 (i + 1) ∧ h_iv σ (G 7 i) 4 = ms.2.1 32 (i + 1) ∧ h_iv σ (G 7 i) 5 = ms.2.1 33 (i + 1) ∧ h_iv σ (G 7 i) 6 = ms.2.1 34 (i + 1) ∧ h_iv σ (G 7 i) 7 = ms.2.1 35 (i + 1) := by
  obtain ⟨np', k1, k2, k3, k4⟩ := P.2.2.2.2.2.1
  have en : np' = np := (nI_eq (by omega) (by omega)).mp (k2.symm.trans hnp)
  subst en
  exact (k4 i hi).2
theorem Kp_pk (P : Rep fx σ x G ms) {i np k : Nat} {v : Int32} (hnp : ms.1 28 = nI np) (hnp2 : np ≤ 200) (hi : i < np) : Kp x 0 0 σ (h_setI σ (G 7 i) k v) := Kp_WI P.1 (WI_I (L := [G 7 i]) (by simp)) (fun a ha => by rw [List.mem_singleton.mp ha]; exact Or.inr (Or.inl (pkt P hnp hnp2 hi).1))
theorem Kp_x (P : Rep fx σ x G ms) {k : Nat} {v : Int32} : Kp x 0 0 σ (h_setI σ x k v) := Kp_WI P.1 (WI_I (L := [x]) (by simp)) (fun a ha => by rw [List.mem_singleton.mp ha]; exact Or.inl (by omega))
theorem Kp_post (P : Rep fx σ x G ms) {σ' : HS} (W : WI [x + 10, x + 11, x + 13] σ σ') : Kp x 0 0 σ σ' := Kp_WI P.1 W (fun a ha => by simp only [List.mem_cons, List.mem_nil_iff, or_false] at ha; exact Or.inl (by omega))
theorem a_lose (P : Rep fx σ x G ms) {i np : Nat} (hnp : ms.1 28 = nI np) (hnp2 : np ≤ 200) (hi : i < np) : ∃ σ', f_X3_lose σ (some (G 7 i)) = some ((), σ') ∧ Rep fx σ' x G (losM ms (i + 1)) ∧ Kp x 0 0 σ σ' := by
  obtain ⟨t0, -, -, -, t3, -⟩ := pkt P hnp hnp2 hi
  unfold f_X3_lose losM
  rw [gI_s t0, t3, h_b1_s]
  by_cases h : ms.2.1 31 (i + 1) = 1
  · rw [if_pos h, if_pos h, pI_s t0, h_b1_s]
    exact ⟨_, rfl, Rep_pk P hnp hnp2 hi (k := 3) (by omega), Kp_pk P hnp hnp2 hi⟩
  · rw [if_neg h, if_neg h]
    exact ⟨σ, rfl, P, Kp.rf⟩
theorem a_deliver (P : Rep fx σ x G ms) {i np : Nat} (s : Int32) (hnp : ms.1 28 = nI np) (hnp2 : np ≤ 200) (hi : i < np) : ∃ σ', f_X3_arriveAt σ (some (G 7 i)) s = some ((), σ') ∧ Rep fx σ' x G (dlvM ms (i + 1) s) ∧ Kp x 0 0 σ σ' := by
  have t0 := (pkt P hnp hnp2 hi).1
  unfold f_X3_arriveAt dlvM
  rw [pI_s t0, h_b1_s]
  have P1 := Rep_pk P (v := 2) hnp hnp2 hi (k := 3) (by omega)
  have K1 := Kp_pk P (k := 3) (v := 2) hnp hnp2 hi
  have e1 : h_iv (h_setI σ (G 7 i) 3 2) (G 7 i) 7 = ms.2.1 35 (i + 1) := by
    rw [iv_sIk (by decide)]; exact (pkt P hnp hnp2 hi).2.2.2.2.2.2.2.2
  generalize h_setI σ (G 7 i) 3 2 = s1 at P1 K1 e1
  have t1 := (pkt P1 (by exact hnp) hnp2 hi).1
  rw [gI_s t1, e1, h_b1_s]
  by_cases h : ms.2.1 35 (i + 1) = 0
  · rw [if_pos h, if_pos h, pI_s t1, h_b1_s]
    have P2 := Rep_pk P1 (v := s) (by exact hnp) hnp2 hi (k := 5) (by omega)
    have K2 := Kp_pk P1 (k := 5) (v := s) (by exact hnp) hnp2 hi
    have e2 : h_iv (h_setI s1 (G 7 i) 5 s) (G 7 i) 7 = ms.2.1 35 (i + 1) := by rw [iv_sIk (by decide)]; exact e1
    generalize h_setI s1 (G 7 i) 5 s = s2 at P2 K2 e2
    have t2 := (pkt P2 (by exact hnp) hnp2 hi).1
    rw [gI_s t2, e2, h_b1_s, pI_s t2, h_b1_s]
    refine ⟨_, rfl, ?_, (K1.tr0 K2).tr0 (Kp_pk P2 (by exact hnp) hnp2 hi)⟩
    have P3 := Rep_pk P2 (v := ms.2.1 35 (i + 1) + 1) (by exact hnp) hnp2 hi (k := 7) (by omega)
    have e : aS (aS (aS ms 31 (i + 1) 2) 33 (i + 1) s) 35 (i + 1) (ms.2.1 35 (i + 1) + 1) = aS (aS (aS ms 33 (i + 1) s) 35 (i + 1) (ms.2.1 35 (i + 1) + 1)) 31 (i + 1) 2 := by
      rw [aS_comm (k := 31) (k' := 33) (by decide), aS_comm (k := 31) (k' := 35) (by decide)]
    rw [← e]
    exact P3
  · rw [if_neg h, if_neg h, h_b1_s, pI_s t1, h_b1_s]
    refine ⟨_, rfl, ?_, K1.tr0 (Kp_pk P1 (by exact hnp) hnp2 hi)⟩
    have P3 := Rep_pk P1 (v := ms.2.1 35 (i + 1) + 1) (by exact hnp) hnp2 hi (k := 7) (by omega)
    rw [aS_comm (k := 35) (k' := 31) (by decide)]
    exact P3
theorem a_draw (P : Rep fx σ x G ms) : ∃ σ', f_X9_draw σ (some x) = some (drw (ms.1 2), σ') ∧ Rep fx σ' x G (k_pI ms 2 (drw (ms.1 2))) ∧ Kp x 0 0 σ σ' ∧ WI [x] σ σ' := by
  have F := P.2.1
  have n3 := P.2.2.1.2.2.1
  unfold f_X9_draw
  rw [gI_s F.1, n3, h_b1_s, h_b1_s, pI_s F.1, h_b1_s]
  have P1 := Rep_xi P (k := 10) (v := ms.1 2 ^^^ (ms.1 2 <<< (13 &&& 31))) (by omega)
  have K1 := Kp_x P (k := 10) (v := ms.1 2 ^^^ (ms.1 2 <<< (13 &&& 31)))
  have W1 : WI [x] σ (h_setI σ x 10 (ms.1 2 ^^^ (ms.1 2 <<< (13 &&& 31)))) := WI_I (by simp)
  have e1 : h_iv (h_setI σ x 10 (ms.1 2 ^^^ (ms.1 2 <<< (13 &&& 31)))) x 10 = ms.1 2 ^^^ (ms.1 2 <<< (13 &&& 31)) := iv_sI
  generalize ea : ms.1 2 ^^^ (ms.1 2 <<< (13 &&& 31)) = a at P1 K1 W1 e1
  generalize h_setI σ x 10 a = s1 at P1 K1 W1 e1
  have F1 := P1.2.1
  rw [gI_s F1.1, e1, h_b1_s, h_b1_s, pI_s F1.1, h_b1_s]
  have P2 := Rep_xi P1 (k := 10) (v := a ^^^ h_ushr a 17) (by omega)
  have K2 := Kp_x P1 (k := 10) (v := a ^^^ h_ushr a 17)
  have W2 : WI [x] s1 (h_setI s1 x 10 (a ^^^ h_ushr a 17)) := WI_I (by simp)
  have e2 : h_iv (h_setI s1 x 10 (a ^^^ h_ushr a 17)) x 10 = a ^^^ h_ushr a 17 := iv_sI
  generalize eb : a ^^^ h_ushr a 17 = b at P2 K2 W2 e2
  generalize h_setI s1 x 10 b = s2 at P2 K2 W2 e2
  have F2 := P2.2.1
  rw [gI_s F2.1, e2, h_b1_s, h_b1_s, pI_s F2.1, h_b1_s]
  have P3 := Rep_xi P2 (k := 10) (v := b ^^^ (b <<< (5 &&& 31))) (by omega)
  have K3 := Kp_x P2 (k := 10) (v := b ^^^ (b <<< (5 &&& 31)))
  have W3 : WI [x] s2 (h_setI s2 x 10 (b ^^^ (b <<< (5 &&& 31)))) := WI_I (by simp)
  have e3 : h_iv (h_setI s2 x 10 (b ^^^ (b <<< (5 &&& 31)))) x 10 = b ^^^ (b <<< (5 &&& 31)) := iv_sI
  have ed : b ^^^ (b <<< (5 &&& 31)) = drw (ms.1 2) := by
    unfold drw
    rw [ea, eb]
  rw [ed] at P3 K3 W3 e3 ⊢
  generalize h_setI s2 x 10 (drw (ms.1 2)) = s3 at P3 K3 W3 e3
  have F3 := P3.2.1
  rw [gI_s F3.1, e3, h_b1_s]
  refine ⟨s3, rfl, ?_, (K1.tr0 K2).tr0 K3, (W1.tr W2).tr W3⟩
  have : k_pI (k_pI (k_pI ms (xk 10) a) (xk 10) b) (xk 10) (drw (ms.1 2)) = k_pI ms 2 (drw (ms.1 2)) := by
    rw [pI_pI, pI_pI]; rfl
  rw [← this]
  exact P3
theorem a_postShort (P : Rep fx σ x G ms) {n : Nat} (hn : ms.1 36 = nI n) (h : n ≤ 200) (kd to a b c : Int32) : ∃ σ', f_X9_postShort σ (some x) kd to a b c = some ((), σ') ∧ Rep fx σ' x G (postM ms n (mG a b c 0 0 0 kd to)) ∧ Kp x 0 0 σ σ' := by
  obtain ⟨σ', r1, r2, r3⟩ := c_postShort P.2.1 P.2.2.2.1 hn h kd to a b c
  exact ⟨σ', r1, Rep_post P r2 r3, Kp_post P r2⟩
theorem a_ask (P : Rep fx σ x G ms) {n i np : Nat} (sv : Int32) (hn : ms.1 36 = nI n) (h : n ≤ 200) (hnp : ms.1 28 = nI np) (hnp2 : np ≤ 200) (hi : i < np) : ∃ σ', f_X9_postRequest σ (some x) sv (some (G 7 i)) = some ((), σ') ∧ Rep fx σ' x G (askM ms n (i + 1) sv) ∧ Kp x 0 0 σ σ' := by
  unfold f_X9_postRequest askM
  obtain ⟨s1, r1, P1, K1, -⟩ := a_draw P
  rw [rcv_s P.2.1.1, h_b1_s, r1, h_bd_s]
  generalize drw (ms.1 2) = g at P1
  have hnp1 : (k_pI ms 2 g).1 28 = nI np := by rw [pI_n1 (by decide)]; exact hnp
  have t1 := (pkt P1 hnp1 hnp2 hi).1
  rw [pI_s t1, h_b1_s]
  have P2 := Rep_pk P1 (v := g) hnp1 hnp2 hi (k := 4) (by omega)
  have K2 := Kp_pk P1 (k := 4) (v := g) hnp1 hnp2 hi
  generalize h_setI s1 (G 7 i) 4 g = s2 at P2 K2
  have t2 := (pkt P2 hnp1 hnp2 hi).1
  rw [pI_s t2, h_b1_s]
  have P3 := Rep_pk P2 (v := 0) hnp1 hnp2 hi (k := 3) (by omega)
  have K3 := Kp_pk P2 (k := 3) (v := 0) hnp1 hnp2 hi
  generalize h_setI s2 (G 7 i) 3 0 = s3 at P3 K3
  rw [aS_comm (k := 32) (k' := 31) (by decide)] at P3
  obtain ⟨t3, -, f1, f2, -, f4, -⟩ := pkt P3 hnp1 hnp2 hi
  rw [gI_s t3, f1, h_b1_s, gI_s t3, f4, h_b1_s, gI_s t3, f2, h_b1_s, rcv_s P3.2.1.1, h_b1_s]
  obtain ⟨s4, r4, P4, K4⟩ := a_postShort P3 (n := n) (by rw [aS_1, aS_1, pI_n1 (by decide)]; exact hn) h 1 sv ((aS (aS (k_pI ms 2 g) 31 (i + 1) 0) 32 (i + 1) g).2.1 29 (i + 1)) ((aS (aS (k_pI ms 2 g) 31 (i + 1) 0) 32 (i + 1) g).2.1 32 (i + 1)) ((aS (aS (k_pI ms 2 g) 31 (i + 1) 0) 32 (i + 1) g).2.1 30 (i + 1))
  refine ⟨s4, ?_, ?_, ((K1.tr0 K2).tr0 K3).tr0 K4⟩
  · show h_bd (f_X9_postShort s3 (some x) 1 sv _ _ _) _ = _
    rw [r4, h_bd_s]
  · rw [aS_s, aS_k (show (29 : Nat) ≠ 32 by decide), aS_k (show (29 : Nat) ≠ 31 by decide), aS_k (show (30 : Nat) ≠ 32 by decide), aS_k (show (30 : Nat) ≠ 31 by decide)] at P4
    exact P4
theorem a_solicit (P : Rep fx σ x G ms) {n : Nat} (hn : ms.1 36 = nI n) (h : n ≤ 200) (s ep pl : Int32) : ∃ σ', f_X9_postSolicit σ (some x) s ep pl = some ((), σ') ∧ Rep fx σ' x G (postM (k_pI ms 41 (ms.1 41 + 1)) n (mG ep pl 0 0 0 0 4 s)) ∧ Kp x 0 0 σ σ' := by
  have F := P.2.1
  unfold f_X9_postSolicit
  rw [gI_s F.1, P.2.2.1.2.2.2.2.2, h_b1_s, pI_s F.1, h_b1_s]
  have P1 := Rep_xi P (k := 13) (v := ms.1 41 + 1) (by omega)
  have K1 := Kp_x P (k := 13) (v := ms.1 41 + 1)
  generalize h_setI σ x 13 (ms.1 41 + 1) = s1 at P1 K1
  rw [rcv_s P1.2.1.1, h_b1_s]
  have P1' : Rep fx s1 x G (k_pI ms 41 (ms.1 41 + 1)) := P1
  obtain ⟨s2, r2, P2, K2⟩ := a_postShort P1' (n := n) (by rw [pI_n1 (by decide)]; exact hn) h 4 s ep pl 0
  exact ⟨s2, by rw [r2, h_bd_s], P2, K1.tr0 K2⟩
/-- what a note says is done -/
theorem a_follow (P : Rep fx σ x G ms) {n i np a : Nat} {pl : Int32} (hn : ms.1 36 = nI n) (h : n ≤ 200) (hnp : ms.1 28 = nI np) (hnp2 : np ≤ 200) (hi : i < np) (ha : h_tg σ a = 2) (hp : h_iv σ a 1 = pl) : ∃ σ', f_X9_follow σ (some x) (some a) (some (G 7 i)) = some ((), σ') ∧ Rep fx σ' x G (folM ms n (i + 1) pl) ∧ Kp x 0 0 σ σ' := by
  have t0 := (pkt P hnp hnp2 hi).1
  have hne : a ≠ G 7 i := fun z => by rw [z, t0] at ha; cases ha
  unfold f_X9_follow folM f_X1_isHole
  rw [rcv_s ha, h_b1_s, gI_s ha, hp, h_b1_s]
  by_cases h1 : pl = -1
  · rw [if_pos h1, if_pos h1, h_bd_s, if_neg (by decide), pI_s t0, h_b1_s]
    exact ⟨_, rfl, Rep_pk P hnp hnp2 hi (k := 3) (by omega), Kp_pk P hnp hnp2 hi⟩
  · rw [if_neg h1, if_neg h1, h_bd_s, if_pos rfl, pI_s t0, h_b1_s]
    have P1 := Rep_pk P (v := 1) hnp hnp2 hi (k := 3) (by omega)
    have K1 := Kp_pk P (k := 3) (v := 1) hnp hnp2 hi
    have ea : h_tg (h_setI σ (G 7 i) 3 1) a = 2 ∧ h_iv (h_setI σ (G 7 i) 3 1) a 1 = pl := ⟨ha, by rw [iv_sIa hne]; exact hp⟩
    generalize h_setI σ (G 7 i) 3 1 = s1 at P1 K1 ea
    obtain ⟨t1, f0, f1, f2, -⟩ := pkt P1 (by exact hnp) hnp2 hi
    rw [gI_s ea.1, ea.2, h_b1_s, gI_s t1, f1, h_b1_s, gI_s t1, f0, h_b1_s, gI_s t1, f2, h_b1_s, rcv_s P1.2.1.1, h_b1_s, aS_k (show (29 : Nat) ≠ 3 + 28 by decide), aS_k (show (30 : Nat) ≠ 3 + 28 by decide)]
    obtain ⟨s2, r2, P2, K2⟩ := a_postShort P1 (n := n) (by exact hn) h 3 pl (ms.2.1 29 (i + 1)) (nI (i + 1)) (ms.2.1 30 (i + 1))
    exact ⟨s2, by rw [r2, h_bd_s], P2, K1.tr0 K2⟩
end AC2
end
