/-! THE TWO SIDES HELD TOGETHER: what the heap of the one says of the numbers of the other -/
/-- the cell a is the same in both -/
def Sm (σ σ' : HS) (a : Nat) : Prop := h_tg σ' a = h_tg σ a ∧ h_ln σ' a = h_ln σ a ∧ (∀ k, h_iv σ' a k = h_iv σ a k) ∧ (∀ k, h_rv σ' a k = h_rv σ a k) ∧ ∀ k, h_lv σ' a k = h_lv σ a k
theorem Sm.rf {σ : HS} {a : Nat} : Sm σ σ a := ⟨rfl, rfl, fun _ => rfl, fun _ => rfl, fun _ => rfl⟩
theorem Sm.tr {σ σ1 σ2 : HS} {a : Nat} (h : Sm σ σ1 a) (h' : Sm σ1 σ2 a) : Sm σ σ2 a := ⟨h'.1.trans h.1, h'.2.1.trans h.2.1, fun k => (h'.2.2.1 k).trans (h.2.2.1 k), fun k => (h'.2.2.2.1 k).trans (h.2.2.2.1 k), fun k => (h'.2.2.2.2 k).trans (h.2.2.2.2 k)⟩
theorem up2_ne {α : Type} {f : Nat → Nat → α} {a k b j : Nat} {v : α} (h : b ≠ a) : h_up2 f a k v b j = f b j := if_neg (fun z => h z.1)
theorem up2_nk {α : Type} {f : Nat → Nat → α} {a k b j : Nat} {v : α} (h : j ≠ k) : h_up2 f a k v b j = f b j := if_neg (fun z => h z.2)
theorem up2_eq {α : Type} {f : Nat → Nat → α} {a k : Nat} {v : α} : h_up2 f a k v a k = v := if_pos ⟨rfl, rfl⟩
theorem upA_ne {α : Type} {f : Nat → Nat → α} {a b j : Nat} {g : Nat → α} (h : b ≠ a) : h_upA f a g b j = f b j := if_neg h
theorem Sm_I {σ : HS} {a k b : Nat} {v : Int32} (h : b ≠ a) : Sm σ (h_setI σ a k v) b := ⟨rfl, rfl, fun _ => up2_ne h, fun _ => rfl, fun _ => rfl⟩
theorem Sm_R {σ : HS} {a k b : Nat} {v : Option Nat} (h : b ≠ a) : Sm σ (h_setR σ a k v) b := ⟨rfl, rfl, fun _ => rfl, fun _ => up2_ne h, fun _ => rfl⟩
theorem Sm_L {σ : HS} {a k b : Nat} {v : Int64} (h : b ≠ a) : Sm σ (h_setL σ a k v) b := ⟨rfl, rfl, fun _ => rfl, fun _ => rfl, fun _ => up2_ne h⟩
theorem Sm_A {σ : HS} {a b : Nat} {g : Nat → Int32} (h : b ≠ a) : Sm σ (h_setA σ a g) b := ⟨rfl, rfl, fun _ => upA_ne h, fun _ => rfl, fun _ => rfl⟩
theorem Sm_P {σ : HS} {t n k b : Nat} (h : b ≠ h_sz σ) : Sm σ (h_push σ t n k) b := ⟨va_up_ne _ _ h, va_up_ne _ _ h, fun _ => upA_ne (f := h_iv σ) (g := fun _ => 0) h, fun _ => upA_ne (f := h_rv σ) (g := fun _ => none) h, fun _ => upA_ne (f := h_lv σ) (g := fun _ => 0) h⟩
theorem Sm_B {σ : HS} {z w b : Nat} : Sm σ (h_bump σ z w) b := ⟨rfl, rfl, fun _ => rfl, fun _ => rfl, fun _ => rfl⟩
theorem Sm_MF {σ σ' : HS} {m : Nat} {A : Nat → Nat} (F : MF σ σ' m A) {b : Nat} (h1 : b ≠ m) (h2 : ∀ k, k_tag k ≠ 0 → b ≠ A k) : Sm σ σ' b := by
  obtain ⟨f1, f2, f3, -, -, -, -, f8⟩ := F
  exact ⟨by rw [f1], by rw [f2], fun k => (f8 b h1 h2 k).1, fun k => by rw [f3], fun k => (f8 b h1 h2 k).2⟩
-- reads behind writes
theorem iv_sI {σ : HS} {a k : Nat} {v : Int32} : h_iv (h_setI σ a k v) a k = v := up2_eq
theorem iv_sIk {σ : HS} {a k j : Nat} {v : Int32} (h : j ≠ k) : h_iv (h_setI σ a k v) a j = h_iv σ a j := up2_nk h
theorem rv_sR {σ : HS} {a k : Nat} {v : Option Nat} : h_rv (h_setR σ a k v) a k = v := up2_eq
theorem rv_sRk {σ : HS} {a k j : Nat} {v : Option Nat} (h : j ≠ k) : h_rv (h_setR σ a k v) a j = h_rv σ a j := up2_nk h
theorem lv_sL {σ : HS} {a k : Nat} {v : Int64} : h_lv (h_setL σ a k v) a k = v := up2_eq
theorem lv_sLk {σ : HS} {a k j : Nat} {v : Int64} (h : j ≠ k) : h_lv (h_setL σ a k v) a j = h_lv σ a j := up2_nk h
/-- the shape that never changes -/
def Fx (σ : HS) (x : Nat) : Prop := h_tg σ x = 10 ∧ (h_rv σ x 0 = some (x + 1) ∧ h_rv σ x 1 = some (x + 7) ∧ h_rv σ x 2 = some (x + 8) ∧ h_rv σ x 3 = some (x + 9) ∧ h_rv σ x 4 = some (x + 10) ∧ h_rv σ x 5 = some (x + 12) ∧ h_rv σ x 6 = some (x + 13) ∧ h_rv σ x 7 = some (x + 14)) ∧
  (h_tg σ (x + 1) = 9 ∧ h_rv σ (x + 1) 0 = some (x + 2)) ∧ (h_tg σ (x + 2) = 107 ∧ h_ln σ (x + 2) = 8) ∧ (h_tg σ (x + 7) = 108 ∧ h_ln σ (x + 7) = 8) ∧ (h_tg σ (x + 8) = 100 ∧ h_ln σ (x + 8) = 16) ∧ (h_tg σ (x + 9) = 100 ∧ h_ln σ (x + 9) = 16) ∧
  (h_tg σ (x + 10) = 6 ∧ h_rv σ (x + 10) 0 = some (x + 11)) ∧ (h_tg σ (x + 11) = 100 ∧ h_ln σ (x + 11) = 1600) ∧ (h_tg σ (x + 12) = 100 ∧ h_ln σ (x + 12) = 8) ∧ (h_tg σ (x + 13) = 100 ∧ h_ln σ (x + 13) = 6) ∧ (h_tg σ (x + 14) = 105 ∧ h_ln σ (x + 14) = 200)
/-- tags, lengths and the references of the three objects are the same -/
def Fs (σ σ' : HS) (x : Nat) : Prop := (∀ b, b ≤ x + 14 → h_tg σ' b = h_tg σ b ∧ h_ln σ' b = h_ln σ b) ∧ (∀ k, h_rv σ' x k = h_rv σ x k) ∧ (∀ k, h_rv σ' (x + 1) k = h_rv σ (x + 1) k) ∧ ∀ k, h_rv σ' (x + 10) k = h_rv σ (x + 10) k
theorem Fx.to {σ σ' : HS} {x : Nat} (F : Fx σ x) (h : Fs σ σ' x) : Fx σ' x := by
  obtain ⟨h1, h2, h3, h4⟩ := h
  unfold Fx at *
  rw [(h1 x (by omega)).1, (h1 (x + 1) (by omega)).1, (h1 (x + 2) (by omega)).1, (h1 (x + 2) (by omega)).2, (h1 (x + 7) (by omega)).1, (h1 (x + 7) (by omega)).2, (h1 (x + 8) (by omega)).1, (h1 (x + 8) (by omega)).2, (h1 (x + 9) (by omega)).1, (h1 (x + 9) (by omega)).2, (h1 (x + 10) (by omega)).1, (h1 (x + 11) (by omega)).1, (h1 (x + 11) (by omega)).2, (h1 (x + 12) (by omega)).1, (h1 (x + 12) (by omega)).2, (h1 (x + 13) (by omega)).1, (h1 (x + 13) (by omega)).2, (h1 (x + 14) (by omega)).1, (h1 (x + 14) (by omega)).2, h2, h2, h2, h2, h2, h2, h2, h2, h3, h4]
  exact F
theorem Fs_I {σ : HS} {x a k : Nat} {v : Int32} : Fs σ (h_setI σ a k v) x := ⟨fun _ _ => ⟨rfl, rfl⟩, fun _ => rfl, fun _ => rfl, fun _ => rfl⟩
theorem Fs_L {σ : HS} {x a k : Nat} {v : Int64} : Fs σ (h_setL σ a k v) x := ⟨fun _ _ => ⟨rfl, rfl⟩, fun _ => rfl, fun _ => rfl, fun _ => rfl⟩
theorem Fs_A {σ : HS} {x a : Nat} {g : Nat → Int32} : Fs σ (h_setA σ a g) x := ⟨fun _ _ => ⟨rfl, rfl⟩, fun _ => rfl, fun _ => rfl, fun _ => rfl⟩
theorem Fs_B {σ : HS} {x z w : Nat} : Fs σ (h_bump σ z w) x := ⟨fun _ _ => ⟨rfl, rfl⟩, fun _ => rfl, fun _ => rfl, fun _ => rfl⟩
theorem Fs_R {σ : HS} {x a k : Nat} {v : Option Nat} (h0 : a ≠ x) (h1 : a ≠ x + 1) (h2 : a ≠ x + 10) : Fs σ (h_setR σ a k v) x := ⟨fun _ _ => ⟨rfl, rfl⟩, fun j => (Sm_R (Ne.symm h0)).2.2.2.1 j, fun j => (Sm_R (Ne.symm h1)).2.2.2.1 j, fun j => (Sm_R (Ne.symm h2)).2.2.2.1 j⟩
theorem Fs_P {σ : HS} {x t n k : Nat} (h : x + 14 < h_sz σ) : Fs σ (h_push σ t n k) x := ⟨fun b hb => ⟨(Sm_P (by omega)).1, (Sm_P (by omega)).2.1⟩, fun j => (Sm_P (by omega)).2.2.2.1 j, fun j => (Sm_P (by omega)).2.2.2.1 j, fun j => (Sm_P (by omega)).2.2.2.1 j⟩
theorem Fs.tr {σ σ1 σ2 : HS} {x : Nat} (h : Fs σ σ1 x) (h' : Fs σ1 σ2 x) : Fs σ σ2 x := ⟨fun b hb => ⟨((h'.1 b hb).1).trans (h.1 b hb).1, ((h'.1 b hb).2).trans (h.1 b hb).2⟩, fun k => (h'.2.1 k).trans (h.2.1 k), fun k => (h'.2.2.1 k).trans (h.2.2.1 k), fun k => (h'.2.2.2 k).trans (h.2.2.2 k)⟩
/-- the plain ints -/
def Nx (σ : HS) (x : Nat) (ms : MS) : Prop := h_iv σ x 8 = ms.1 28 ∧ h_iv σ x 9 = ms.1 1 ∧ h_iv σ x 10 = ms.1 2 ∧ h_iv σ x 11 = ms.1 39 ∧ h_iv σ x 12 = ms.1 40 ∧ h_iv σ x 13 = ms.1 41
theorem Nx.to {σ σ' : HS} {x : Nat} {ms ms' : MS} (N : Nx σ x ms) (h : Sm σ σ' x) (e1 : ms'.1 1 = ms.1 1) (e2 : ms'.1 2 = ms.1 2) (e3 : ms'.1 28 = ms.1 28) (e4 : ms'.1 39 = ms.1 39) (e5 : ms'.1 40 = ms.1 40) (e6 : ms'.1 41 = ms.1 41) : Nx σ' x ms' := by
  unfold Nx at *
  rw [h.2.2.1, h.2.2.1, h.2.2.1, h.2.2.1, h.2.2.1, h.2.2.1, e1, e2, e3, e4, e5, e6]
  exact N
/-- the row: a ring on the one side -/
def ring (f q : Nat) : Nat := (f + q) % 200
def cel (σ : HS) (x f q j : Nat) : Int32 := h_iv σ (x + 11) (8 * ring f q + j)
/-- fields that are held loosely: those of DATA behind the third -/
def loose (fx : Bool) (kd : Int32) (j : Nat) : Prop := fx = false ∧ kd = 3 ∧ 3 ≤ j ∧ j ≤ 5
def Rx (fx : Bool) (σ : HS) (x : Nat) (ms : MS) : Prop := ∃ f n, f < 200 ∧ n ≤ 200 ∧ h_iv σ (x + 10) 1 = nI f ∧ h_iv σ (x + 10) 2 = nI n ∧ ms.1 36 = nI n ∧ h_iv σ (x + 10) 3 = ms.1 42 ∧ ∀ q j, q < n → j < 8 → loose fx (ms.2.1 37 (8 * q + 6)) j ∨ cel σ x f q j = ms.2.1 37 (8 * q + j)
theorem Rx.to {fx : Bool} {σ σ' : HS} {x : Nat} {ms ms' : MS} (R : Rx fx σ x ms) (h1 : Sm σ σ' (x + 10)) (h2 : Sm σ σ' (x + 11)) (e1 : ms'.1 36 = ms.1 36) (e2 : ms'.1 42 = ms.1 42) (e3 : ∀ j, ms'.2.1 37 j = ms.2.1 37 j) : Rx fx σ' x ms' := by
  obtain ⟨f, n, a1, a2, a3, a4, a5, a6, a7⟩ := R
  refine ⟨f, n, a1, a2, by rw [h1.2.2.1]; exact a3, by rw [h1.2.2.1]; exact a4, by rw [e1]; exact a5, by rw [h1.2.2.1, e2]; exact a6, fun q j hq hj => ?_⟩
  unfold cel
  rw [h2.2.2.1, e3, e3]
  exact a7 q j hq hj
/-- who went away from a place last -/
def Wx (σ : HS) (x : Nat) (ms : MS) : Prop := ∀ p, p < 16 → h_iv σ (x + 8) p = ms.2.1 26 p ∧ (¬ ms.2.1 26 p = -1 → ∃ t tn, h_iv σ (x + 9) p = nI t ∧ ms.2.1 27 p = nI (t + 30) ∧ ms.1 1 = nI tn ∧ t ≤ tn ∧ tn ≤ 1000000)
theorem Wx.to {σ σ' : HS} {x : Nat} {ms ms' : MS} (W : Wx σ x ms) (h1 : Sm σ σ' (x + 8)) (h2 : Sm σ σ' (x + 9)) (e1 : ms'.1 1 = ms.1 1) (e2 : ∀ j, ms'.2.1 26 j = ms.2.1 26 j) (e3 : ∀ j, ms'.2.1 27 j = ms.2.1 27 j) : Wx σ' x ms' := by
  intro p hp
  rw [h1.2.2.1, h2.2.2.1, e1, e2, e3]
  exact W p hp
/-- packets -/
def Kx (σ : HS) (x : Nat) (G : Nat → Nat → Nat) (ms : MS) : Prop := ∃ np, np ≤ 200 ∧ ms.1 28 = nI np ∧ (∀ i j, i < np → j < np → G 7 i = G 7 j → i = j) ∧ ∀ i, i < np → h_rv σ (x + 14) i = some (G 7 i) ∧ h_tg σ (G 7 i) = 4 ∧ h_iv σ (G 7 i) 0 = nI (i + 1) ∧ h_iv σ (G 7 i) 1 = ms.2.1 29 (i + 1) ∧ h_iv σ (G 7 i) 2 = ms.2.1 30 (i + 1) ∧ h_iv σ (G 7 i) 3 = ms.2.1 31 (i + 1) ∧ h_iv σ (G 7 i) 4 = ms.2.1 32 (i + 1) ∧ h_iv σ (G 7 i) 5 = ms.2.1 33 (i + 1) ∧ h_iv σ (G 7 i) 6 = ms.2.1 34 (i + 1) ∧ h_iv σ (G 7 i) 7 = ms.2.1 35 (i + 1)
theorem Kx.to {σ σ' : HS} {x : Nat} {G : Nat → Nat → Nat} {ms ms' : MS} (K : Kx σ x G ms) (h1 : Sm σ σ' (x + 14)) (h2 : ∀ b, h_tg σ b = 4 → Sm σ σ' b) (e1 : ms'.1 28 = ms.1 28) (e2 : ∀ k j, 29 ≤ k → k ≤ 35 → ms'.2.1 k j = ms.2.1 k j) : Kx σ' x G ms' := by
  obtain ⟨np, a1, a2, a3, a4⟩ := K
  refine ⟨np, a1, by rw [e1]; exact a2, a3, fun i hi => ?_⟩
  obtain ⟨b1, b2, b3⟩ := a4 i hi
  have hs := h2 _ b2
  rw [h1.2.2.2.1, hs.1, hs.2.2.1, hs.2.2.1, hs.2.2.1, hs.2.2.1, hs.2.2.1, hs.2.2.1, hs.2.2.1, hs.2.2.1, e2 29 _ (by omega) (by omega), e2 30 _ (by omega) (by omega), e2 31 _ (by omega) (by omega), e2 32 _ (by omega) (by omega), e2 33 _ (by omega) (by omega), e2 34 _ (by omega) (by omega), e2 35 _ (by omega) (by omega)]
  exact ⟨b1, b2, b3⟩
theorem hP.to {σ σ' : HS} {p n : Nat} {b : Int32} (h : hP σ p b n) (hs : Sm σ σ' p) : hP σ' p b n := by
  unfold hP at *
  rw [hs.1, hs.2.2.1, hs.2.2.1]
  exact h
/-- an entry's six numbers: bits, length, site, place, version, end -/
abbrev E6 : Type := Int32 × Int32 × Int32 × Int32 × Int32 × Int32
def eV (σ : HS) (a : Nat) : E6 := (h_iv σ ((h_rv σ a 0).getD 0) 0, h_iv σ ((h_rv σ a 0).getD 0) 1, h_iv σ a 1, h_iv σ a 2, h_iv σ a 3, h_iv σ a 4)
def eOk (σ : HS) (a : Nat) : Prop := h_tg σ a = 1 ∧ ∃ p b n, h_rv σ a 0 = some p ∧ hP σ p b n
theorem eOk.to {σ σ' : HS} {a : Nat} (h : eOk σ a) (ht : ∀ b, h_tg σ b = 1 ∨ h_tg σ b = 5 → Sm σ σ' b) : eOk σ' a ∧ eV σ' a = eV σ a := by
  obtain ⟨h1, p, b, n, h2, h3⟩ := h
  have s1 := ht a (Or.inl h1)
  have s2 := ht p (Or.inr h3.1)
  have er : h_rv σ' a 0 = some p := by rw [s1.2.2.2.1]; exact h2
  refine ⟨⟨by rw [s1.1]; exact h1, p, b, n, er, h3.to s2⟩, ?_⟩
  unfold eV
  rw [er, h2, s1.2.2.1, s1.2.2.1, s1.2.2.1, s1.2.2.1]
  show (h_iv σ' p 0, h_iv σ' p 1, _) = (h_iv σ p 0, h_iv σ p 1, _)
  rw [s2.2.2.1, s2.2.2.1]
/-- those of a range that haven't lapsed -/
def eL (now : Int32) (f : Nat → Option E6) : Nat → Nat → List E6
  | _, 0 => []
  | i, c + 1 => match f i with
    | some q => if now < q.2.2.2.2.2 then q :: eL now f (i + 1) c else eL now f (i + 1) c
    | none => eL now f (i + 1) c
def eC (σ : HS) (e : Nat) (j : Nat) : Option E6 := (h_rv σ e j).map (eV σ)
def eM (ms : MS) (k : Nat) : Option E6 := some (ms.2.1 7 k, ms.2.1 8 k, ms.2.1 9 k, ms.2.1 10 k, ms.2.1 11 k, ms.2.1 12 k)
theorem eL_congr {now : Int32} {f f' : Nat → Option E6} : ∀ (c i : Nat), (∀ j, i ≤ j → j < i + c → f j = f' j) → eL now f i c = eL now f' i c
  | 0, i, _ => rfl
  | c + 1, i, h => by
    unfold eL
    rw [h i (Nat.le_refl i) (by omega), eL_congr c (i + 1) (fun j h1 h2 => h j (by omega) (by omega))]
/-- a nonce that was taken last, none yet -/
def hiR (a b : Int64) : Prop := (a = -9223372036854775808 ∧ b = -3000000000) ∨ (a = b ∧ ∃ v : Int32, a = v.toInt64)
def SvR (σ : HS) (G : Nat → Nat → Nat) (ms : MS) (i : Nat) : Prop := h_tg σ (G 0 i) = 7 ∧ h_iv σ (G 0 i) 0 = nI i ∧ h_iv σ (G 0 i) 1 = ms.2.1 6 i ∧ (∃ p, h_rv σ (G 0 i) 2 = some p ∧ hP σ p (pB ms i) (pL ms i)) ∧
  (h_rv σ (G 0 i) 3 = some (G 1 i) ∧ h_tg σ (G 1 i) = 103 ∧ h_ln σ (G 1 i) = 16) ∧ (h_rv σ (G 0 i) 4 = some (G 2 i) ∧ h_tg σ (G 2 i) = 101 ∧ h_ln σ (G 2 i) = 8) ∧ (∀ s, s < 8 → hiR (h_lv σ (G 2 i) s) (ms.2.2 (8 * i + s))) ∧
  (∀ j, j < 16 → ∀ a, h_rv σ (G 1 i) j = some a → eOk σ a) ∧ (eL (ms.1 1) (eC σ (G 1 i)) 0 16).Perm (eL (ms.1 1) (eM ms) (16 * i) 16)
def Sx (σ : HS) (x : Nat) (G : Nat → Nat → Nat) (ms : MS) : Prop := (∀ i j, i < 8 → j < 8 → pr ms i → pr ms j → (G 1 i = G 1 j ∨ G 2 i = G 2 j ∨ G 0 i = G 0 j) → i = j) ∧ (∀ i, i < 8 → pr ms i → G 2 i < x + 15 ∨ x + 49 < G 2 i) ∧ ∀ i, i < 8 → (ms.2.1 3 i = 0 → h_rv σ (x + 2) i = none) ∧ (pr ms i → h_rv σ (x + 2) i = some (G 0 i) ∧ SvR σ G ms i)
theorem SvR.to {σ σ' : HS} {G : Nat → Nat → Nat} {ms ms' : MS} {i : Nat} (h : SvR σ G ms i) (ht : ∀ b, h_tg σ b = 1 ∨ h_tg σ b = 5 ∨ h_tg σ b = 7 ∨ h_tg σ b = 103 → Sm σ σ' b) (hl : Sm σ σ' (G 2 i)) (e1 : ms'.1 1 = ms.1 1) (e2 : ∀ k j, 4 ≤ k → k ≤ 12 → ms'.2.1 k j = ms.2.1 k j) (e3 : ms'.2.2 = ms.2.2) : SvR σ' G ms' i := by
  obtain ⟨a1, a2, a3, ⟨p, a4, a5⟩, ⟨a6, a7, a8⟩, ⟨a9, b1, b2⟩, b3, b4, b5⟩ := h
  have s0 := ht (G 0 i) (by rw [a1]; decide)
  have s1 := ht (G 1 i) (by rw [a7]; decide)
  have sp := ht p (by rw [a5.1]; decide)
  have h15 : ∀ b, h_tg σ b = 1 ∨ h_tg σ b = 5 → Sm σ σ' b := fun b hb => ht b (by rcases hb with h | h <;> rw [h] <;> decide)
  have epB : pB ms' i = pB ms i := e2 4 i (by omega) (by omega)
  have epL : pL ms' i = pL ms i := by unfold pL; rw [e2 5 i (by omega) (by omega)]
  refine ⟨by rw [s0.1]; exact a1, by rw [s0.2.2.1]; exact a2, by rw [s0.2.2.1, e2 6 i (by omega) (by omega)]; exact a3, ⟨p, by rw [s0.2.2.2.1]; exact a4, by rw [epB, epL]; exact a5.to sp⟩, ⟨by rw [s0.2.2.2.1]; exact a6, by rw [s1.1]; exact a7, by rw [s1.2.1]; exact a8⟩, ⟨by rw [s0.2.2.2.1]; exact a9, by rw [hl.1]; exact b1, by rw [hl.2.1]; exact b2⟩, fun s hs => by rw [hl.2.2.2.2, e3]; exact b3 s hs, fun j hj a ha => ?_, ?_⟩
  · rw [s1.2.2.2.1] at ha
    exact ((b4 j hj a ha).to h15).1
  · have ec : eL (ms'.1 1) (eC σ' (G 1 i)) 0 16 = eL (ms.1 1) (eC σ (G 1 i)) 0 16 := by
      rw [e1]
      refine eL_congr 16 0 (fun j _ hj => ?_)
      unfold eC
      rw [s1.2.2.2.1]
      cases hr : h_rv σ (G 1 i) j with
      | none => rfl
      | some a => exact congrArg some ((b4 j (by omega) a hr).to h15).2
    have em : eL (ms'.1 1) (eM ms') (16 * i) 16 = eL (ms.1 1) (eM ms) (16 * i) 16 := by
      rw [e1]
      refine eL_congr 16 (16 * i) (fun j _ hj => ?_)
      unfold eM
      rw [e2 7 j (by omega) (by omega), e2 8 j (by omega) (by omega), e2 9 j (by omega) (by omega), e2 10 j (by omega) (by omega), e2 11 j (by omega) (by omega), e2 12 j (by omega) (by omega)]
    rw [ec, em]
    exact b5
theorem Sx.to {σ σ' : HS} {x : Nat} {G : Nat → Nat → Nat} {ms ms' : MS} (S : Sx σ x G ms) (h2 : Sm σ σ' (x + 2)) (ht : ∀ b, h_tg σ b = 1 ∨ h_tg σ b = 5 ∨ h_tg σ b = 7 ∨ h_tg σ b = 103 → Sm σ σ' b) (hl : ∀ i, i < 8 → pr ms i → Sm σ σ' (G 2 i)) (e1 : ms'.1 1 = ms.1 1) (e2 : ∀ k j, 3 ≤ k → k ≤ 12 → ms'.2.1 k j = ms.2.1 k j) (e3 : ms'.2.2 = ms.2.2) : Sx σ' x G ms' := by
  obtain ⟨s1, s2, s3⟩ := S
  have ep : ∀ i, pr ms' i ↔ pr ms i := fun i => by unfold pr; rw [e2 3 i (by omega) (by omega)]
  refine ⟨fun i j hi hj p1 p2 h => s1 i j hi hj ((ep i).mp p1) ((ep j).mp p2) h, fun i hi p1 => s2 i hi ((ep i).mp p1), fun i hi => ⟨fun h => ?_, fun h => ?_⟩⟩
  · rw [h2.2.2.2.1]
    rw [e2 3 i (by omega) (by omega)] at h
    exact (s3 i hi).1 h
  · have hp := (ep i).mp h
    obtain ⟨a1, a2⟩ := (s3 i hi).2 hp
    exact ⟨by rw [h2.2.2.2.1]; exact a1, a2.to ht (hl i hi hp) e1 (fun k j h4 h5 => e2 k j (by omega) h5) e3⟩
