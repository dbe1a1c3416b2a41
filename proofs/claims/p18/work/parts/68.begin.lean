/-! from 68.fresh -/
section
/-! A NEW OBJECT: its constructor, step by step, as a list of writes -/
abbrev Op : Type := Nat × Nat × Nat × Nat × Int32
def stp (x : Nat) (o : Op) (σ : HS) : HS := if o.1 = 0 then h_push σ o.2.1 o.2.2.1 o.2.2.2.1 else if o.1 = 1 then h_setR σ (x + o.2.1) o.2.2.1 (some (x + o.2.2.2.1)) else if o.1 = 2 then h_setI σ (x + o.2.1) o.2.2.1 o.2.2.2.2 else h_setL σ (x + o.2.1) o.2.2.1 (-9223372036854775808)
/-- the writes of a list, the last one first -/
def rpl (x : Nat) : List Op → HS → HS
  | [], σ => σ
  | o :: l, σ => stp x o (rpl x l σ)
def cP : List Op → Nat
  | [] => 0
  | o :: l => if o.1 = 0 then cP l + 1 else cP l
def cS : List Op → Nat
  | [] => 0
  | o :: l => if o.1 = 0 then cS l + o.2.2.2.1 else cS l
def tgL (off : Nat) : List Op → Nat
  | [] => 0
  | o :: l => if o.1 = 0 ∧ cP l = off then o.2.1 else tgL off l
def lnL (off : Nat) : List Op → Nat
  | [] => 0
  | o :: l => if o.1 = 0 ∧ cP l = off then o.2.2.1 else lnL off l
def rvL (off k : Nat) : List Op → Option Nat
  | [] => none
  | o :: l => if o.1 = 0 then (if cP l = off then none else rvL off k l) else if o.1 = 1 ∧ o.2.1 = off ∧ o.2.2.1 = k then some o.2.2.2.1 else rvL off k l
def ivL (off k : Nat) : List Op → Int32
  | [] => 0
  | o :: l => if o.1 = 0 then (if cP l = off then 0 else ivL off k l) else if o.1 = 2 ∧ o.2.1 = off ∧ o.2.2.1 = k then o.2.2.2.2 else ivL off k l
def lvL (off k : Nat) : List Op → Int64
  | [] => 0
  | o :: l => if o.1 = 0 then (if cP l = off then 0 else lvL off k l) else if 2 < o.1 ∧ o.2.1 = off ∧ o.2.2.1 = k then -9223372036854775808 else lvL off k l
/-- nothing is there from x on -/
def N0 (σ : HS) (x : Nat) : Prop := h_sz σ = x ∧ ∀ a, x ≤ a → h_tg σ a = 0
theorem stp_0 {x t n k : Nat} {v : Int32} {σ : HS} : stp x (0, t, n, k, v) σ = h_push σ t n k := rfl
theorem stp_1 {x a k r : Nat} {v : Int32} {σ : HS} : stp x (1, a, k, r, v) σ = h_setR σ (x + a) k (some (x + r)) := rfl
theorem stp_2 {x a k r : Nat} {v : Int32} {σ : HS} : stp x (2, a, k, r, v) σ = h_setI σ (x + a) k v := rfl
theorem stp_3 {x c a k r : Nat} {v : Int32} {σ : HS} (h : 2 < c) : stp x (c, a, k, r, v) σ = h_setL σ (x + a) k (-9223372036854775808) := by
  unfold stp
  rw [if_neg (show ¬ c = 0 by omega), if_neg (show ¬ c = 1 by omega), if_neg (show ¬ c = 2 by omega)]
section FR
variable {x : Nat} {σ : HS}
theorem op_cases (P : Op → Prop) (h0 : ∀ t n k v, P (0, t, n, k, v)) (h1 : ∀ a k r v, P (1, a, k, r, v)) (h2 : ∀ a k r v, P (2, a, k, r, v)) (h3 : ∀ c a k r v, 2 < c → P (c, a, k, r, v)) : ∀ o, P o
  | (0, t, n, k, v) => h0 t n k v
  | (1, t, n, k, v) => h1 t n k v
  | (2, t, n, k, v) => h2 t n k v
  | (c + 3, t, n, k, v) => h3 (c + 3) t n k v (by omega)
theorem rpl_sz (B : N0 σ x) : ∀ l, h_sz (rpl x l σ) = x + cP l
  | [] => B.1
  | o :: l => by
    have ih := rpl_sz B l
    revert o
    refine op_cases _ ?_ ?_ ?_ ?_
    · intro t n k v
      show h_sz (h_push (rpl x l σ) t n k) = x + (cP l + 1)
      show h_sz (rpl x l σ) + 1 = _
      rw [ih]; omega
    · intro a k r v
      exact ih
    · intro a k r v
      exact ih
    · intro c a k r v hc
      show h_sz (stp x _ _) = _
      rw [stp_3 hc]
      show h_sz (rpl x l σ) = x + (if c = 0 then _ else _)
      rw [if_neg (by omega)]
      exact ih
theorem rpl_sl : ∀ l, h_sl (rpl x l σ) = h_sl σ + cS l
  | [] => rfl
  | o :: l => by
    have ih := rpl_sl l
    revert o
    refine op_cases _ ?_ ?_ ?_ ?_
    · intro t n k v
      show h_sl (rpl x l σ) + k = h_sl σ + (cS l + k)
      rw [ih]; omega
    · intro a k r v
      exact ih
    · intro a k r v
      exact ih
    · intro c a k r v hc
      show h_sl (stp x _ _) = _
      rw [stp_3 hc]
      show h_sl (rpl x l σ) = h_sl σ + (if c = 0 then _ else _)
      rw [if_neg (by omega)]
      exact ih
theorem rpl_c : ∀ l, h_cz (rpl x l σ) = h_cz σ ∧ h_ck (rpl x l σ) = h_ck σ
  | [] => ⟨rfl, rfl⟩
  | o :: l => by
    have ih := rpl_c l
    revert o
    refine op_cases _ ?_ ?_ ?_ ?_
    · intro t n k v
      exact ih
    · intro a k r v
      exact ih
    · intro a k r v
      exact ih
    · intro c a k r v hc
      show h_cz (stp x _ _) = _ ∧ h_ck (stp x _ _) = _
      rw [stp_3 hc]
      exact ih
theorem rpl_tg (B : N0 σ x) (off : Nat) : ∀ l, h_tg (rpl x l σ) (x + off) = tgL off l
  | [] => B.2 _ (Nat.le_add_right x off)
  | o :: l => by
    have ih := rpl_tg B off l
    have hz := rpl_sz B l
    revert o
    refine op_cases _ ?_ ?_ ?_ ?_
    · intro t n k v
      show va_up _ (h_sz (rpl x l σ)) t (x + off) = (if 0 = 0 ∧ cP l = off then t else tgL off l)
      rw [hz]
      by_cases e : cP l = off
      · rw [if_pos ⟨rfl, e⟩, e]
        exact va_up_self _ _ _
      · rw [if_neg (fun z => e z.2), va_up_ne _ _ (by omega)]
        exact ih
    · intro a k r v
      exact ih
    · intro a k r v
      exact ih
    · intro c a k r v hc
      show h_tg (stp x _ _) _ = (if c = 0 ∧ _ then _ else _)
      rw [stp_3 hc, if_neg (fun z => by omega)]
      exact ih
theorem cP_3 {c a k r : Nat} {v : Int32} {l : List Op} (h : 2 < c) : cP ((c, a, k, r, v) :: l) = cP l := if_neg (by show ¬ c = 0; omega)
theorem rpl_ln (B : N0 σ x) (off : Nat) : ∀ l, off < cP l ∨ h_ln σ (x + off) = 0 → h_ln (rpl x l σ) (x + off) = lnL off l
  | [], hb => by
    rcases hb with h | h
    · exact absurd h (Nat.not_lt_zero _)
    · exact h
  | o :: l, hb => by
    have ih := rpl_ln B off l
    have hz := rpl_sz B l
    revert hb
    revert o
    refine op_cases _ ?_ ?_ ?_ ?_
    · intro t n k v hb
      show va_up _ (h_sz (rpl x l σ)) n (x + off) = (if 0 = 0 ∧ cP l = off then n else lnL off l)
      have hb' : off < cP l + 1 ∨ h_ln σ (x + off) = 0 := hb
      rw [hz]
      by_cases e : cP l = off
      · rw [if_pos ⟨rfl, e⟩, e]
        exact va_up_self _ _ _
      · rw [if_neg (fun z => e z.2), va_up_ne _ _ (by omega)]
        exact ih (by rcases hb' with h | h; exact Or.inl (by omega); exact Or.inr h)
    · intro a k r v hb
      exact ih hb
    · intro a k r v hb
      exact ih hb
    · intro c a k r v hc hb
      rw [cP_3 hc] at hb
      show h_ln (stp x _ _) _ = (if c = 0 ∧ _ then _ else _)
      rw [stp_3 hc, if_neg (fun z => by omega)]
      exact ih hb
theorem rpl_rv (B : N0 σ x) (off j : Nat) : ∀ l, off < cP l ∨ h_rv σ (x + off) j = none → h_rv (rpl x l σ) (x + off) j = (rvL off j l).map (x + ·)
  | [], hb => by
    rcases hb with h | h
    · exact absurd h (Nat.not_lt_zero _)
    · exact h
  | o :: l, hb => by
    have ih := rpl_rv B off j l
    have hz := rpl_sz B l
    revert hb
    revert o
    refine op_cases _ ?_ ?_ ?_ ?_
    · intro t n k v hb
      have hb' : off < cP l + 1 ∨ h_rv σ (x + off) j = none := hb
      show h_upA _ (h_sz (rpl x l σ)) (fun _ => none) (x + off) j = Option.map (x + ·) (if cP l = off then none else rvL off j l)
      rw [hz]
      by_cases e : cP l = off
      · rw [if_pos e, e]
        exact if_pos rfl
      · rw [if_neg e, upA_ne (by omega)]
        exact ih (by rcases hb' with h | h; exact Or.inl (by omega); exact Or.inr h)
    · intro a k r v hb
      show h_up2 _ (x + a) k (some (x + r)) (x + off) j = Option.map (x + ·) (if 1 = 1 ∧ a = off ∧ k = j then some r else rvL off j l)
      by_cases e : a = off ∧ k = j
      · rw [if_pos ⟨rfl, e⟩, e.1, e.2]
        exact if_pos ⟨rfl, rfl⟩
      · rw [if_neg (fun z => e z.2)]
        refine (if_neg (fun z => e ⟨by omega, z.2.symm⟩)).trans (ih hb)
    · intro a k r v hb
      exact ih hb
    · intro c a k r v hc hb
      rw [cP_3 hc] at hb
      show h_rv (stp x _ _) _ _ = Option.map (x + ·) (if c = 0 then _ else if c = 1 ∧ _ then _ else _)
      rw [stp_3 hc, if_neg (by omega), if_neg (fun z => by omega)]
      exact ih hb
theorem rpl_iv (B : N0 σ x) (off j : Nat) : ∀ l, off < cP l ∨ h_iv σ (x + off) j = 0 → h_iv (rpl x l σ) (x + off) j = ivL off j l
  | [], hb => by
    rcases hb with h | h
    · exact absurd h (Nat.not_lt_zero _)
    · exact h
  | o :: l, hb => by
    have ih := rpl_iv B off j l
    have hz := rpl_sz B l
    revert hb
    revert o
    refine op_cases _ ?_ ?_ ?_ ?_
    · intro t n k v hb
      have hb' : off < cP l + 1 ∨ h_iv σ (x + off) j = 0 := hb
      show h_upA _ (h_sz (rpl x l σ)) (fun _ => 0) (x + off) j = (if cP l = off then 0 else ivL off j l)
      rw [hz]
      by_cases e : cP l = off
      · rw [if_pos e, e]
        exact if_pos rfl
      · rw [if_neg e, upA_ne (by omega)]
        exact ih (by rcases hb' with h | h; exact Or.inl (by omega); exact Or.inr h)
    · intro a k r v hb
      exact ih hb
    · intro a k r v hb
      show h_up2 _ (x + a) k v (x + off) j = (if 2 = 2 ∧ a = off ∧ k = j then v else ivL off j l)
      by_cases e : a = off ∧ k = j
      · rw [if_pos ⟨rfl, e⟩, e.1, e.2]
        exact if_pos ⟨rfl, rfl⟩
      · rw [if_neg (fun z => e z.2)]
        refine (if_neg (fun z => e ⟨by omega, z.2.symm⟩)).trans (ih hb)
    · intro c a k r v hc hb
      rw [cP_3 hc] at hb
      show h_iv (stp x _ _) _ _ = (if c = 0 then _ else if c = 2 ∧ _ then _ else _)
      rw [stp_3 hc, if_neg (by omega), if_neg (fun z => by omega)]
      exact ih hb
theorem rpl_lv (B : N0 σ x) (off j : Nat) : ∀ l, off < cP l ∨ h_lv σ (x + off) j = 0 → h_lv (rpl x l σ) (x + off) j = lvL off j l
  | [], hb => by
    rcases hb with h | h
    · exact absurd h (Nat.not_lt_zero _)
    · exact h
  | o :: l, hb => by
    have ih := rpl_lv B off j l
    have hz := rpl_sz B l
    revert hb
    revert o
    refine op_cases _ ?_ ?_ ?_ ?_
    · intro t n k v hb
      have hb' : off < cP l + 1 ∨ h_lv σ (x + off) j = 0 := hb
      show h_upA _ (h_sz (rpl x l σ)) (fun _ => 0) (x + off) j = (if cP l = off then 0 else lvL off j l)
      rw [hz]
      by_cases e : cP l = off
      · rw [if_pos e, e]
        exact if_pos rfl
      · rw [if_neg e, upA_ne (by omega)]
        exact ih (by rcases hb' with h | h; exact Or.inl (by omega); exact Or.inr h)
    · intro a k r v hb
      exact ih hb
    · intro a k r v hb
      exact ih hb
    · intro c a k r v hc hb
      rw [cP_3 hc] at hb
      show h_lv (stp x _ _) _ _ = (if c = 0 then _ else if 2 < c ∧ a = off ∧ k = j then _ else _)
      rw [stp_3 hc, if_neg (by omega)]
      show h_up2 _ (x + a) k _ (x + off) j = _
      by_cases e : a = off ∧ k = j
      · rw [if_pos ⟨hc, e⟩, e.1, e.2]
        exact if_pos ⟨rfl, rfl⟩
      · rw [if_neg (fun z => e z.2)]
        exact (if_neg (fun z => e ⟨by omega, z.2.symm⟩)).trans (ih hb)
theorem tgL_far {off : Nat} : ∀ l : List Op, cP l ≤ off → tgL off l = 0
  | [], _ => rfl
  | o :: l, h => by
    unfold cP at h
    unfold tgL
    by_cases e : o.1 = 0
    · rw [if_pos e] at h
      rw [if_neg (fun z => by omega)]
      exact tgL_far l (by omega)
    · rw [if_neg e] at h
      rw [if_neg (fun z => e z.1)]
      exact tgL_far l h
theorem tg_lt {off t : Nat} {l : List Op} (h : tgL off l = t) (ht : t ≠ 0) : off < cP l := Nat.lt_of_not_le (fun z => ht (h.symm.trans (tgL_far l z)))
/-- what lies below isn't touched -/
theorem rpl_lo (B : N0 σ x) {a : Nat} (ha : a < x) : ∀ l, Sm σ (rpl x l σ) a
  | [] => Sm.rf
  | o :: l => by
    have ih := rpl_lo B ha l
    have hz := rpl_sz B l
    revert o
    refine op_cases _ ?_ ?_ ?_ ?_
    · intro t n k v
      exact ih.tr (Sm_P (by rw [hz]; omega))
    · intro b k r v
      exact ih.tr (Sm_R (by omega))
    · intro b k r v
      exact ih.tr (Sm_I (by omega))
    · intro c b k r v hc
      show Sm σ (stp x _ _) a
      rw [stp_3 hc]
      exact ih.tr (Sm_L (by omega))
-- one step
theorem E_mk (B : N0 σ x) {l l' : List Op} {t n c w : Nat} (hl : l' = (0, t, 0, n, 0) :: l) (hc : cP l = c) (hw : cS l = w) (h1 : x + c + 1 ≤ h_cz σ) (h2 : h_sl σ + w + n ≤ h_ck σ) : h_mk (rpl x l σ) t n = some (some (x + c), rpl x l' σ) := by
  have e := rpl_c (x := x) (σ := σ) l
  unfold h_mk
  rw [rpl_sz B l, rpl_sl l, e.1, e.2, hc, hw, if_pos ⟨h1, h2⟩, hl]
  rfl
theorem E_mkA (B : N0 σ x) {l l' : List Op} {t n c w : Nat} {len : Int32} (hl : l' = (0, t, n, n, 0) :: l) (hn : len = nI n) (hn2 : n ≤ 60000000) (hc : cP l = c) (hw : cS l = w) (h1 : x + c + 1 ≤ h_cz σ) (h2 : h_sl σ + w + n ≤ h_ck σ) : h_mkA (rpl x l σ) t len = some (some (x + c), rpl x l' σ) := by
  have e := rpl_c (x := x) (σ := σ) l
  unfold h_mkA
  rw [hn, nI_clamp (by omega), rpl_sz B l, rpl_sl l, e.1, e.2, hc, hw, if_pos ⟨nI_pos (by omega), hn2, h1, h2⟩, hl]
  rfl
theorem E_pR (B : N0 σ x) {l l' : List Op} {t off k r : Nat} (hl : l' = (1, off, k, r, 0) :: l) (h : tgL off l = t) : h_pR (rpl x l σ) (some (x + off)) t k (some (x + r)) = some (rpl x l' σ) := by
  rw [pR_s ((rpl_tg B off l).trans h), hl]
  rfl
theorem E_pI (B : N0 σ x) {l l' : List Op} {t off k : Nat} {v : Int32} (hl : l' = (2, off, k, 0, v) :: l) (h : tgL off l = t) : h_pI (rpl x l σ) (some (x + off)) t k v = some (rpl x l' σ) := by
  rw [pI_s ((rpl_tg B off l).trans h), hl]
  rfl
theorem E_gR (B : N0 σ x) {l : List Op} {t off k r : Nat} (h : tgL off l = t) (ht : t ≠ 0) (h2 : rvL off k l = some r) : h_gR (rpl x l σ) (some (x + off)) t k = some (some (x + r)) := by
  rw [gR_s ((rpl_tg B off l).trans h), rpl_rv B _ _ _ (Or.inl (tg_lt h ht)), h2]
  rfl
theorem E_rcv (B : N0 σ x) {l : List Op} {t off : Nat} (h : tgL off l = t) : h_rcv (rpl x l σ) (some (x + off)) t = some (x + off) := rcv_s ((rpl_tg B off l).trans h)
theorem E_sL (B : N0 σ x) {l l' : List Op} {off n i : Nat} (hl : l' = (3, off, i, 0, 0) :: l) (h : tgL off l = 101) (hn : lnL off l = n) (hi : i < n) (hn2 : n < 2 ^ 31) : h_sL (rpl x l σ) (some (x + off)) 101 (nI i) (-9223372036854775808) = some (rpl x l' σ) := by
  rw [sL_s ((rpl_tg B off l).trans h) ((rpl_ln B off l (Or.inl (tg_lt h (by decide)))).trans hn) hi hn2, hl]
  rfl
theorem E_sI (B : N0 σ x) {l l' : List Op} {off n i : Nat} {v : Int32} (hl : l' = (2, off, i, 0, v) :: l) (h : tgL off l = 100) (hn : lnL off l = n) (hi : i < n) (hn2 : n < 2 ^ 31) : h_sI (rpl x l σ) (some (x + off)) 100 (nI i) v = some (rpl x l' σ) := by
  rw [sI_s ((rpl_tg B off l).trans h) ((rpl_ln B off l (Or.inl (tg_lt h (by decide)))).trans hn) hi hn2, hl]
  rfl
theorem E_sR (B : N0 σ x) {l l' : List Op} {t u off n i r : Nat} (hl : l' = (1, off, i, r, 0) :: l) (h : tgL off l = t) (ht : t ≠ 0) (hn : lnL off l = n) (hi : i < n) (hn2 : n < 2 ^ 31) (hu : tgL r l = u) : h_sR (rpl x l σ) (some (x + off)) t u (nI i) (some (x + r)) = some (rpl x l' σ) := by
  rw [sR_s ((rpl_tg B off l).trans h) ((rpl_ln B off l (Or.inl (tg_lt h ht))).trans hn) hi hn2 (by unfold h_fitR; exact decide_eq_true ((rpl_tg B r l).trans hu)), hl]
  rfl
-- the two loops
def lm6 (q : Nat) : Nat → Nat → List Op → List Op
  | _, 0, l => l
  | i, c + 1, l => lm6 q (i + 1) c ((3, q, i, 0, 0) :: l)
theorem lq6 (B : N0 σ x) {z q : Nat} : ∀ (c n i : Nat) (l : List Op), i + c = 8 → c < n → tgL z l = 7 → rvL z 4 l = some q → tgL q l = 101 → lnL q l = 8 → g_X6_init_39 n (rpl x l σ) (some (x + z)) (nI i) = some ((), rpl x (lm6 q i c l) σ)
  | 0, 0, i, l, _, h, _, _, _, _ => absurd h (Nat.lt_irrefl 0)
  | 0, n + 1, i, l, hi, _, _, _, _, _ => by
    rw [g_X6_init_39, if_pos (show (8 : Int32) ≤ nI i from (nI_le (a := 8) (b := i) (by omega) (by omega)))]
    rfl
  | c + 1, 0, i, l, _, h, _, _, _, _ => absurd h (Nat.not_lt_zero _)
  | c + 1, n + 1, i, l, hi, hn, h1, h2, h3, h4 => by
    rw [g_X6_init_39, if_neg (show ¬ (8 : Int32) ≤ nI i from (fun z => absurd (nI_lt (a := i) (b := 8) (by omega) (by omega)) (Int32.not_lt.mpr z))), E_gR B h1 (by decide) h2, h_b1_s, E_sL B (l' := (3, q, i, 0, 0) :: l) rfl h3 h4 (by omega) (by omega), h_b1_s, nI_c1]
    exact lq6 B c n (i + 1) _ (by omega) (by omega) (by exact h1) (by exact h2) (by exact h3) (by exact h4)
def lm9 : Nat → Nat → List Op → List Op
  | _, 0, l => l
  | i, c + 1, l => lm9 (i + 1) c ((2, 8, i, 0, -1) :: l)
theorem lq9 (B : N0 σ x) : ∀ (c n i : Nat) (l : List Op), i + c = 16 → tgL 0 l = 10 → rvL 0 2 l = some 8 → tgL 8 l = 100 → lnL 8 l = 16 → g_X9_init_34 (n + c) (rpl x l σ) (some (x + 0)) (nI i) = g_X9_init_34 n (rpl x (lm9 i c l) σ) (some (x + 0)) (nI 16)
  | 0, n, i, l, hi, _, _, _, _ => by
    have : i = 16 := by omega
    subst this
    rfl
  | c + 1, n, i, l, hi, h1, h2, h3, h4 => by
    rw [← Nat.add_assoc, g_X9_init_34, if_neg (show ¬ (16 : Int32) ≤ nI i from (fun z => absurd (nI_lt (a := i) (b := 16) (by omega) (by omega)) (Int32.not_lt.mpr z))), E_gR B h1 (by decide) h2, h_b1_s, E_sI B (l' := (2, 8, i, 0, -1) :: l) rfl h3 h4 (by omega) (by omega), h_b1_s, nI_c1]
    exact lq9 B c n (i + 1) _ (by omega) (by exact h1) (by exact h2) (by exact h3) (by exact h4)
end FR
def oL1 : List Op := (0, 10, 0, 14, 0) :: []
def oL2 : List Op := (0, 9, 0, 1, 0) :: oL1
def oL3 : List Op := (0, 107, 8, 8, 0) :: oL2
def oL4 : List Op := (1, 1, 0, 2, 0) :: oL3
def oL5 : List Op := (0, 7, 0, 5, 0) :: oL4
def oL6 : List Op := (0, 5, 0, 2, 0) :: oL5
def oL7 : List Op := (2, 4, 0, 0, 0) :: oL6
def oL8 : List Op := (2, 4, 1, 0, 0) :: oL7
def oL9 : List Op := (2, 3, 0, 0, 0) :: oL8
def oL10 : List Op := (2, 3, 1, 0, (-1)) :: oL9
def oL11 : List Op := (1, 3, 2, 4, 0) :: oL10
def oL12 : List Op := (0, 103, 16, 16, 0) :: oL11
def oL13 : List Op := (1, 3, 3, 5, 0) :: oL12
def oL14 : List Op := (0, 101, 8, 8, 0) :: oL13
def oL15 : List Op := (1, 3, 4, 6, 0) :: oL14
def oL16 : List Op := lm6 6 0 8 oL15
def oL17 : List Op := (1, 2, 0, 3, 0) :: oL16
def oL18 : List Op := (1, 0, 0, 1, 0) :: oL17
def oL19 : List Op := (0, 108, 8, 8, 0) :: oL18
def oL20 : List Op := (1, 0, 1, 7, 0) :: oL19
def oL21 : List Op := (0, 100, 16, 16, 0) :: oL20
def oL22 : List Op := (1, 0, 2, 8, 0) :: oL21
def oL23 : List Op := lm9 0 16 oL22
def oL24 : List Op := (0, 100, 16, 16, 0) :: oL23
def oL25 : List Op := (1, 0, 3, 9, 0) :: oL24
def oL26 : List Op := (0, 6, 0, 4, 0) :: oL25
def oL27 : List Op := (0, 100, 1600, 1600, 0) :: oL26
def oL28 : List Op := (1, 10, 0, 11, 0) :: oL27
def oL29 : List Op := (1, 0, 4, 10, 0) :: oL28
def oL30 : List Op := (0, 100, 8, 8, 0) :: oL29
def oL31 : List Op := (1, 0, 5, 12, 0) :: oL30
def oL32 : List Op := (0, 100, 6, 6, 0) :: oL31
def oL33 : List Op := (1, 0, 6, 13, 0) :: oL32
def oL34 : List Op := (0, 105, 200, 200, 0) :: oL33
def oL35 : List Op := (1, 0, 7, 14, 0) :: oL34
def oL36 : List Op := (2, 0, 10, 0, 1) :: oL35
section FR2
variable {x : Nat} {σ : HS}
theorem fr_X4 (B : N0 σ x) : f_X4_init (rpl x oL6 σ) (some (x + 4)) 0 0 = some ((), rpl x oL8 σ) := by
  unfold f_X4_init
  rw [h_b1_s, E_pI B (l := oL6) (l' := oL7) (off := 4) (t := 5) (k := 0) (v := 0) rfl rfl, h_b1_s, E_pI B (l := oL7) (l' := oL8) (off := 4) (t := 5) (k := 1) (v := 0) rfl rfl, h_b1_s]
theorem fr_X6 (B : N0 σ x) (hz : x + 15 ≤ h_cz σ) (hs : h_sl σ + 1912 ≤ h_ck σ) : f_X6_init (rpl x oL8 σ) (some (x + 3)) 0 (-1) (some (x + 4)) = some ((), rpl x oL16 σ) := by
  unfold f_X6_init
  rw [h_b1_s, E_pI B (l := oL8) (l' := oL9) (off := 3) (t := 7) (k := 0) (v := 0) rfl rfl, h_b1_s, E_pI B (l := oL9) (l' := oL10) (off := 3) (t := 7) (k := 1) (v := (-1)) rfl rfl, h_b1_s, E_pR B (l := oL10) (l' := oL11) (off := 3) (t := 7) (k := 2) (r := 4) rfl rfl, h_b1_s, E_mkA B (l := oL11) (l' := oL12) (t := 103) (n := 16) (len := 16) (c := 5) (w := 30) rfl rfl (by decide) rfl rfl (by omega) (by omega), h_bd_s, E_pR B (l := oL12) (l' := oL13) (off := 3) (t := 7) (k := 3) (r := 5) rfl rfl, h_b1_s, E_mkA B (l := oL13) (l' := oL14) (t := 101) (n := 8) (len := 8) (c := 6) (w := 46) rfl rfl (by decide) rfl rfl (by omega) (by omega), h_bd_s, E_pR B (l := oL14) (l' := oL15) (off := 3) (t := 7) (k := 4) (r := 6) rfl rfl, h_b1_s]
  exact lq6 B 8 h_hN 0 oL15 rfl (by decide) rfl rfl rfl rfl
theorem fr_X8 (B : N0 σ x) (hz : x + 15 ≤ h_cz σ) (hs : h_sl σ + 1912 ≤ h_ck σ) : f_X8_init (rpl x oL2 σ) (some (x + 1)) = some ((), rpl x oL17 σ) := by
  unfold f_X8_init
  rw [h_b1_s, E_mkA B (l := oL2) (l' := oL3) (t := 107) (n := 8) (len := 8) (c := 2) (w := 15) rfl rfl (by decide) rfl rfl (by omega) (by omega), h_bd_s, E_pR B (l := oL3) (l' := oL4) (off := 1) (t := 9) (k := 0) (r := 2) rfl rfl, h_b1_s, E_gR B (l := oL4) (off := 1) (t := 9) (k := 0) (r := 2) rfl (by decide) rfl, h_b1_s, E_mk B (l := oL4) (l' := oL5) (t := 7) (n := 5) (c := 3) (w := 23) rfl rfl rfl (by omega) (by omega), h_bd_s, E_mk B (l := oL5) (l' := oL6) (t := 5) (n := 2) (c := 4) (w := 28) rfl rfl rfl (by omega) (by omega), h_bd_s, E_rcv B (l := oL6) (off := 4) (t := 5) rfl, h_b1_s, fr_X4 B, h_bd_s, E_rcv B (l := oL8) (off := 3) (t := 7) rfl, h_b1_s, fr_X6 B hz hs, h_bd_s]
  have e := E_sR B (l := oL16) (l' := oL17) (t := 107) (u := 7) (off := 2) (n := 8) (i := 0) (r := 3) rfl rfl (by decide) rfl (by decide) (by decide) rfl
  have e' : h_sR (rpl x oL16 σ) (some (x + 2)) 107 7 0 (some (x + 3)) = some (rpl x oL17 σ) := e
  rw [e', h_b1_s]
theorem fr_X5 (B : N0 σ x) (hz : x + 15 ≤ h_cz σ) (hs : h_sl σ + 1912 ≤ h_ck σ) : f_X5_init (rpl x oL26 σ) (some (x + 10)) = some ((), rpl x oL28 σ) := by
  unfold f_X5_init
  rw [h_b1_s, E_mkA B (l := oL26) (l' := oL27) (t := 100) (n := 1600) (len := 1600) (c := 11) (w := 98) rfl rfl (by decide) rfl rfl (by omega) (by omega), h_bd_s, E_pR B (l := oL27) (l' := oL28) (off := 10) (t := 6) (k := 0) (r := 11) rfl rfl, h_b1_s]
set_option maxRecDepth 100000 in
theorem fr_X9 (B : N0 σ x) (hz : x + 15 ≤ h_cz σ) (hs : h_sl σ + 1912 ≤ h_ck σ) : f_X9_init (rpl x oL1 σ) (some (x + 0)) = some ((), rpl x oL36 σ) := by
  unfold f_X9_init
  rw [h_b1_s, E_mk B (l := oL1) (l' := oL2) (t := 9) (n := 1) (c := 1) (w := 14) rfl rfl rfl (by omega) (by omega), h_bd_s, E_rcv B (l := oL2) (off := 1) (t := 9) rfl, h_b1_s, fr_X8 B hz hs, h_bd_s, E_pR B (l := oL17) (l' := oL18) (off := 0) (t := 10) (k := 0) (r := 1) rfl rfl, h_b1_s, E_mkA B (l := oL18) (l' := oL19) (t := 108) (n := 8) (len := 8) (c := 7) (w := 54) rfl rfl (by decide) rfl rfl (by omega) (by omega), h_bd_s, E_pR B (l := oL19) (l' := oL20) (off := 0) (t := 10) (k := 1) (r := 7) rfl rfl, h_b1_s, E_mkA B (l := oL20) (l' := oL21) (t := 100) (n := 16) (len := 16) (c := 8) (w := 62) rfl rfl (by decide) rfl rfl (by omega) (by omega), h_bd_s, E_pR B (l := oL21) (l' := oL22) (off := 0) (t := 10) (k := 2) (r := 8) rfl rfl, h_b1_s]
  have e : g_X9_init_34 h_hN (rpl x oL22 σ) (some (x + 0)) 0 = _ := lq9 B 16 1984 0 oL22 rfl rfl rfl rfl rfl
  rw [e]
  show g_X9_init_34 1984 (rpl x oL23 σ) (some (x + 0)) (nI 16) = _
  rw [g_X9_init_34, if_pos (show (16 : Int32) ≤ nI 16 by decide), E_mkA B (l := oL23) (l' := oL24) (t := 100) (n := 16) (len := 16) (c := 9) (w := 78) rfl rfl (by decide) rfl rfl (by omega) (by omega), h_bd_s, E_pR B (l := oL24) (l' := oL25) (off := 0) (t := 10) (k := 3) (r := 9) rfl rfl, h_b1_s, E_mk B (l := oL25) (l' := oL26) (t := 6) (n := 4) (c := 10) (w := 94) rfl rfl rfl (by omega) (by omega), h_bd_s, E_rcv B (l := oL26) (off := 10) (t := 6) rfl, h_b1_s, fr_X5 B hz hs, h_bd_s, E_pR B (l := oL28) (l' := oL29) (off := 0) (t := 10) (k := 4) (r := 10) rfl rfl, h_b1_s, E_mkA B (l := oL29) (l' := oL30) (t := 100) (n := 8) (len := 8) (c := 12) (w := 1698) rfl rfl (by decide) rfl rfl (by omega) (by omega), h_bd_s, E_pR B (l := oL30) (l' := oL31) (off := 0) (t := 10) (k := 5) (r := 12) rfl rfl, h_b1_s, E_mkA B (l := oL31) (l' := oL32) (t := 100) (n := 6) (len := 6) (c := 13) (w := 1706) rfl rfl (by decide) rfl rfl (by omega) (by omega), h_bd_s, E_pR B (l := oL32) (l' := oL33) (off := 0) (t := 10) (k := 6) (r := 13) rfl rfl, h_b1_s, E_mkA B (l := oL33) (l' := oL34) (t := 105) (n := 200) (len := 200) (c := 14) (w := 1712) rfl rfl (by decide) rfl rfl (by omega) (by omega), h_bd_s, E_pR B (l := oL34) (l' := oL35) (off := 0) (t := 10) (k := 7) (r := 14) rfl rfl, h_b1_s, E_pI B (l := oL35) (l' := oL36) (off := 0) (t := 10) (k := 10) (v := 1) rfl rfl, h_b1_s]
end FR2
-- oLlast = oL36; 15 cells, 1912 places
abbrev oLx : List Op := oL36
end
/-! from 69.start -/
section
/-! A NEW OBJECT AND ITS REFERENCE: the two sides at the start -/
theorem m0_1 : ∀ k, k < 43 → ms0.1 k = if k = 2 then 1 else 0 := by decide +kernel
theorem m0_3 : ∀ i, i < 8 → ms0.2.1 3 i = if i = 0 then 1 else 0 := by decide +kernel
theorem m0_4 : ∀ i, i < 8 → ms0.2.1 4 i = 0 := by decide +kernel
theorem m0_5 : ∀ i, i < 8 → ms0.2.1 5 i = 0 := by decide +kernel
theorem m0_6 : ∀ i, i < 8 → ms0.2.1 6 i = -1 := by decide +kernel
theorem m0_8 : ∀ i, i < 128 → ms0.2.1 8 i = 0 := by decide +kernel
theorem m0_12 : ∀ i, i < 128 → ms0.2.1 12 i = 0 := by decide +kernel
theorem m0_14 : ∀ i, i < 8 → ms0.2.1 14 i = -1 := by decide +kernel
theorem m0_15 : ∀ i, i < 8 → ms0.2.1 15 i = 0 := by decide +kernel
theorem m0_17 : ∀ i, i < 32 → ms0.2.1 17 i = 0 := by decide +kernel
theorem m0_20 : ∀ i, i < 48 → ms0.2.1 20 i = 0 := by decide +kernel
theorem m0_23 : ∀ i, i < 48 → ms0.2.1 23 i = 0 := by decide +kernel
theorem m0_26 : ∀ i, i < 16 → ms0.2.1 26 i = -1 := by decide +kernel
theorem m0_L : ∀ i, i < 64 → ms0.2.2 i = -3000000000 := by decide +kernel
theorem Ln_0 : Ln 0 := ⟨0, by decide, rfl⟩
theorem m0_pr {i : Nat} (hi : i < 8) : pr ms0 i ↔ i = 0 := by
  unfold pr
  rw [m0_3 i hi]
  by_cases h : i = 0
  · rw [if_pos h]; exact ⟨fun _ => h, fun _ => by decide⟩
  · rw [if_neg h]; exact ⟨fun z => absurd rfl z, fun z => absurd z h⟩
theorem m0_ch {c p : Nat} (hp : p < 8) : ¬ ch ms0 c p := by
  intro h
  have h1 := h.2
  rw [m0_6 c h.1] at h1
  exact nI_ne_m1 (by omega) h1.symm
theorem Tr_0 : Tr ms0 := by
  refine ⟨⟨(m0_pr (by decide)).mpr rfl, m0_4 0 (by decide), m0_5 0 (by decide)⟩, fun s hs => by rw [m0_5 s hs]; exact Ln_0, fun s hs _ => ?_, fun s hs _ => m0_6 s hs, fun c p hp h => absurd h (m0_ch hp), fun s b hs hb hne h1 h2 _ => absurd (((m0_pr hs).mp h1).trans ((m0_pr hb).mp h2).symm) hne, fun c c' p hp h => absurd h (m0_ch hp)⟩
  unfold pL pB
  rw [m0_5 s hs, m0_4 s hs]
  decide
theorem MI_0 : MI ms0 := by
  refine ⟨⟨0, by decide, m0_1 36 (by decide)⟩, ⟨0, by decide, m0_1 28 (by decide)⟩, fun k hk => by rw [m0_5 k hk]; exact Ln_0, fun k hk => by rw [m0_8 k hk]; exact Ln_0, fun k hk => by rw [m0_17 k hk]; exact Ln_0, fun k hk => by rw [m0_20 k hk]; exact Ln_0, fun s hs => ⟨0, m0_15 s hs, by decide⟩, fun s hs => Or.inl (m0_14 s hs), fun p hp => Or.inl (m0_26 p hp)⟩
abbrev oLy : List Op := (0, 11, 0, 43, 0) :: oLx
def FT (σ : HS) (x : Nat) : Prop := ∀ off, off < 15 → h_tg σ (x + off) = tgL off oLy ∧ h_ln σ (x + off) = lnL off oLy ∧ ∀ j, h_iv σ (x + off) j = ivL off j oLy ∧ h_rv σ (x + off) j = (rvL off j oLy).map (x + ·) ∧ h_lv σ (x + off) j = lvL off j oLy
/-- where the parts of server 0 lie -/
def nG (x : Nat) : Nat → Nat → Nat := fun k _ => if k = 0 then x + 3 else if k = 1 then x + 5 else x + 6
theorem eL_nil {now : Int32} {f : Nat → Option E6} : ∀ (c i : Nat), (∀ j, i ≤ j → j < i + c → ∀ q, f j = some q → ¬ now < q.2.2.2.2.2) → eL now f i c = []
  | 0, i, _ => rfl
  | c + 1, i, h => by
    unfold eL
    have ih := eL_nil c (i + 1) (fun j h1 h2 => h j (by omega) (by omega))
    cases hf : f i with
    | none => exact ih
    | some q =>
      show (if now < q.2.2.2.2.2 then q :: eL now f (i + 1) c else eL now f (i + 1) c) = []
      rw [if_neg (h i (Nat.le_refl i) (by omega) q hf)]
      exact ih
set_option maxRecDepth 100000 in
theorem Rep_new {fx : Bool} {σ : HS} {x : Nat} (F : FT σ x) (Z : Zx σ x) : Rep fx σ x (nG x) ms0 := by
  have t : ∀ off n, off < 15 → tgL off oLy = n → h_tg σ (x + off) = n := fun off n h e => (F off h).1.trans e
  have l : ∀ off n, off < 15 → lnL off oLy = n → h_ln σ (x + off) = n := fun off n h e => (F off h).2.1.trans e
  have r : ∀ off j q, off < 15 → rvL off j oLy = some q → h_rv σ (x + off) j = some (x + q) := fun off j q h e => by rw [((F off h).2.2 j).2.1, e]; rfl
  have r0 : ∀ off j, off < 15 → rvL off j oLy = none → h_rv σ (x + off) j = none := fun off j h e => by rw [((F off h).2.2 j).2.1, e]; rfl
  have v : ∀ off j q, off < 15 → ivL off j oLy = q → h_iv σ (x + off) j = q := fun off j q h e => ((F off h).2.2 j).1.trans e
  have g : ∀ off j q, off < 15 → lvL off j oLy = q → h_lv σ (x + off) j = q := fun off j q h e => ((F off h).2.2 j).2.2.trans e
  refine ⟨Z, ?_, ?_, ?_, ?_, ?_, ?_, ?_⟩
  · exact ⟨t 0 10 (by decide) rfl, ⟨r 0 0 1 (by decide) rfl, r 0 1 7 (by decide) rfl, r 0 2 8 (by decide) rfl, r 0 3 9 (by decide) rfl, r 0 4 10 (by decide) rfl, r 0 5 12 (by decide) rfl, r 0 6 13 (by decide) rfl, r 0 7 14 (by decide) rfl⟩, ⟨t 1 9 (by decide) rfl, r 1 0 2 (by decide) rfl⟩, ⟨t 2 107 (by decide) rfl, l 2 8 (by decide) rfl⟩, ⟨t 7 108 (by decide) rfl, l 7 8 (by decide) rfl⟩, ⟨t 8 100 (by decide) rfl, l 8 16 (by decide) rfl⟩, ⟨t 9 100 (by decide) rfl, l 9 16 (by decide) rfl⟩, ⟨t 10 6 (by decide) rfl, r 10 0 11 (by decide) rfl⟩, ⟨t 11 100 (by decide) rfl, l 11 1600 (by decide) rfl⟩, ⟨t 12 100 (by decide) rfl, l 12 8 (by decide) rfl⟩, ⟨t 13 100 (by decide) rfl, l 13 6 (by decide) rfl⟩, ⟨t 14 105 (by decide) rfl, l 14 200 (by decide) rfl⟩⟩
  · exact ⟨(v 0 8 0 (by decide) rfl).trans (m0_1 28 (by decide)).symm, (v 0 9 0 (by decide) rfl).trans (m0_1 1 (by decide)).symm, (v 0 10 1 (by decide) rfl).trans (m0_1 2 (by decide)).symm, (v 0 11 0 (by decide) rfl).trans (m0_1 39 (by decide)).symm, (v 0 12 0 (by decide) rfl).trans (m0_1 40 (by decide)).symm, (v 0 13 0 (by decide) rfl).trans (m0_1 41 (by decide)).symm⟩
  · exact ⟨0, 0, by decide, by decide, v 10 1 0 (by decide) rfl, v 10 2 0 (by decide) rfl, m0_1 36 (by decide), (v 10 3 0 (by decide) rfl).trans (m0_1 42 (by decide)).symm, fun q j hq _ => absurd hq (Nat.not_lt_zero q)⟩
  · intro p hp
    refine ⟨?_, fun h => absurd (m0_26 p hp) h⟩
    rw [m0_26 p hp]
    exact v 8 p (-1) (by decide) ((show ∀ p, p < 16 → ivL 8 p oLy = -1 by decide +kernel) p hp)
  · exact ⟨0, by decide, m0_1 28 (by decide), fun i j hi => absurd hi (Nat.not_lt_zero i), fun i hi => absurd hi (Nat.not_lt_zero i)⟩
  · refine ⟨fun i j hi hj h1 h2 _ => ((m0_pr hi).mp h1).trans ((m0_pr hj).mp h2).symm, fun i hi h1 => Or.inl (show x + 6 < x + 15 by omega), fun i hi => ⟨fun h => ?_, fun h => ?_⟩⟩
    · have hi0 : i ≠ 0 := fun e => by rw [m0_3 i hi, if_pos e] at h; exact absurd h (by decide)
      exact r0 2 i (by decide) ((show ∀ i, i < 8 → i ≠ 0 → rvL 2 i oLy = none by decide +kernel) i hi hi0)
    · have hi0 := (m0_pr hi).mp h
      subst hi0
      refine ⟨r 2 0 3 (by decide) rfl, t 3 7 (by decide) rfl, v 3 0 0 (by decide) rfl, (v 3 1 (-1) (by decide) rfl).trans (m0_6 0 (by decide)).symm, ⟨x + 4, r 3 2 4 (by decide) rfl, ?_⟩, ⟨r 3 3 5 (by decide) rfl, t 5 103 (by decide) rfl, l 5 16 (by decide) rfl⟩, ⟨r 3 4 6 (by decide) rfl, t 6 101 (by decide) rfl, l 6 8 (by decide) rfl⟩, fun s hs => ?_, fun j hj a ha => ?_, ?_⟩
      · unfold pB pL
        rw [m0_4 0 (by decide), m0_5 0 (by decide)]
        exact ⟨t 4 5 (by decide) rfl, v 4 0 0 (by decide) rfl, v 4 1 0 (by decide) rfl, by decide, by decide⟩
      · rw [m0_L (8 * 0 + s) (by omega)]
        exact Or.inl ⟨g 6 s _ (by decide) ((show ∀ s, s < 8 → lvL 6 s oLy = -9223372036854775808 by decide +kernel) s hs), rfl⟩
      · have : h_rv σ (x + 5) j = none := r0 5 j (by decide) ((show ∀ j, j < 16 → rvL 5 j oLy = none by decide +kernel) j hj)
        have ha' : h_rv σ (x + 5) j = some a := ha
        rw [this] at ha'
        cases ha'
      · rw [eL_nil, eL_nil]
        · intro j _ hj q hq
          have hq' := Option.some.inj hq
          rw [← hq', m0_12 j (by omega), m0_1 1 (by decide)]
          show ¬ (0 : Int32) < 0
          decide
        · intro j _ hj q hq
          have : h_rv σ (x + 5) j = none := r0 5 j (by decide) ((show ∀ j, j < 16 → rvL 5 j oLy = none by decide +kernel) j (by omega))
          have hq' : (h_rv σ (x + 5) j).map (eV σ) = some q := hq
          rw [this] at hq'
          cases hq'
  · refine ⟨fun i j hi _ h => absurd (m0_14 i hi) h, fun s hs => ⟨fun _ => ?_, fun h => absurd (m0_14 s hs) h⟩⟩
    exact r0 7 s (by decide) ((show ∀ s, s < 8 → rvL 7 s oLy = none by decide +kernel) s hs)
theorem ivL_far {off k : Nat} (ho : 15 ≤ off) : ∀ l : List Op, (∀ o ∈ l, o.1 = 0 ∨ o.2.1 < 15) → ivL off k l = 0 ∧ lvL off k l = 0
  | [], _ => ⟨rfl, rfl⟩
  | o :: l, h => by
    have ih := ivL_far (k := k) ho l (fun o' h' => h o' (List.mem_cons_of_mem _ h'))
    have h1 := h o List.mem_cons_self
    unfold ivL lvL
    rw [ih.1, ih.2]
    by_cases e : o.1 = 0
    · rw [if_pos e, if_pos e]
      constructor <;> split <;> rfl
    · have h2 : ¬ o.2.1 = off := by rcases h1 with h1 | h1; exact absurd h1 e; omega
      rw [if_neg e, if_neg e, if_neg (fun z => h2 z.2.1), if_neg (fun z => h2 z.2.1)]
      exact ⟨rfl, rfl⟩
theorem kA_lt {m k : Nat} (hk : k_tag k ≠ 0) : m < kA m k ∧ kA m k < m + 34 := by
  have h43 := k_tag_lt hk
  have h2 : ∀ k, k < 43 → k_tag k ≠ 0 → (if k ≤ 24 then k - 3 else if k ≤ 27 then k - 4 else if k ≤ 35 then k - 5 else k - 6) < 33 := by decide +kernel
  have := h2 k h43 hk
  unfold kA
  omega
theorem MV.to {σ σ' : HS} {m : Nat} {A : Nat → Nat} {ms : MS} (V : MV σ m A ms) (h1 : Sm σ σ' m) (h2 : ∀ k, k_tag k ≠ 0 → Sm σ σ' (A k)) : MV σ' m A ms := by
  obtain ⟨v1, v2, v3, v4, v5, v6⟩ := V
  refine ⟨by rw [h1.1]; exact v1, fun k hk => ?_, v3, fun k hk => by rw [h1.2.2.1]; exact v4 k hk, fun k hk j => by rw [(h2 k hk).2.2.1]; exact v5 k hk j, fun j => by rw [(h2 13 (by decide)).2.2.2.2]; exact v6 j⟩
  rw [h1.2.2.2.1, (h2 k hk).1, (h2 k hk).2.1]
  exact v2 k hk
/-- which array lies at the d-th place -/
def kInv (d : Nat) : Nat := if d ≤ 21 then d + 3 else if d ≤ 23 then d + 4 else if d ≤ 30 then d + 5 else d + 6
theorem kInv_ok : ∀ d, d < 33 → (k_tag (kInv d) = 100 ∨ k_tag (kInv d) = 101 ∨ k_tag (kInv d) = 102) ∧ kA 0 (kInv d) = 1 + d := by decide +kernel
theorem kA_m (m k : Nat) : kA m k = m + kA 0 k := by unfold kA; omega
/-- what holds before the first call -/
def St (fx : Bool) (σ : HS) (x sl : Nat) : Prop := Rep fx σ x (nG x) ms0 ∧ MV σ (x + 15) (kA (x + 15)) ms0 ∧ (h_tg σ (x + 49) = 101 ∧ h_ln σ (x + 49) = 1) ∧ h_sz σ = x + 50 ∧ h_sl σ = sl + 6251 ∧ h_cz σ = h_cz (h_0 x sl) ∧ h_ck σ = h_ck (h_0 x sl)
set_option maxRecDepth 100000 in
theorem law_go_of {fx : Bool} {xs : Nat → Int32} {L x sl : Nat} (J : Nat → HS → Prop) (h0 : ∀ σ, St fx σ x sl → J 0 σ) (hJ : ∀ i σ, J i σ → i + 5 ≤ L → lc_all xs (some x) (some (x + 15)) (some (x + 49)) i σ (J (i + 5))) : law_go xs L (h_0 x sl) := by
  have B : N0 (h_0 x sl) x := ⟨rfl, fun _ _ => rfl⟩
  have hcz : h_cz (h_0 x sl) = x + 601024 := rfl
  have hck : h_ck (h_0 x sl) = sl + 7293034 := rfl
  have hsl : h_sl (h_0 x sl) = sl := rfl
  have e1 : h_mk (h_0 x sl) 10 14 = some (some (x + 0), rpl x oL1 (h_0 x sl)) := E_mk B (l := []) (l' := oL1) (c := 0) (w := 0) rfl rfl rfl (by omega) (by omega)
  have q1 : h_rcv (rpl x oL1 (h_0 x sl)) (some (x + 0)) 10 = some (x + 0) := E_rcv B rfl
  have e2 := fr_X9 B (by omega) (by omega)
  have e3 : h_mk (rpl x oLx (h_0 x sl)) 11 43 = some (some (x + 15), rpl x oLy (h_0 x sl)) := E_mk B (l := oLx) (l' := oLy) (c := 15) (w := 1912) rfl rfl rfl (by omega) (by omega)
  have q3 : h_rcv (rpl x oLy (h_0 x sl)) (some (x + 15)) 11 = some (x + 15) := E_rcv B (l := oLy) (off := 15) rfl
  have hcp : cP oLy = 16 := rfl
  have hcs : cS oLy = 1955 := rfl
  have hc3 := rpl_c (x := x) (σ := h_0 x sl) oLy
  have hl3 : h_sl (rpl x oLy (h_0 x sl)) = sl + 1955 := by rw [rpl_sl, hcs, hsl]
  obtain ⟨s4, e4, V, z4, l4, c4, k4, t4, f4⟩ := model_init (σ0 := rpl x oLy (h_0 x sl)) (m := x + 15) (by rw [rpl_sz B, hcp]) ((rpl_tg B 15 oLy).trans rfl) (fun a ha i => by
    obtain ⟨d, rfl⟩ : ∃ d, a = x + (15 + d) := ⟨a - x - 15, by omega⟩
    rw [rpl_iv B _ _ _ (Or.inr rfl), rpl_lv B _ _ _ (Or.inr rfl)]
    exact ivL_far (by omega) oLy (by decide +kernel)) (by rw [hc3.1]; omega) (by rw [hc3.2, hl3]; omega)
  have h1 : (1 : Int32).toNatClampNeg = 1 := by decide
  have e5 : h_mkA s4 101 1 = some (some (x + 49), h_push s4 101 1 1) := by
    unfold h_mkA
    rw [h1, if_pos ⟨by decide, by decide, by rw [z4, c4, hc3.1]; omega, by rw [l4, k4, hc3.2, hl3]; omega⟩, z4]
  have hne : ∀ a, a < x + 49 → Sm s4 (h_push s4 101 1 1) a := fun a ha => Sm_P (by rw [z4]; omega)
  have V5 : MV (h_push s4 101 1 1) (x + 15) (kA (x + 15)) ms0 := V.to (hne _ (by omega)) (fun k hk => hne _ (by have := kA_lt (m := x + 15) hk; omega))
  have ht9 : h_tg (h_push s4 101 1 1) (x + 49) = 101 := by
    show va_up (h_tg s4) (h_sz s4) 101 (x + 49) = 101
    rw [z4]; exact va_up_self _ _ _
  have hl9 : h_ln (h_push s4 101 1 1) (x + 49) = 1 := by
    show va_up (h_ln s4) (h_sz s4) 1 (x + 49) = 1
    rw [z4]; exact va_up_self _ _ _
  have hz5 : h_sz (h_push s4 101 1 1) = x + 50 := by
    show h_sz s4 + 1 = _
    rw [z4]
  have Z : Zx (h_push s4 101 1 1) x := by
    refine ⟨by rw [hz5]; exact Nat.le_refl _, fun a ha => ?_, fun a h1 h2 => ?_⟩
    · rw [hz5] at ha
      have e : h_tg (h_push s4 101 1 1) a = h_tg s4 a := (Sm_P (by rw [z4]; omega)).1
      obtain ⟨d, rfl⟩ : ∃ d, a = x + d := ⟨a - x, by omega⟩
      rw [e, t4 _ (by omega), rpl_tg B d oLy]
      exact tgL_far oLy (by rw [hcp]; omega)
    · by_cases g1 : a = x + 49
      · rw [g1, ht9]; exact Or.inr (Or.inr (Or.inl rfl))
      · by_cases g2 : a = x + 15
        · rw [g2]; exact Or.inl V5.1
        · obtain ⟨k1, k2⟩ := kInv_ok (a - (x + 16)) (by omega)
          have ea : kA (x + 15) (kInv (a - (x + 16))) = a := by rw [kA_m, k2]; omega
          have := (V5.2.1 (kInv (a - (x + 16))) (by rcases k1 with h | h | h <;> rw [h] <;> decide)).2.1
          rw [ea] at this
          rw [this]
          exact Or.inr k1
  have FT5 : FT (h_push s4 101 1 1) x := by
    intro off ho
    obtain ⟨a1, a2, a3, a4, a5⟩ := hne (x + off) (by omega)
    obtain ⟨b1, b2, b3⟩ := f4 (x + off) (by omega)
    refine ⟨by rw [a1, b1]; exact rpl_tg B off oLy, by rw [a2, b2]; exact rpl_ln B off oLy (Or.inr rfl), fun j => ⟨by rw [a3, (b3 j).1]; exact rpl_iv B off j oLy (Or.inr rfl), by rw [a4, (b3 j).2.1]; exact rpl_rv B off j oLy (Or.inr rfl), by rw [a5, (b3 j).2.2]; exact rpl_lv B off j oLy (Or.inr rfl)⟩⟩
  refine ⟨some x, _, e1, _, q1, _, e2, some (x + 15), _, e3, _, q3, s4, e4, some (x + 49), _, e5, J, h0 _ ⟨Rep_new FT5 Z, V5, ⟨ht9, hl9⟩, hz5, ?_, ?_, ?_⟩, hJ⟩
  · show h_sl s4 + 1 = _
    rw [l4, hl3]
  · show h_cz s4 = _
    rw [c4, hc3.1]
  · show h_ck s4 = _
    rw [k4, hc3.2]
end
