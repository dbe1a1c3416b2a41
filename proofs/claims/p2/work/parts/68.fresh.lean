/-! A NEW OBJECT: its constructor, step by step, as a list of writes -/
abbrev Op : Type := Nat × Nat × Nat × Nat × Int32
def stp (x : Nat) (o : Op) (σ : HS) : HS := if o.1 = 0 then h_push σ o.2.1 o.2.2.1 o.2.2.2.1 else if o.1 = 1 then h_setR σ (x + o.2.1) o.2.2.1 (some (x + o.2.2.2.1)) else if o.1 = 2 then h_setI σ (x + o.2.1) o.2.2.1 o.2.2.2.2 else h_setL σ (x + o.2.1) o.2.2.1 (-9223372036854775808)
/-- the writes of a list, the last one first -/
def rpl (x : Nat) : List Op → HS → HS
  | [], σ => σ
  | o :: l, σ => stp x o (rpl x l σ)
def cP : List Op → Nat
  | [] => 0
  | o :: l => if o.1 = 0 then cP l + 1 else cP l
def cS : List Op → Nat
  | [] => 0
  | o :: l => if o.1 = 0 then cS l + o.2.2.2.1 else cS l
def tgL (off : Nat) : List Op → Nat
  | [] => 0
  | o :: l => if o.1 = 0 ∧ cP l = off then o.2.1 else tgL off l
def lnL (off : Nat) : List Op → Nat
  | [] => 0
  | o :: l => if o.1 = 0 ∧ cP l = off then o.2.2.1 else lnL off l
def rvL (off k : Nat) : List Op → Option Nat
  | [] => none
  | o :: l => if o.1 = 0 then (if cP l = off then none else rvL off k l) else if o.1 = 1 ∧ o.2.1 = off ∧ o.2.2.1 = k then some o.2.2.2.1 else rvL off k l
def ivL (off k : Nat) : List Op → Int32
  | [] => 0
  | o :: l => if o.1 = 0 then (if cP l = off then 0 else ivL off k l) else if o.1 = 2 ∧ o.2.1 = off ∧ o.2.2.1 = k then o.2.2.2.2 else ivL off k l
def lvL (off k : Nat) : List Op → Int64
  | [] => 0
  | o :: l => if o.1 = 0 then (if cP l = off then 0 else lvL off k l) else if 2 < o.1 ∧ o.2.1 = off ∧ o.2.2.1 = k then -9223372036854775808 else lvL off k l
/-- nothing is there from x on -/
def N0 (σ : HS) (x : Nat) : Prop := h_sz σ = x ∧ ∀ a, x ≤ a → h_tg σ a = 0
theorem stp_0 {x t n k : Nat} {v : Int32} {σ : HS} : stp x (0, t, n, k, v) σ = h_push σ t n k := rfl
theorem stp_1 {x a k r : Nat} {v : Int32} {σ : HS} : stp x (1, a, k, r, v) σ = h_setR σ (x + a) k (some (x + r)) := rfl
theorem stp_2 {x a k r : Nat} {v : Int32} {σ : HS} : stp x (2, a, k, r, v) σ = h_setI σ (x + a) k v := rfl
theorem stp_3 {x c a k r : Nat} {v : Int32} {σ : HS} (h : 2 < c) : stp x (c, a, k, r, v) σ = h_setL σ (x + a) k (-9223372036854775808) := by
  unfold stp
  rw [if_neg (show ¬ c = 0 by omega), if_neg (show ¬ c = 1 by omega), if_neg (show ¬ c = 2 by omega)]
section FR
variable {x : Nat} {σ : HS}
theorem op_cases (P : Op → Prop) (h0 : ∀ t n k v, P (0, t, n, k, v)) (h1 : ∀ a k r v, P (1, a, k, r, v)) (h2 : ∀ a k r v, P (2, a, k, r, v)) (h3 : ∀ c a k r v, 2 < c → P (c, a, k, r, v)) : ∀ o, P o
  | (0, t, n, k, v) => h0 t n k v
  | (1, t, n, k, v) => h1 t n k v
  | (2, t, n, k, v) => h2 t n k v
  | (c + 3, t, n, k, v) => h3 (c + 3) t n k v (by omega)
theorem rpl_sz (B : N0 σ x) : ∀ l, h_sz (rpl x l σ) = x + cP l
  | [] => B.1
  | o :: l => by
    have ih := rpl_sz B l
    revert o
    refine op_cases _ ?_ ?_ ?_ ?_
    · intro t n k v
      show h_sz (h_push (rpl x l σ) t n k) = x + (cP l + 1)
      show h_sz (rpl x l σ) + 1 = _
      rw [ih]; omega
    · intro a k r v
      exact ih
    · intro a k r v
      exact ih
    · intro c a k r v hc
      show h_sz (stp x _ _) = _
      rw [stp_3 hc]
      show h_sz (rpl x l σ) = x + (if c = 0 then _ else _)
      rw [if_neg (by omega)]
      exact ih
theorem rpl_sl : ∀ l, h_sl (rpl x l σ) = h_sl σ + cS l
  | [] => rfl
  | o :: l => by
    have ih := rpl_sl l
    revert o
    refine op_cases _ ?_ ?_ ?_ ?_
    · intro t n k v
      show h_sl (rpl x l σ) + k = h_sl σ + (cS l + k)
      rw [ih]; omega
    · intro a k r v
      exact ih
    · intro a k r v
      exact ih
    · intro c a k r v hc
      show h_sl (stp x _ _) = _
      rw [stp_3 hc]
      show h_sl (rpl x l σ) = h_sl σ + (if c = 0 then _ else _)
      rw [if_neg (by omega)]
      exact ih
theorem rpl_c : ∀ l, h_cz (rpl x l σ) = h_cz σ ∧ h_ck (rpl x l σ) = h_ck σ
  | [] => ⟨rfl, rfl⟩
  | o :: l => by
    have ih := rpl_c l
    revert o
    refine op_cases _ ?_ ?_ ?_ ?_
    · intro t n k v
      exact ih
    · intro a k r v
      exact ih
    · intro a k r v
      exact ih
    · intro c a k r v hc
      show h_cz (stp x _ _) = _ ∧ h_ck (stp x _ _) = _
      rw [stp_3 hc]
      exact ih
theorem rpl_tg (B : N0 σ x) (off : Nat) : ∀ l, h_tg (rpl x l σ) (x + off) = tgL off l
  | [] => B.2 _ (Nat.le_add_right x off)
  | o :: l => by
    have ih := rpl_tg B off l
    have hz := rpl_sz B l
    revert o
    refine op_cases _ ?_ ?_ ?_ ?_
    · intro t n k v
      show va_up _ (h_sz (rpl x l σ)) t (x + off) = (if 0 = 0 ∧ cP l = off then t else tgL off l)
      rw [hz]
      by_cases e : cP l = off
      · rw [if_pos ⟨rfl, e⟩, e]
        exact va_up_self _ _ _
      · rw [if_neg (fun z => e z.2), va_up_ne _ _ (by omega)]
        exact ih
    · intro a k r v
      exact ih
    · intro a k r v
      exact ih
    · intro c a k r v hc
      show h_tg (stp x _ _) _ = (if c = 0 ∧ _ then _ else _)
      rw [stp_3 hc, if_neg (fun z => by omega)]
      exact ih
theorem cP_3 {c a k r : Nat} {v : Int32} {l : List Op} (h : 2 < c) : cP ((c, a, k, r, v) :: l) = cP l := if_neg (by show ¬ c = 0; omega)
theorem rpl_ln (B : N0 σ x) (off : Nat) : ∀ l, off < cP l ∨ h_ln σ (x + off) = 0 → h_ln (rpl x l σ) (x + off) = lnL off l
  | [], hb => by
    rcases hb with h | h
    · exact absurd h (Nat.not_lt_zero _)
    · exact h
  | o :: l, hb => by
    have ih := rpl_ln B off l
    have hz := rpl_sz B l
    revert hb
    revert o
    refine op_cases _ ?_ ?_ ?_ ?_
    · intro t n k v hb
      show va_up _ (h_sz (rpl x l σ)) n (x + off) = (if 0 = 0 ∧ cP l = off then n else lnL off l)
      have hb' : off < cP l + 1 ∨ h_ln σ (x + off) = 0 := hb
      rw [hz]
      by_cases e : cP l = off
      · rw [if_pos ⟨rfl, e⟩, e]
        exact va_up_self _ _ _
      · rw [if_neg (fun z => e z.2), va_up_ne _ _ (by omega)]
        exact ih (by rcases hb' with h | h; exact Or.inl (by omega); exact Or.inr h)
    · intro a k r v hb
      exact ih hb
    · intro a k r v hb
      exact ih hb
    · intro c a k r v hc hb
      rw [cP_3 hc] at hb
      show h_ln (stp x _ _) _ = (if c = 0 ∧ _ then _ else _)
      rw [stp_3 hc, if_neg (fun z => by omega)]
      exact ih hb
theorem rpl_rv (B : N0 σ x) (off j : Nat) : ∀ l, off < cP l ∨ h_rv σ (x + off) j = none → h_rv (rpl x l σ) (x + off) j = (rvL off j l).map (x + ·)
  | [], hb => by
    rcases hb with h | h
    · exact absurd h (Nat.not_lt_zero _)
    · exact h
  | o :: l, hb => by
    have ih := rpl_rv B off j l
    have hz := rpl_sz B l
    revert hb
    revert o
    refine op_cases _ ?_ ?_ ?_ ?_
    · intro t n k v hb
      have hb' : off < cP l + 1 ∨ h_rv σ (x + off) j = none := hb
      show h_upA _ (h_sz (rpl x l σ)) (fun _ => none) (x + off) j = Option.map (x + ·) (if cP l = off then none else rvL off j l)
      rw [hz]
      by_cases e : cP l = off
      · rw [if_pos e, e]
        exact if_pos rfl
      · rw [if_neg e, upA_ne (by omega)]
        exact ih (by rcases hb' with h | h; exact Or.inl (by omega); exact Or.inr h)
    · intro a k r v hb
      show h_up2 _ (x + a) k (some (x + r)) (x + off) j = Option.map (x + ·) (if 1 = 1 ∧ a = off ∧ k = j then some r else rvL off j l)
      by_cases e : a = off ∧ k = j
      · rw [if_pos ⟨rfl, e⟩, e.1, e.2]
        exact if_pos ⟨rfl, rfl⟩
      · rw [if_neg (fun z => e z.2)]
        refine (if_neg (fun z => e ⟨by omega, z.2.symm⟩)).trans (ih hb)
    · intro a k r v hb
      exact ih hb
    · intro c a k r v hc hb
      rw [cP_3 hc] at hb
      show h_rv (stp x _ _) _ _ = Option.map (x + ·) (if c = 0 then _ else if c = 1 ∧ _ then _ else _)
      rw [stp_3 hc, if_neg (by omega), if_neg (fun z => by omega)]
      exact ih hb
theorem rpl_iv (B : N0 σ x) (off j : Nat) : ∀ l, off < cP l ∨ h_iv σ (x + off) j = 0 → h_iv (rpl x l σ) (x + off) j = ivL off j l
  | [], hb => by
    rcases hb with h | h
    · exact absurd h (Nat.not_lt_zero _)
    · exact h
  | o :: l, hb => by
    have ih := rpl_iv B off j l
    have hz := rpl_sz B l
    revert hb
    revert o
    refine op_cases _ ?_ ?_ ?_ ?_
    · intro t n k v hb
      have hb' : off < cP l + 1 ∨ h_iv σ (x + off) j = 0 := hb
      show h_upA _ (h_sz (rpl x l σ)) (fun _ => 0) (x + off) j = (if cP l = off then 0 else ivL off j l)
      rw [hz]
      by_cases e : cP l = off
      · rw [if_pos e, e]
        exact if_pos rfl
      · rw [if_neg e, upA_ne (by omega)]
        exact ih (by rcases hb' with h | h; exact Or.inl (by omega); exact Or.inr h)
    · intro a k r v hb
      exact ih hb
    · intro a k r v hb
      show h_up2 _ (x + a) k v (x + off) j = (if 2 = 2 ∧ a = off ∧ k = j then v else ivL off j l)
      by_cases e : a = off ∧ k = j
      · rw [if_pos ⟨rfl, e⟩, e.1, e.2]
        exact if_pos ⟨rfl, rfl⟩
      · rw [if_neg (fun z => e z.2)]
        refine (if_neg (fun z => e ⟨by omega, z.2.symm⟩)).trans (ih hb)
    · intro c a k r v hc hb
      rw [cP_3 hc] at hb
      show h_iv (stp x _ _) _ _ = (if c = 0 then _ else if c = 2 ∧ _ then _ else _)
      rw [stp_3 hc, if_neg (by omega), if_neg (fun z => by omega)]
      exact ih hb
theorem rpl_lv (B : N0 σ x) (off j : Nat) : ∀ l, off < cP l ∨ h_lv σ (x + off) j = 0 → h_lv (rpl x l σ) (x + off) j = lvL off j l
  | [], hb => by
    rcases hb with h | h
    · exact absurd h (Nat.not_lt_zero _)
    · exact h
  | o :: l, hb => by
    have ih := rpl_lv B off j l
    have hz := rpl_sz B l
    revert hb
    revert o
    refine op_cases _ ?_ ?_ ?_ ?_
    · intro t n k v hb
      have hb' : off < cP l + 1 ∨ h_lv σ (x + off) j = 0 := hb
      show h_upA _ (h_sz (rpl x l σ)) (fun _ => 0) (x + off) j = (if cP l = off then 0 else lvL off j l)
      rw [hz]
      by_cases e : cP l = off
      · rw [if_pos e, e]
        exact if_pos rfl
      · rw [if_neg e, upA_ne (by omega)]
        exact ih (by rcases hb' with h | h; exact Or.inl (by omega); exact Or.inr h)
    · intro a k r v hb
      exact ih hb
    · intro a k r v hb
      exact ih hb
    · intro c a k r v hc hb
      rw [cP_3 hc] at hb
      show h_lv (stp x _ _) _ _ = (if c = 0 then _ else if 2 < c ∧ a = off ∧ k = j then _ else _)
      rw [stp_3 hc, if_neg (by omega)]
      show h_up2 _ (x + a) k _ (x + off) j = _
      by_cases e : a = off ∧ k = j
      · rw [if_pos ⟨hc, e⟩, e.1, e.2]
        exact if_pos ⟨rfl, rfl⟩
      · rw [if_neg (fun z => e z.2)]
        exact (if_neg (fun z => e ⟨by omega, z.2.symm⟩)).trans (ih hb)
theorem tgL_far {off : Nat} : ∀ l : List Op, cP l ≤ off → tgL off l = 0
  | [], _ => rfl
  | o :: l, h => by
    unfold cP at h
    unfold tgL
    by_cases e : o.1 = 0
    · rw [if_pos e] at h
      rw [if_neg (fun z => by omega)]
      exact tgL_far l (by omega)
    · rw [if_neg e] at h
      rw [if_neg (fun z => e z.1)]
      exact tgL_far l h
theorem tg_lt {off t : Nat} {l : List Op} (h : tgL off l = t) (ht : t ≠ 0) : off < cP l := Nat.lt_of_not_le (fun z => ht (h.symm.trans (tgL_far l z)))
/-- what lies below isn't touched -/
theorem rpl_lo (B : N0 σ x) {a : Nat} (ha : a < x) : ∀ l, Sm σ (rpl x l σ) a
  | [] => Sm.rf
  | o :: l => by
    have ih := rpl_lo B ha l
    have hz := rpl_sz B l
    revert o
    refine op_cases _ ?_ ?_ ?_ ?_
    · intro t n k v
      exact ih.tr (Sm_P (by rw [hz]; omega))
    · intro b k r v
      exact ih.tr (Sm_R (by omega))
    · intro b k r v
      exact ih.tr (Sm_I (by omega))
    · intro c b k r v hc
      show Sm σ (stp x _ _) a
      rw [stp_3 hc]
      exact ih.tr (Sm_L (by omega))
-- one step
theorem E_mk (B : N0 σ x) {l l' : List Op} {t n c w : Nat} (hl : l' = (0, t, 0, n, 0) :: l) (hc : cP l = c) (hw : cS l = w) (h1 : x + c + 1 ≤ h_cz σ) (h2 : h_sl σ + w + n ≤ h_ck σ) : h_mk (rpl x l σ) t n = some (some (x + c), rpl x l' σ) := by
  have e := rpl_c (x := x) (σ := σ) l
  unfold h_mk
  rw [rpl_sz B l, rpl_sl l, e.1, e.2, hc, hw, if_pos ⟨h1, h2⟩, hl]
  rfl
theorem E_mkA (B : N0 σ x) {l l' : List Op} {t n c w : Nat} {len : Int32} (hl : l' = (0, t, n, n, 0) :: l) (hn : len = nI n) (hn2 : n ≤ 60000000) (hc : cP l = c) (hw : cS l = w) (h1 : x + c + 1 ≤ h_cz σ) (h2 : h_sl σ + w + n ≤ h_ck σ) : h_mkA (rpl x l σ) t len = some (some (x + c), rpl x l' σ) := by
  have e := rpl_c (x := x) (σ := σ) l
  unfold h_mkA
  rw [hn, nI_clamp (by omega), rpl_sz B l, rpl_sl l, e.1, e.2, hc, hw, if_pos ⟨nI_pos (by omega), hn2, h1, h2⟩, hl]
  rfl
theorem E_pR (B : N0 σ x) {l l' : List Op} {t off k r : Nat} (hl : l' = (1, off, k, r, 0) :: l) (h : tgL off l = t) : h_pR (rpl x l σ) (some (x + off)) t k (some (x + r)) = some (rpl x l' σ) := by
  rw [pR_s ((rpl_tg B off l).trans h), hl]
  rfl
theorem E_pI (B : N0 σ x) {l l' : List Op} {t off k : Nat} {v : Int32} (hl : l' = (2, off, k, 0, v) :: l) (h : tgL off l = t) : h_pI (rpl x l σ) (some (x + off)) t k v = some (rpl x l' σ) := by
  rw [pI_s ((rpl_tg B off l).trans h), hl]
  rfl
theorem E_gR (B : N0 σ x) {l : List Op} {t off k r : Nat} (h : tgL off l = t) (ht : t ≠ 0) (h2 : rvL off k l = some r) : h_gR (rpl x l σ) (some (x + off)) t k = some (some (x + r)) := by
  rw [gR_s ((rpl_tg B off l).trans h), rpl_rv B _ _ _ (Or.inl (tg_lt h ht)), h2]
  rfl
theorem E_rcv (B : N0 σ x) {l : List Op} {t off : Nat} (h : tgL off l = t) : h_rcv (rpl x l σ) (some (x + off)) t = some (x + off) := rcv_s ((rpl_tg B off l).trans h)
theorem E_sL (B : N0 σ x) {l l' : List Op} {off n i : Nat} (hl : l' = (3, off, i, 0, 0) :: l) (h : tgL off l = 101) (hn : lnL off l = n) (hi : i < n) (hn2 : n < 2 ^ 31) : h_sL (rpl x l σ) (some (x + off)) 101 (nI i) (-9223372036854775808) = some (rpl x l' σ) := by
  rw [sL_s ((rpl_tg B off l).trans h) ((rpl_ln B off l (Or.inl (tg_lt h (by decide)))).trans hn) hi hn2, hl]
  rfl
theorem E_sI (B : N0 σ x) {l l' : List Op} {off n i : Nat} {v : Int32} (hl : l' = (2, off, i, 0, v) :: l) (h : tgL off l = 100) (hn : lnL off l = n) (hi : i < n) (hn2 : n < 2 ^ 31) : h_sI (rpl x l σ) (some (x + off)) 100 (nI i) v = some (rpl x l' σ) := by
  rw [sI_s ((rpl_tg B off l).trans h) ((rpl_ln B off l (Or.inl (tg_lt h (by decide)))).trans hn) hi hn2, hl]
  rfl
theorem E_sR (B : N0 σ x) {l l' : List Op} {t u off n i r : Nat} (hl : l' = (1, off, i, r, 0) :: l) (h : tgL off l = t) (ht : t ≠ 0) (hn : lnL off l = n) (hi : i < n) (hn2 : n < 2 ^ 31) (hu : tgL r l = u) : h_sR (rpl x l σ) (some (x + off)) t u (nI i) (some (x + r)) = some (rpl x l' σ) := by
  rw [sR_s ((rpl_tg B off l).trans h) ((rpl_ln B off l (Or.inl (tg_lt h ht))).trans hn) hi hn2 (by unfold h_fitR; exact decide_eq_true ((rpl_tg B r l).trans hu)), hl]
  rfl
-- the two loops
def lm6 (q : Nat) : Nat → Nat → List Op → List Op
  | _, 0, l => l
  | i, c + 1, l => lm6 q (i + 1) c ((3, q, i, 0, 0) :: l)
theorem lq6 (B : N0 σ x) {z q : Nat} : ∀ (c n i : Nat) (l : List Op), i + c = 8 → c < n → tgL z l = 7 → rvL z 4 l = some q → tgL q l = 101 → lnL q l = 8 → g_X6_init_39 n (rpl x l σ) (some (x + z)) (nI i) = some ((), rpl x (lm6 q i c l) σ)
  | 0, 0, i, l, _, h, _, _, _, _ => absurd h (Nat.lt_irrefl 0)
  | 0, n + 1, i, l, hi, _, _, _, _, _ => by
    rw [g_X6_init_39, if_pos (show (8 : Int32) ≤ nI i from (nI_le (a := 8) (b := i) (by omega) (by omega)))]
    rfl
  | c + 1, 0, i, l, _, h, _, _, _, _ => absurd h (Nat.not_lt_zero _)
  | c + 1, n + 1, i, l, hi, hn, h1, h2, h3, h4 => by
    rw [g_X6_init_39, if_neg (show ¬ (8 : Int32) ≤ nI i from (fun z => absurd (nI_lt (a := i) (b := 8) (by omega) (by omega)) (Int32.not_lt.mpr z))), E_gR B h1 (by decide) h2, h_b1_s, E_sL B (l' := (3, q, i, 0, 0) :: l) rfl h3 h4 (by omega) (by omega), h_b1_s, nI_c1]
    exact lq6 B c n (i + 1) _ (by omega) (by omega) (by exact h1) (by exact h2) (by exact h3) (by exact h4)
def lm9 : Nat → Nat → List Op → List Op
  | _, 0, l => l
  | i, c + 1, l => lm9 (i + 1) c ((2, 8, i, 0, -1) :: l)
theorem lq9 (B : N0 σ x) : ∀ (c n i : Nat) (l : List Op), i + c = 16 → tgL 0 l = 10 → rvL 0 2 l = some 8 → tgL 8 l = 100 → lnL 8 l = 16 → g_X9_init_34 (n + c) (rpl x l σ) (some (x + 0)) (nI i) = g_X9_init_34 n (rpl x (lm9 i c l) σ) (some (x + 0)) (nI 16)
  | 0, n, i, l, hi, _, _, _, _ => by
    have : i = 16 := by omega
    subst this
    rfl
  | c + 1, n, i, l, hi, h1, h2, h3, h4 => by
    rw [← Nat.add_assoc, g_X9_init_34, if_neg (show ¬ (16 : Int32) ≤ nI i from (fun z => absurd (nI_lt (a := i) (b := 16) (by omega) (by omega)) (Int32.not_lt.mpr z))), E_gR B h1 (by decide) h2, h_b1_s, E_sI B (l' := (2, 8, i, 0, -1) :: l) rfl h3 h4 (by omega) (by omega), h_b1_s, nI_c1]
    exact lq9 B c n (i + 1) _ (by omega) (by exact h1) (by exact h2) (by exact h3) (by exact h4)
end FR
def oL1 : List Op := (0, 10, 0, 14, 0) :: []
def oL2 : List Op := (0, 9, 0, 1, 0) :: oL1
def oL3 : List Op := (0, 107, 8, 8, 0) :: oL2
def oL4 : List Op := (1, 1, 0, 2, 0) :: oL3
def oL5 : List Op := (0, 7, 0, 5, 0) :: oL4
def oL6 : List Op := (0, 5, 0, 2, 0) :: oL5
def oL7 : List Op := (2, 4, 0, 0, 0) :: oL6
def oL8 : List Op := (2, 4, 1, 0, 0) :: oL7
def oL9 : List Op := (2, 3, 0, 0, 0) :: oL8
def oL10 : List Op := (2, 3, 1, 0, (-1)) :: oL9
def oL11 : List Op := (1, 3, 2, 4, 0) :: oL10
def oL12 : List Op := (0, 103, 16, 16, 0) :: oL11
def oL13 : List Op := (1, 3, 3, 5, 0) :: oL12
def oL14 : List Op := (0, 101, 8, 8, 0) :: oL13
def oL15 : List Op := (1, 3, 4, 6, 0) :: oL14
def oL16 : List Op := lm6 6 0 8 oL15
def oL17 : List Op := (1, 2, 0, 3, 0) :: oL16
def oL18 : List Op := (1, 0, 0, 1, 0) :: oL17
def oL19 : List Op := (0, 108, 8, 8, 0) :: oL18
def oL20 : List Op := (1, 0, 1, 7, 0) :: oL19
def oL21 : List Op := (0, 100, 16, 16, 0) :: oL20
def oL22 : List Op := (1, 0, 2, 8, 0) :: oL21
def oL23 : List Op := lm9 0 16 oL22
def oL24 : List Op := (0, 100, 16, 16, 0) :: oL23
def oL25 : List Op := (1, 0, 3, 9, 0) :: oL24
def oL26 : List Op := (0, 6, 0, 4, 0) :: oL25
def oL27 : List Op := (0, 100, 1600, 1600, 0) :: oL26
def oL28 : List Op := (1, 10, 0, 11, 0) :: oL27
def oL29 : List Op := (1, 0, 4, 10, 0) :: oL28
def oL30 : List Op := (0, 100, 8, 8, 0) :: oL29
def oL31 : List Op := (1, 0, 5, 12, 0) :: oL30
def oL32 : List Op := (0, 100, 6, 6, 0) :: oL31
def oL33 : List Op := (1, 0, 6, 13, 0) :: oL32
def oL34 : List Op := (0, 105, 200, 200, 0) :: oL33
def oL35 : List Op := (1, 0, 7, 14, 0) :: oL34
def oL36 : List Op := (2, 0, 10, 0, 1) :: oL35
section FR2
variable {x : Nat} {σ : HS}
theorem fr_X4 (B : N0 σ x) : f_X4_init (rpl x oL6 σ) (some (x + 4)) 0 0 = some ((), rpl x oL8 σ) := by
  unfold f_X4_init
  rw [h_b1_s, E_pI B (l := oL6) (l' := oL7) (off := 4) (t := 5) (k := 0) (v := 0) rfl rfl, h_b1_s, E_pI B (l := oL7) (l' := oL8) (off := 4) (t := 5) (k := 1) (v := 0) rfl rfl, h_b1_s]
theorem fr_X6 (B : N0 σ x) (hz : x + 15 ≤ h_cz σ) (hs : h_sl σ + 1912 ≤ h_ck σ) : f_X6_init (rpl x oL8 σ) (some (x + 3)) 0 (-1) (some (x + 4)) = some ((), rpl x oL16 σ) := by
  unfold f_X6_init
  rw [h_b1_s, E_pI B (l := oL8) (l' := oL9) (off := 3) (t := 7) (k := 0) (v := 0) rfl rfl, h_b1_s, E_pI B (l := oL9) (l' := oL10) (off := 3) (t := 7) (k := 1) (v := (-1)) rfl rfl, h_b1_s, E_pR B (l := oL10) (l' := oL11) (off := 3) (t := 7) (k := 2) (r := 4) rfl rfl, h_b1_s, E_mkA B (l := oL11) (l' := oL12) (t := 103) (n := 16) (len := 16) (c := 5) (w := 30) rfl rfl (by decide) rfl rfl (by omega) (by omega), h_bd_s, E_pR B (l := oL12) (l' := oL13) (off := 3) (t := 7) (k := 3) (r := 5) rfl rfl, h_b1_s, E_mkA B (l := oL13) (l' := oL14) (t := 101) (n := 8) (len := 8) (c := 6) (w := 46) rfl rfl (by decide) rfl rfl (by omega) (by omega), h_bd_s, E_pR B (l := oL14) (l' := oL15) (off := 3) (t := 7) (k := 4) (r := 6) rfl rfl, h_b1_s]
  exact lq6 B 8 h_hN 0 oL15 rfl (by decide) rfl rfl rfl rfl
theorem fr_X8 (B : N0 σ x) (hz : x + 15 ≤ h_cz σ) (hs : h_sl σ + 1912 ≤ h_ck σ) : f_X8_init (rpl x oL2 σ) (some (x + 1)) = some ((), rpl x oL17 σ) := by
  unfold f_X8_init
  rw [h_b1_s, E_mkA B (l := oL2) (l' := oL3) (t := 107) (n := 8) (len := 8) (c := 2) (w := 15) rfl rfl (by decide) rfl rfl (by omega) (by omega), h_bd_s, E_pR B (l := oL3) (l' := oL4) (off := 1) (t := 9) (k := 0) (r := 2) rfl rfl, h_b1_s, E_gR B (l := oL4) (off := 1) (t := 9) (k := 0) (r := 2) rfl (by decide) rfl, h_b1_s, E_mk B (l := oL4) (l' := oL5) (t := 7) (n := 5) (c := 3) (w := 23) rfl rfl rfl (by omega) (by omega), h_bd_s, E_mk B (l := oL5) (l' := oL6) (t := 5) (n := 2) (c := 4) (w := 28) rfl rfl rfl (by omega) (by omega), h_bd_s, E_rcv B (l := oL6) (off := 4) (t := 5) rfl, h_b1_s, fr_X4 B, h_bd_s, E_rcv B (l := oL8) (off := 3) (t := 7) rfl, h_b1_s, fr_X6 B hz hs, h_bd_s]
  have e := E_sR B (l := oL16) (l' := oL17) (t := 107) (u := 7) (off := 2) (n := 8) (i := 0) (r := 3) rfl rfl (by decide) rfl (by decide) (by decide) rfl
  have e' : h_sR (rpl x oL16 σ) (some (x + 2)) 107 7 0 (some (x + 3)) = some (rpl x oL17 σ) := e
  rw [e', h_b1_s]
theorem fr_X5 (B : N0 σ x) (hz : x + 15 ≤ h_cz σ) (hs : h_sl σ + 1912 ≤ h_ck σ) : f_X5_init (rpl x oL26 σ) (some (x + 10)) = some ((), rpl x oL28 σ) := by
  unfold f_X5_init
  rw [h_b1_s, E_mkA B (l := oL26) (l' := oL27) (t := 100) (n := 1600) (len := 1600) (c := 11) (w := 98) rfl rfl (by decide) rfl rfl (by omega) (by omega), h_bd_s, E_pR B (l := oL27) (l' := oL28) (off := 10) (t := 6) (k := 0) (r := 11) rfl rfl, h_b1_s]
set_option maxRecDepth 100000 in
theorem fr_X9 (B : N0 σ x) (hz : x + 15 ≤ h_cz σ) (hs : h_sl σ + 1912 ≤ h_ck σ) : f_X9_init (rpl x oL1 σ) (some (x + 0)) = some ((), rpl x oL36 σ) := by
  unfold f_X9_init
  rw [h_b1_s, E_mk B (l := oL1) (l' := oL2) (t := 9) (n := 1) (c := 1) (w := 14) rfl rfl rfl (by omega) (by omega), h_bd_s, E_rcv B (l := oL2) (off := 1) (t := 9) rfl, h_b1_s, fr_X8 B hz hs, h_bd_s, E_pR B (l := oL17) (l' := oL18) (off := 0) (t := 10) (k := 0) (r := 1) rfl rfl, h_b1_s, E_mkA B (l := oL18) (l' := oL19) (t := 108) (n := 8) (len := 8) (c := 7) (w := 54) rfl rfl (by decide) rfl rfl (by omega) (by omega), h_bd_s, E_pR B (l := oL19) (l' := oL20) (off := 0) (t := 10) (k := 1) (r := 7) rfl rfl, h_b1_s, E_mkA B (l := oL20) (l' := oL21) (t := 100) (n := 16) (len := 16) (c := 8) (w := 62) rfl rfl (by decide) rfl rfl (by omega) (by omega), h_bd_s, E_pR B (l := oL21) (l' := oL22) (off := 0) (t := 10) (k := 2) (r := 8) rfl rfl, h_b1_s]
  have e : g_X9_init_34 h_hN (rpl x oL22 σ) (some (x + 0)) 0 = _ := lq9 B 16 1984 0 oL22 rfl rfl rfl rfl rfl
  rw [e]
  show g_X9_init_34 1984 (rpl x oL23 σ) (some (x + 0)) (nI 16) = _
  rw [g_X9_init_34, if_pos (show (16 : Int32) ≤ nI 16 by decide), E_mkA B (l := oL23) (l' := oL24) (t := 100) (n := 16) (len := 16) (c := 9) (w := 78) rfl rfl (by decide) rfl rfl (by omega) (by omega), h_bd_s, E_pR B (l := oL24) (l' := oL25) (off := 0) (t := 10) (k := 3) (r := 9) rfl rfl, h_b1_s, E_mk B (l := oL25) (l' := oL26) (t := 6) (n := 4) (c := 10) (w := 94) rfl rfl rfl (by omega) (by omega), h_bd_s, E_rcv B (l := oL26) (off := 10) (t := 6) rfl, h_b1_s, fr_X5 B hz hs, h_bd_s, E_pR B (l := oL28) (l' := oL29) (off := 0) (t := 10) (k := 4) (r := 10) rfl rfl, h_b1_s, E_mkA B (l := oL29) (l' := oL30) (t := 100) (n := 8) (len := 8) (c := 12) (w := 1698) rfl rfl (by decide) rfl rfl (by omega) (by omega), h_bd_s, E_pR B (l := oL30) (l' := oL31) (off := 0) (t := 10) (k := 5) (r := 12) rfl rfl, h_b1_s, E_mkA B (l := oL31) (l' := oL32) (t := 100) (n := 6) (len := 6) (c := 13) (w := 1706) rfl rfl (by decide) rfl rfl (by omega) (by omega), h_bd_s, E_pR B (l := oL32) (l' := oL33) (off := 0) (t := 10) (k := 6) (r := 13) rfl rfl, h_b1_s, E_mkA B (l := oL33) (l' := oL34) (t := 105) (n := 200) (len := 200) (c := 14) (w := 1712) rfl rfl (by decide) rfl rfl (by omega) (by omega), h_bd_s, E_pR B (l := oL34) (l' := oL35) (off := 0) (t := 10) (k := 7) (r := 14) rfl rfl, h_b1_s, E_pI B (l := oL35) (l' := oL36) (off := 0) (t := 10) (k := 10) (v := 1) rfl rfl, h_b1_s]
end FR2
-- oLlast = oL36; 15 cells, 1912 places
abbrev oLx : List Op := oL36
