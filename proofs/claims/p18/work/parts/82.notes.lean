/-! from 82.notes -/
section
/-! NOTES: a site's list of them, and what is done to it -/
theorem nI_s1 (i : Nat) : nI (i + 1) - 1 = nI i := by rw [nI_succ]; exact Int32.add_sub_cancel _ _
theorem nI_m1 (i : Nat) : nI i + (-1) = nI i - 1 := (Int32.sub_eq_add_neg _ _).symm
theorem nI_01 : nI 0 - 1 < 0 := by decide
/-- a note has the endpoint; it meets a prefix -/
def nHas (ep : Int32) (q : N5) : Bool := ag (ln q.2.1) ep q.1
def nMt (b : Int32) (n : Nat) (q : N5) : Bool := mtB q.1 (ln q.2.1) b n
theorem lL_list {α β : Type} {P : α → Bool} {g : β → α} {f : Nat → Option α} : ∀ (C : List β) (i : Nat), (∀ j, j < C.length → f (i + j) = (C[j]?).map g) → lL P f i C.length = (C.map g).filter P
  | [], i, _ => rfl
  | a :: C, i, h => by
    have h0 := h 0 (by simp)
    have ih := lL_list (P := P) (g := g) (f := f) C (i + 1) (fun j hj => by
      have := h (j + 1) (by simp only [List.length_cons]; omega)
      rw [show i + 1 + j = i + (j + 1) by omega, this, List.getElem?_cons_succ])
    rw [List.length_cons]
    unfold lL
    rw [Nat.add_zero, List.getElem?_cons_zero] at h0
    rw [h0]
    show (if P (g a) = true then g a :: lL P f (i + 1) C.length else lL P f (i + 1) C.length) = _
    rw [ih, List.map_cons]
    by_cases hp : P (g a) = true
    · rw [if_pos hp, List.filter_cons_of_pos hp]
    · rw [if_neg hp, List.filter_cons_of_neg hp]
/-- the cells of a list of notes -/
def Ct (σ : HS) (n e : Nat) (C : List Nat) : Prop := h_tg σ n = 3 ∧ h_rv σ n 0 = some e ∧ h_tg σ e = 104 ∧ h_ln σ e = 6 ∧ C.length ≤ 6 ∧ h_iv σ n 1 = nI C.length ∧ (∀ j, j < C.length → h_rv σ e j = C[j]?) ∧ ∀ a ∈ C, nOk σ a
/-- the list's own cells alone have changed -/
def NW (n e : Nat) (σ σ' : HS) : Prop := (∀ b, b ≠ n → b ≠ e → Sm σ σ' b) ∧ h_tg σ' = h_tg σ ∧ h_ln σ' = h_ln σ ∧ h_sz σ' = h_sz σ ∧ h_sl σ' = h_sl σ ∧ h_cz σ' = h_cz σ ∧ h_ck σ' = h_ck σ
theorem NW.rf {n e : Nat} {σ : HS} : NW n e σ σ := ⟨fun _ _ _ => Sm.rf, rfl, rfl, rfl, rfl, rfl, rfl⟩
theorem NW.tr {n e : Nat} {σ σ1 σ2 : HS} (h : NW n e σ σ1) (h' : NW n e σ1 σ2) : NW n e σ σ2 := by
  obtain ⟨a1, a2, a3, a4, a5, a6, a7⟩ := h
  obtain ⟨b1, b2, b3, b4, b5, b6, b7⟩ := h'
  exact ⟨fun b h1 h2 => (a1 b h1 h2).tr (b1 b h1 h2), b2.trans a2, b3.trans a3, b4.trans a4, b5.trans a5, b6.trans a6, b7.trans a7⟩
theorem NW_R {n e k : Nat} {σ : HS} {v : Option Nat} : NW n e σ (h_setR σ e k v) := ⟨fun _ _ h => Sm_R h, rfl, rfl, rfl, rfl, rfl, rfl⟩
theorem NW_I {n e k : Nat} {σ : HS} {v : Int32} : NW n e σ (h_setI σ n k v) := ⟨fun _ h _ => Sm_I h, rfl, rfl, rfl, rfl, rfl, rfl⟩
section NTS
variable {σ σ' : HS} {n e : Nat} {C : List Nat}
theorem NW.ok {a : Nat} (W : NW n e σ σ') (hn : h_tg σ n = 3) (he : h_tg σ e = 104) (h : nOk σ a) : nOk σ' a ∧ nV σ' a = nV σ a := h.to (fun b hb => W.1 b (fun z => by rw [z, hn] at hb; omega) (fun z => by rw [z, he] at hb; omega))
theorem c_there {a : Nat} (h : nOk σ a) (now : Int32) : f_X1_isThere σ (some a) now = some (b2i (nP now (nV σ a)), σ) := by
  unfold f_X1_isThere
  rw [gI_s h.1, h_b1_s]
  show (if h_iv σ a 3 ≤ now then some (0, σ) else some (1, σ)) = some (b2i (decide (now < h_iv σ a 3)), σ)
  by_cases hc : h_iv σ a 3 ≤ now
  · rw [if_pos hc, decide_eq_false (Int32.not_lt.mpr hc)]; rfl
  · rw [if_neg hc, decide_eq_true (Int32.not_le.mp hc)]; rfl
theorem c_piece {a : Nat} (h : nOk σ a) : ∃ p, h_gR σ (some a) 2 0 = some (some p) ∧ h_rcv σ (some p) 5 = some p ∧ (∀ ep, f_X4_has σ (some p) ep = some (b2i (nHas ep (nV σ a)), σ)) ∧ (∀ p' b m, hP σ p' b m → f_X4_meets σ (some p) (some p') = some (b2i (nMt b m (nV σ a)), σ)) ∧ h_gI σ (some p) 5 1 = some (nV σ a).2.1 := by
  obtain ⟨h1, p, b, m, h2, h3⟩ := h
  have ev : nV σ a = (b, nI m, h_iv σ a 1, h_iv σ a 2, h_iv σ a 3) := by
    unfold nV
    rw [h2]
    show (h_iv σ p 0, h_iv σ p 1, _) = _
    rw [h3.2.1, h3.2.2.1]
  refine ⟨p, by rw [gR_s h1, h2], rcv_s h3.1, fun ep => ?_, fun p' b' m' h' => ?_, ?_⟩
  · rw [has_eq h3, ev]
    unfold nHas
    rw [ln_nI h3.2.2.2.1]
  · rw [meets_eq h3 h', ev]
    unfold nMt
    rw [ln_nI h3.2.2.2.1]
  · rw [gI_s h3.1, h3.2.2.1, ev]
theorem Ct.get (K : Ct σ n e C) {i : Nat} (hi : i < C.length) : ∃ a, C[i]? = some a ∧ a ∈ C ∧ nOk σ a ∧ h_gR σ (some n) 3 0 = some (some e) ∧ h_aR σ (some e) 104 (nI i) = some (some a) := by
  obtain ⟨k1, k2, k3, k4, k5, k6, k7, k8⟩ := K
  have hg := List.getElem?_eq_getElem hi
  refine ⟨C[i], hg, List.getElem_mem hi, k8 _ (List.getElem_mem hi), by rw [gR_s k1, k2], ?_⟩
  rw [aR_s k3 k4 (show i < 6 by omega) (by decide), k7 i hi, hg]
/-- one is taken out: those behind it move up -/
theorem g_nremove {i : Nat} : ∀ (c m l : Nat) (σ1 : HS), l + c + 1 = C.length → c < m → i ≤ l → (h_tg σ1 n = 3 ∧ h_rv σ1 n 0 = some e ∧ h_tg σ1 e = 104 ∧ h_ln σ1 e = 6 ∧ h_iv σ1 n 1 = nI C.length) → C.length ≤ 6 → n ≠ e → (∀ a ∈ C, h_tg σ1 a = 2) → (∀ j, j < C.length → h_rv σ1 e j = if i ≤ j ∧ j < l then C[j + 1]? else C[j]?) → ∃ σ', g_X2_remove_2 m σ1 (some n) (nI l) = some ((), σ') ∧ NW n e σ1 σ' ∧ h_rv σ' n 0 = some e ∧ h_iv σ' n 1 = nI (C.length - 1) ∧ ∀ j, j + 1 < C.length → h_rv σ' e j = if i ≤ j then C[j + 1]? else C[j]?
  | 0, 0, l, σ1, _, h, _, _, _, _, _, _ => absurd h (Nat.lt_irrefl 0)
  | c + 1, 0, l, σ1, _, h, _, _, _, _, _, _ => absurd h (Nat.not_lt_zero _)
  | 0, m + 1, l, σ1, hl, _, hil, ⟨k1, k2, k3, k4, k5⟩, k6, hne, _, hv => by
    have e1 : nI C.length - 1 = nI l := by rw [show C.length = l + 1 by omega, nI_s1]
    refine ⟨h_setI σ1 n 1 (nI l), ?_, NW_I, k2, by rw [iv_sI]; congr 1; omega, fun j hj => ?_⟩
    · rw [g_X2_remove_2, gI_s k1, k5, h_b1_s, e1, if_pos (Int32.le_refl _), h_b1_s, e1, pI_s k1, h_b1_s]
    · show h_rv σ1 e j = _
      rw [hv j (by omega)]
      by_cases hij : i ≤ j
      · rw [if_pos ⟨hij, by omega⟩, if_pos hij]
      · rw [if_neg (fun z => hij z.1), if_neg hij]
  | c + 1, m + 1, l, σ1, hl, hm, hil, ⟨k1, k2, k3, k4, k5⟩, k6, hne, ht, hv => by
    have e1 : nI C.length - 1 = nI (C.length - 1) := by rw [show C.length = (C.length - 1) + 1 by omega, nI_s1]; rfl
    have hr1 : h_rv σ1 e (l + 1) = C[l + 1]? := by rw [hv (l + 1) (by omega), if_neg (fun z => by omega)]
    have hg := List.getElem?_eq_getElem (l := C) (i := l + 1) (by omega)
    have e3 : h_aR σ1 (some e) 104 (nI (l + 1)) = some (some C[l + 1]) := by rw [aR_s k3 k4 (by omega) (by decide), hr1, hg]
    have e4 : h_sR σ1 (some e) 104 2 (nI l) (some C[l + 1]) = some (h_setR σ1 e l (some C[l + 1])) := sR_s k3 k4 (by omega) (by decide) (decide_eq_true (ht _ (List.getElem_mem _)))
    have step : g_X2_remove_2 (m + 1) σ1 (some n) (nI l) = g_X2_remove_2 m (h_setR σ1 e l (some C[l + 1])) (some n) (nI (l + 1)) := by
      rw [g_X2_remove_2, gI_s k1, k5, h_b1_s, e1, if_neg (nI_ge (a := l) (b := C.length - 1) (by omega) (by omega)), gR_s k1, k2, h_b1_s, h_b1_s, nI_c1, e3, h_b1_s, e4, h_b1_s]
    obtain ⟨σ', r1, r2, r3, r4, r5⟩ := g_nremove (i := i) c m (l + 1) (h_setR σ1 e l (some C[l + 1])) (by omega) (by omega) (by omega) ⟨k1, by rw [(Sm_R hne).2.2.2.1]; exact k2, k3, k4, k5⟩ k6 hne ht (fun j hj => by
      by_cases ej : j = l
      · rw [ej, rv_sR, if_pos ⟨hil, by omega⟩, hg]
      · rw [rv_sRk ej, hv j hj]
        by_cases hij : i ≤ j ∧ j < l
        · rw [if_pos hij, if_pos ⟨hij.1, by omega⟩]
        · rw [if_neg hij, if_neg (fun z => hij ⟨z.1, by omega⟩)])
    exact ⟨σ', step.trans r1, NW_R.tr r2, r3, r4, r5⟩
theorem c_nremove (K : Ct σ n e C) (hne : n ≠ e) {i : Nat} (hi : i < C.length) : ∃ σ', f_X2_remove σ (some n) (nI i) = some ((), σ') ∧ NW n e σ σ' ∧ Ct σ' n e (C.eraseIdx i) := by
  obtain ⟨k1, k2, k3, k4, k5, k6, k7, k8⟩ := id K
  obtain ⟨σ', r1, r2, r3, r4, r5⟩ := g_nremove (i := i) (C := C) (C.length - 1 - i) h_hN i σ (by omega) (h_hN_lt (by omega)) (Nat.le_refl i) ⟨k1, k2, k3, k4, k6⟩ k5 hne (fun a ha => (k8 a ha).1) (fun j hj => by rw [if_neg (fun z => by omega)]; exact k7 j hj)
  have hlen : (C.eraseIdx i).length = C.length - 1 := List.length_eraseIdx_of_lt hi
  refine ⟨σ', r1, r2, by rw [r2.2.1]; exact k1, r3, by rw [r2.2.1]; exact k3, by rw [r2.2.2.1]; exact k4, by omega, by rw [r4, hlen], fun j hj => ?_, fun a ha => (r2.ok k1 k3 (k8 a (List.mem_of_mem_eraseIdx ha))).1⟩
  rw [r5 j (by omega), List.getElem?_eraseIdx]
  by_cases hij : j < i
  · rw [if_neg (by omega), if_pos hij]
  · rw [if_pos (by omega), if_neg hij]
/-- the list with those before the i-th that P lets stay -/
def flt (P : Nat → Bool) (i : Nat) (C : List Nat) : List Nat := (C.take i).filter P ++ C.drop i
theorem flt_0 {P : Nat → Bool} {C : List Nat} : flt P 0 C = C := rfl
theorem take_s {C : List Nat} {i a : Nat} (h : C[i]? = some a) : C.take (i + 1) = C.take i ++ [a] ∧ C.drop i = a :: C.drop (i + 1) := by
  obtain ⟨hi, he⟩ := List.getElem?_eq_some_iff.mp h
  exact ⟨by rw [List.take_succ, h]; rfl, by rw [List.drop_eq_getElem_cons hi, he]⟩
theorem flt_keep {P : Nat → Bool} {C : List Nat} {i a : Nat} (h : C[i]? = some a) (hp : P a = true) : flt P (i + 1) C = flt P i C := by
  unfold flt
  rw [(take_s h).1, (take_s h).2, List.filter_append, List.filter_cons_of_pos hp, List.filter_nil, List.append_assoc]
  rfl
theorem flt_out {P : Nat → Bool} {C : List Nat} {i a : Nat} (h : C[i]? = some a) (hp : P a = false) : flt P (i + 1) C = flt P i (C.eraseIdx i) := by
  obtain ⟨hi, he⟩ := List.getElem?_eq_some_iff.mp h
  unfold flt
  rw [(take_s h).1, List.filter_append, List.filter_cons_of_neg (by rw [hp]; decide), List.filter_nil, List.append_nil, List.eraseIdx_eq_take_drop_succ]
  congr 1
  · rw [List.take_append_of_le_length (by rw [List.length_take]; omega), List.take_take, Nat.min_self]
  · rw [List.drop_append_of_le_length (by rw [List.length_take]; omega), List.drop_take, Nat.sub_self, List.take_zero, List.nil_append]
theorem flt_all {P : Nat → Bool} {C : List Nat} : flt P C.length C = C.filter P := by
  unfold flt
  rw [List.take_length, List.drop_length, List.append_nil]
end NTS
end
/-! from 83.notes2 -/
section
/-! NOTES: find, count, lose, make -/
section NT2
variable {n e : Nat}
theorem c_nfind {σ : HS} {C : List Nat} (K : Ct σ n e C) (ep now : Int32) : ∀ (c m i : Nat), i + c = C.length → c < m → g_X2_find_2 m σ (some n) ep now (nI i) = some ((C.drop i).find? (fun a => nP now (nV σ a) && nHas ep (nV σ a)), σ)
  | 0, 0, i, _, h => absurd h (Nat.lt_irrefl 0)
  | c + 1, 0, i, _, h => absurd h (Nat.not_lt_zero _)
  | 0, m + 1, i, hi, _ => by
    obtain ⟨k1, k2, k3, k4, k5, k6, k7, k8⟩ := id K
    rw [g_X2_find_2, gI_s k1, k6, h_b1_s, if_pos (nI_le (a := C.length) (b := i) (by omega) (by omega)), List.drop_of_length_le (by omega)]
    rfl
  | c + 1, m + 1, i, hi, hm => by
    obtain ⟨k1, k2, k3, k4, k5, k6, k7, k8⟩ := id K
    obtain ⟨a, g1, g2, g3, g4, g5⟩ := K.get (i := i) (by omega)
    obtain ⟨p, p1, p2, p3, -⟩ := c_piece g3
    have ih := c_nfind K ep now c m (i + 1) (by omega) (by omega)
    rw [g_X2_find_2, gI_s k1, k6, h_b1_s, if_neg (nI_ge (a := i) (b := C.length) (by omega) (by omega)), g4, h_b1_s, g5, h_b1_s, rcv_s g3.1, h_b1_s, c_there g3, h_bd_s, (take_s g1).2, nI_c1]
    cases hl : nP now (nV σ a) with
    | false => rw [b2i_f, if_pos rfl, ih, List.find?_cons_of_neg (by rw [hl, Bool.false_and]; decide)]
    | true =>
      rw [b2i_t, if_neg (by decide), g4, h_b1_s, g5, h_b1_s, p1, h_b1_s, p2, h_b1_s, p3, h_bd_s]
      cases hh : nHas ep (nV σ a) with
      | false => rw [b2i_f, if_pos rfl, ih, List.find?_cons_of_neg (by rw [hl, hh]; decide)]
      | true => rw [b2i_t, if_neg (by decide), g4, h_b1_s, g5, h_b1_s, List.find?_cons_of_pos (by rw [hl, hh]; rfl)]
theorem c_find {σ : HS} {C : List Nat} (K : Ct σ n e C) (ep now : Int32) : f_X2_find σ (some n) ep now = some (C.find? (fun a => nP now (nV σ a) && nHas ep (nV σ a)), σ) := c_nfind K ep now C.length h_hN 0 (by omega) (h_hN_lt (by have := K.2.2.2.2.1; omega))
theorem c_ncount {σ : HS} {C : List Nat} (K : Ct σ n e C) (now : Int32) : ∀ (c m i b : Nat), i + c = C.length → c < m → g_X2_countThere_4 m σ (some n) now (nI b) (nI i) = some (nI (b + (((C.drop i).map (nV σ)).filter (nP now)).length), σ)
  | 0, 0, i, b, _, h => absurd h (Nat.lt_irrefl 0)
  | c + 1, 0, i, b, _, h => absurd h (Nat.not_lt_zero _)
  | 0, m + 1, i, b, hi, _ => by
    obtain ⟨k1, k2, k3, k4, k5, k6, k7, k8⟩ := id K
    rw [g_X2_countThere_4, gI_s k1, k6, h_b1_s, if_pos (nI_le (a := C.length) (b := i) (by omega) (by omega)), List.drop_of_length_le (by omega)]
    rfl
  | c + 1, m + 1, i, b, hi, hm => by
    obtain ⟨k1, k2, k3, k4, k5, k6, k7, k8⟩ := id K
    obtain ⟨a, g1, g2, g3, g4, g5⟩ := K.get (i := i) (by omega)
    rw [g_X2_countThere_4, gI_s k1, k6, h_b1_s, if_neg (nI_ge (a := i) (b := C.length) (by omega) (by omega)), g4, h_b1_s, g5, h_b1_s, rcv_s g3.1, h_b1_s, c_there g3, h_bd_s, (take_s g1).2, List.map_cons, nI_c1]
    cases hl : nP now (nV σ a) with
    | false => rw [b2i_f, if_pos rfl, c_ncount K now c m (i + 1) b (by omega) (by omega), List.filter_cons_of_neg (by rw [hl]; decide)]
    | true =>
      rw [b2i_t, if_neg (by decide), nI_c1, c_ncount K now c m (i + 1) (b + 1) (by omega) (by omega), List.filter_cons_of_pos hl, List.length_cons]
      congr 3
      omega
theorem c_countThere {σ : HS} {C : List Nat} (K : Ct σ n e C) (now : Int32) : f_X2_countThere σ (some n) now = some (nI ((C.map (nV σ)).filter (nP now)).length, σ) := by
  have := c_ncount K now C.length h_hN 0 0 (by omega) (h_hN_lt (by have := K.2.2.2.2.1; omega))
  rw [List.drop_zero, Nat.zero_add] at this
  exact this
/-- which stay when a SOLICIT has come -/
def keepL (ep pl now : Int32) (q : N5) : Bool := nP now q && !(nHas ep q && decide (q.2.2.1 = pl))
theorem c_nlose (hne : n ≠ e) (ep pl now : Int32) (V : Nat → N5) : ∀ (i m : Nat) (σ : HS) (C : List Nat), Ct σ n e C → (∀ a ∈ C, nV σ a = V a) → i ≤ C.length → i < m → ∃ σ', g_X2_lose_8 m σ (some n) ep pl now (nI i - 1) = some ((), σ') ∧ NW n e σ σ' ∧ Ct σ' n e (flt (fun a => keepL ep pl now (V a)) i C)
  | 0, 0, σ, C, _, _, _, h => absurd h (Nat.lt_irrefl 0)
  | i + 1, 0, σ, C, _, _, _, h => absurd h (Nat.not_lt_zero _)
  | 0, m + 1, σ, C, K, _, _, _ => ⟨σ, by rw [g_X2_lose_8, if_pos nI_01], NW.rf, K⟩
  | i + 1, m + 1, σ, C, K, hV, hi, hm => by
    obtain ⟨k1, k2, k3, k4, k5, k6, k7, k8⟩ := id K
    obtain ⟨a, g1, g2, g3, g4, g5⟩ := K.get (i := i) (by omega)
    obtain ⟨p, p1, p2, p3, -⟩ := c_piece g3
    have ea := hV a g2
    have hpl : h_gI σ (some a) 2 1 = some (V a).2.2.1 := by rw [gI_s g3.1, ← ea]; rfl
    have keep : keepL ep pl now (V a) = true → ∃ σ', g_X2_lose_8 m σ (some n) ep pl now (nI i - 1) = some ((), σ') ∧ NW n e σ σ' ∧ Ct σ' n e (flt (fun a => keepL ep pl now (V a)) (i + 1) C) := fun hk => by
      obtain ⟨σ', r1, r2, r3⟩ := c_nlose hne ep pl now V i m σ C K hV (by omega) (by omega)
      exact ⟨σ', r1, r2, by rw [flt_keep g1 hk]; exact r3⟩
    have out : keepL ep pl now (V a) = false → ∃ σ1 σ', f_X2_remove σ (some n) (nI i) = some ((), σ1) ∧ g_X2_lose_8 m σ1 (some n) ep pl now (nI i - 1) = some ((), σ') ∧ NW n e σ σ' ∧ Ct σ' n e (flt (fun a => keepL ep pl now (V a)) (i + 1) C) := fun hk => by
      obtain ⟨σ1, q1, q2, q3⟩ := c_nremove K hne (i := i) (by omega)
      have hlen : (C.eraseIdx i).length = C.length - 1 := List.length_eraseIdx_of_lt (by omega)
      obtain ⟨σ', r1, r2, r3⟩ := c_nlose hne ep pl now V i m σ1 (C.eraseIdx i) q3 (fun b hb => by
        have hb' := List.mem_of_mem_eraseIdx hb
        rw [(q2.ok k1 k3 (k8 b hb')).2]
        exact hV b hb') (by omega) (by omega)
      exact ⟨σ1, σ', q1, r1, q2.tr r2, by rw [flt_out g1 hk]; exact r3⟩
    rw [g_X2_lose_8, nI_s1, if_neg (nI_pos (by omega)), g4, h_b1_s, g5, h_b1_s, rcv_s g3.1, h_b1_s, c_there g3, h_bd_s, nI_m1, ea]
    cases hl : nP now (V a) with
    | false =>
      obtain ⟨σ1, σ', q1, r1, r2, r3⟩ := out (by unfold keepL; rw [hl]; rfl)
      refine ⟨σ', ?_, r2, r3⟩
      rw [b2i_f, if_pos rfl, rcv_s k1, h_b1_s, q1, h_bd_s, r1]
    | true =>
      rw [b2i_t, if_neg (by decide), g4, h_b1_s, g5, h_b1_s, p1, h_b1_s, p2, h_b1_s, p3, h_bd_s, ea]
      cases hh : nHas ep (V a) with
      | false =>
        obtain ⟨σ', r1, r2, r3⟩ := keep (by unfold keepL; rw [hl, hh]; rfl)
        exact ⟨σ', by rw [b2i_f, if_pos rfl, r1], r2, r3⟩
      | true =>
        rw [b2i_t, if_neg (by decide), g4, h_b1_s, g5, h_b1_s, hpl, h_b1_s]
        by_cases hq : (V a).2.2.1 = pl
        · obtain ⟨σ1, σ', q1, r1, r2, r3⟩ := out (by unfold keepL; rw [hl, hh, decide_eq_true hq]; rfl)
          refine ⟨σ', ?_, r2, r3⟩
          rw [if_pos hq, rcv_s k1, h_b1_s, q1, h_bd_s, r1]
        · obtain ⟨σ', r1, r2, r3⟩ := keep (by unfold keepL; rw [hl, hh, decide_eq_false hq]; rfl)
          exact ⟨σ', by rw [if_neg hq, r1], r2, r3⟩
theorem c_lose {σ : HS} {C : List Nat} (K : Ct σ n e C) (hne : n ≠ e) (ep pl now : Int32) : ∃ σ', f_X2_lose σ (some n) ep pl now = some ((), σ') ∧ NW n e σ σ' ∧ Ct σ' n e (C.filter (fun a => keepL ep pl now (nV σ a))) := by
  obtain ⟨σ', r1, r2, r3⟩ := c_nlose hne ep pl now (nV σ) C.length h_hN σ C K (fun _ _ => rfl) (Nat.le_refl _) (h_hN_lt (by have := K.2.2.2.2.1; omega))
  refine ⟨σ', ?_, r2, by rw [← flt_all]; exact r3⟩
  unfold f_X2_lose
  rw [gI_s K.1, K.2.2.2.2.2.1, h_b1_s]
  exact r1
/-- which stay when a note is made; then it comes -/
def keepM (b : Int32) (m : Nat) (now : Int32) (q : N5) : Bool := nP now q && !nMt b m q
def app (L : List Nat) (a : Nat) : List Nat := (if 6 ≤ L.length then L.eraseIdx 0 else L) ++ [a]
theorem c_append {σ : HS} {C : List Nat} {a : Nat} (K : Ct σ n e C) (hne : n ≠ e) (hlt : C.length < 6) (ha : nOk σ a) : ∃ σ', j_X2_make_68 σ (some n) (some a) = some ((), σ') ∧ NW n e σ σ' ∧ Ct σ' n e (C ++ [a]) := by
  obtain ⟨k1, k2, k3, k4, k5, k6, k7, k8⟩ := id K
  have e1 : h_sR σ (some e) 104 2 (nI C.length) (some a) = some (h_setR σ e C.length (some a)) := sR_s k3 k4 hlt (by decide) (decide_eq_true ha.1)
  have t1 : h_tg (h_setR σ e C.length (some a)) n = 3 := k1
  have v1 : h_iv (h_setR σ e C.length (some a)) n 1 = nI C.length := k6
  have W : NW n e σ (h_setI (h_setR σ e C.length (some a)) n 1 (nI (C.length + 1))) := NW_R.tr NW_I
  refine ⟨h_setI (h_setR σ e C.length (some a)) n 1 (nI (C.length + 1)), ?_, W, k1, ?_, k3, k4, by rw [List.length_append]; exact hlt, by rw [iv_sI, List.length_append]; rfl, fun j hj => ?_, fun q hq => ?_⟩
  · unfold j_X2_make_68
    rw [gR_s k1, k2, h_b1_s, gI_s k1, k6, h_b1_s, e1, h_b1_s, gI_s t1, v1, h_b1_s, nI_c1, pI_s t1, h_b1_s]
  · show h_rv (h_setR σ e C.length (some a)) n 0 = some e
    rw [(Sm_R hne).2.2.2.1]
    exact k2
  · rw [List.length_append] at hj
    show h_rv (h_setR σ e C.length (some a)) e j = _
    by_cases ej : j = C.length
    · rw [ej, rv_sR, List.getElem?_append_right (Nat.le_refl _), Nat.sub_self]
      rfl
    · have hj' : j < C.length := by simp only [List.length_singleton] at hj; omega
      rw [rv_sRk ej, k7 j hj', List.getElem?_append_left hj']
  · rcases List.mem_append.mp hq with h | h
    · exact (W.ok k1 k3 (k8 q h)).1
    · rw [List.mem_singleton.mp h]
      exact (W.ok k1 k3 ha).1
theorem c_nmake (hne : n ≠ e) {a1 p1 : Nat} {b : Int32} {mm : Nat} (now : Int32) (V : Nat → N5) : ∀ (i m : Nat) (σ : HS) (C : List Nat), Ct σ n e C → (∀ a ∈ C, nV σ a = V a) → nOk σ a1 → h_rv σ a1 0 = some p1 → hP σ p1 b mm → i ≤ C.length → i < m → ∃ σ', g_X2_make_7 m σ (some n) (some a1) now (nI i - 1) = some ((), σ') ∧ NW n e σ σ' ∧ Ct σ' n e (app (flt (fun a => keepM b mm now (V a)) i C) a1)
  | 0, 0, σ, C, _, _, _, _, _, _, h => absurd h (Nat.lt_irrefl 0)
  | i + 1, 0, σ, C, _, _, _, _, _, _, h => absurd h (Nat.not_lt_zero _)
  | 0, m + 1, σ, C, K, hV, ha, hp, hP1, _, _ => by
    obtain ⟨k1, k2, k3, k4, k5, k6, k7, k8⟩ := id K
    rw [g_X2_make_7, if_pos nI_01, gI_s k1, k6, h_b1_s, flt_0]
    unfold app
    by_cases h6 : 6 ≤ C.length
    · obtain ⟨σ1, q1, q2, q3⟩ := c_nremove K hne (i := 0) (by omega)
      have hlen : (C.eraseIdx 0).length = C.length - 1 := List.length_eraseIdx_of_lt (by omega)
      obtain ⟨σ', r1, r2, r3⟩ := c_append q3 hne (by omega) (q2.ok k1 k3 ha).1
      refine ⟨σ', ?_, q2.tr r2, by rw [if_pos h6]; exact r3⟩
      rw [if_neg (show ¬ nI C.length < 6 from nI_nlt (a := C.length) (b := 6) h6 (by omega)), rcv_s k1, h_b1_s, show f_X2_remove σ (some n) 0 = some ((), σ1) from q1, h_bd_s, r1]
    · obtain ⟨σ', r1, r2, r3⟩ := c_append K hne (by omega) ha
      refine ⟨σ', ?_, r2, by rw [if_neg h6]; exact r3⟩
      rw [if_pos (show nI C.length < 6 from nI_lt (a := C.length) (b := 6) (by omega) (by decide)), r1]
  | i + 1, m + 1, σ, C, K, hV, ha, hp, hP1, hi, hm => by
    obtain ⟨k1, k2, k3, k4, k5, k6, k7, k8⟩ := id K
    obtain ⟨a, g1, g2, g3, g4, g5⟩ := K.get (i := i) (by omega)
    obtain ⟨p, p1', p2, -, p4, -⟩ := c_piece g3
    have ea := hV a g2
    have hgr : h_gR σ (some a1) 2 0 = some (some p1) := by rw [gR_s ha.1, hp]
    have keep : keepM b mm now (V a) = true → ∃ σ', g_X2_make_7 m σ (some n) (some a1) now (nI i - 1) = some ((), σ') ∧ NW n e σ σ' ∧ Ct σ' n e (app (flt (fun a => keepM b mm now (V a)) (i + 1) C) a1) := fun hk => by
      obtain ⟨σ', r1, r2, r3⟩ := c_nmake hne now V i m σ C K hV ha hp hP1 (by omega) (by omega)
      exact ⟨σ', r1, r2, by rw [flt_keep g1 hk]; exact r3⟩
    have out : keepM b mm now (V a) = false → ∃ σ1 σ', f_X2_remove σ (some n) (nI i) = some ((), σ1) ∧ g_X2_make_7 m σ1 (some n) (some a1) now (nI i - 1) = some ((), σ') ∧ NW n e σ σ' ∧ Ct σ' n e (app (flt (fun a => keepM b mm now (V a)) (i + 1) C) a1) := fun hk => by
      obtain ⟨σ1, q1, q2, q3⟩ := c_nremove K hne (i := i) (by omega)
      have hlen : (C.eraseIdx i).length = C.length - 1 := List.length_eraseIdx_of_lt (by omega)
      have h25 : ∀ q, h_tg σ q = 2 ∨ h_tg σ q = 5 → Sm σ σ1 q := fun q hq => q2.1 q (fun z => by rw [z, k1] at hq; omega) (fun z => by rw [z, k3] at hq; omega)
      obtain ⟨σ', r1, r2, r3⟩ := c_nmake hne now V i m σ1 (C.eraseIdx i) q3 (fun b hb => by
        have hb' := List.mem_of_mem_eraseIdx hb
        rw [(q2.ok k1 k3 (k8 b hb')).2]
        exact hV b hb') (q2.ok k1 k3 ha).1 (by rw [(h25 a1 (Or.inl ha.1)).2.2.2.1]; exact hp) (hP1.to (h25 p1 (Or.inr hP1.1))) (by omega) (by omega)
      exact ⟨σ1, σ', q1, r1, q2.tr r2, by rw [flt_out g1 hk]; exact r3⟩
    rw [g_X2_make_7, nI_s1, if_neg (nI_pos (by omega)), g4, h_b1_s, g5, h_b1_s, rcv_s g3.1, h_b1_s, c_there g3, h_bd_s, nI_m1, ea]
    cases hl : nP now (V a) with
    | false =>
      obtain ⟨σ1, σ', q1, r1, r2, r3⟩ := out (by unfold keepM; rw [hl]; rfl)
      refine ⟨σ', ?_, r2, r3⟩
      rw [b2i_f, if_pos rfl, rcv_s k1, h_b1_s, q1, h_bd_s, r1]
    | true =>
      rw [b2i_t, if_neg (by decide), g4, h_b1_s, g5, h_b1_s, p1', h_b1_s, hgr, h_b1_s, p2, h_b1_s, p4 p1 b mm hP1, h_bd_s, ea]
      cases hh : nMt b mm (V a) with
      | false =>
        obtain ⟨σ', r1, r2, r3⟩ := keep (by unfold keepM; rw [hl, hh]; rfl)
        exact ⟨σ', by rw [b2i_f, if_pos rfl, r1], r2, r3⟩
      | true =>
        obtain ⟨σ1, σ', q1, r1, r2, r3⟩ := out (by unfold keepM; rw [hl, hh]; rfl)
        refine ⟨σ', ?_, r2, r3⟩
        rw [b2i_t, if_neg (by decide), rcv_s k1, h_b1_s, q1, h_bd_s, r1]
theorem c_make {σ : HS} {C : List Nat} (K : Ct σ n e C) (hne : n ≠ e) {a1 p1 : Nat} {b : Int32} {mm : Nat} (now : Int32) (ha : nOk σ a1) (hp : h_rv σ a1 0 = some p1) (hP1 : hP σ p1 b mm) : ∃ σ', f_X2_make σ (some n) (some a1) now = some ((), σ') ∧ NW n e σ σ' ∧ Ct σ' n e (app (C.filter (fun a => keepM b mm now (nV σ a))) a1) := by
  obtain ⟨σ', r1, r2, r3⟩ := c_nmake hne (a1 := a1) now (nV σ) C.length h_hN σ C K (fun _ _ => rfl) ha hp hP1 (Nat.le_refl _) (h_hN_lt (by have := K.2.2.2.2.1; omega))
  refine ⟨σ', ?_, r2, by rw [← flt_all]; exact r3⟩
  unfold f_X2_make
  rw [gI_s K.1, K.2.2.2.2.2.1, h_b1_s]
  exact r1
end NT2
end
/-! from 84.notes3 -/
section
/-! NOTES: the two sides -/
def nMv (ms : MS) (k : Nat) : N5 × Int32 := ((ms.2.1 19 k, ms.2.1 20 k, ms.2.1 21 k, ms.2.1 22 k, ms.2.1 23 k), ms.2.1 24 k)
/-- the places of a site's notes that are there -/
def lvI (ms : MS) (s : Nat) : List Nat := (List.range' (6 * s) 6).filter (liveN ms)
theorem lL_ix {α : Type} {P : α → Bool} {g : Nat → α} : ∀ (c i : Nat), lL P (fun k => some (g k)) i c = ((List.range' i c).filter (fun k => P (g k))).map g
  | 0, i => rfl
  | c + 1, i => by
    have ih := lL_ix (P := P) (g := g) c (i + 1)
    rw [List.range'_succ]
    unfold lL
    show (if P (g i) = true then g i :: lL P (fun k => some (g k)) (i + 1) c else lL P (fun k => some (g k)) (i + 1) c) = _
    by_cases h : P (g i) = true
    · rw [if_pos h, List.filter_cons_of_pos (by exact h), List.map_cons, ih]
    · rw [if_neg h, List.filter_cons_of_neg (by exact h), ih]
theorem rl_ix (ms : MS) (s : Nat) : lL (fun q : N5 × Int32 => nP (ms.1 1) q.1) (nM ms) (6 * s) 6 = (lvI ms s).map (nMv ms) := lL_ix (P := fun q : N5 × Int32 => nP (ms.1 1) q.1) (g := nMv ms) 6 (6 * s)
theorem lvI_mem {ms : MS} {s k : Nat} : k ∈ lvI ms s ↔ (6 * s ≤ k ∧ k < 6 * s + 6) ∧ liveN ms k = true := by
  unfold lvI
  rw [List.mem_filter, List.mem_range'_1]
theorem lvI_nd {ms : MS} {s : Nat} : (lvI ms s).Nodup := List.Pairwise.filter _ List.nodup_range'
theorem fa2_len {α β : Type} {R : α → β → Prop} : ∀ (l : List α) (r : List β), fa2 R l r → l.length = r.length
  | [], [], _ => rfl
  | _ :: l, _ :: r, h => by rw [List.length_cons, List.length_cons, fa2_len l r h.2]
  | [], _ :: _, h => absurd h (fun z => z)
  | _ :: _, [], h => absurd h (fun z => z)
theorem fa2_l {α β : Type} {R : α → β → Prop} : ∀ (l : List α) (r : List β), fa2 R l r → ∀ a, a ∈ l → ∃ b, b ∈ r ∧ R a b
  | [], [], _, a, h => absurd h (List.not_mem_nil)
  | x :: l, y :: r, h, a, ha => by
    rcases List.mem_cons.mp ha with rfl | h1
    · exact ⟨y, List.mem_cons_self, h.1⟩
    · obtain ⟨b, b1, b2⟩ := fa2_l l r h.2 a h1
      exact ⟨b, List.mem_cons_of_mem _ b1, b2⟩
  | [], _ :: _, h, _, _ => absurd h (fun z => z)
  | _ :: _, [], h, _, _ => absurd h (fun z => z)
theorem fa2_r {α β : Type} {R : α → β → Prop} : ∀ (l : List α) (r : List β), fa2 R l r → ∀ b, b ∈ r → ∃ a, a ∈ l ∧ R a b
  | [], [], _, a, h => absurd h (List.not_mem_nil)
  | x :: l, y :: r, h, b, hb => by
    rcases List.mem_cons.mp hb with rfl | h1
    · exact ⟨x, List.mem_cons_self, h.1⟩
    · obtain ⟨a, b1, b2⟩ := fa2_r l r h.2 b h1
      exact ⟨a, List.mem_cons_of_mem _ b1, b2⟩
  | [], _ :: _, h, _, _ => absurd h (fun z => z)
  | _ :: _, [], h, _, _ => absurd h (fun z => z)
theorem fa2_app {α β : Type} {R : α → β → Prop} {a : α} {b : β} (hab : R a b) : ∀ (l : List α) (r : List β), fa2 R l r → fa2 R (l ++ [a]) (r ++ [b])
  | [], [], _ => ⟨hab, trivial⟩
  | _ :: l, _ :: r, h => ⟨h.1, fa2_app hab l r h.2⟩
  | [], _ :: _, h => absurd h (fun z => z)
  | _ :: _, [], h => absurd h (fun z => z)
theorem fa2_tail {α β : Type} {R : α → β → Prop} : ∀ (l : List α) (r : List β), fa2 R l r → fa2 R l.tail r.tail
  | [], [], _ => trivial
  | _ :: l, _ :: r, h => h.2
  | [], _ :: _, h => absurd h (fun z => z)
  | _ :: _, [], h => absurd h (fun z => z)
/-- what is known of the notes of the reference -/
def DN (ms : MS) (s : Nat) : Prop := ∀ k k', 6 * s ≤ k → k < 6 * s + 6 → 6 * s ≤ k' → k' < 6 * s + 6 → liveN ms k = true → liveN ms k' = true → k ≠ k' → mtB (ms.2.1 19 k) (ln (ms.2.1 20 k)) (ms.2.1 19 k') (ln (ms.2.1 20 k')) = false
section NT3
variable {fx : Bool} {σ σ' : HS} {x : Nat} {G : Nat → Nat → Nat} {ms ms' : MS}
theorem SiR.ct {s : Nat} (I : SiR fx σ G ms s) : ∃ C, Ct σ (G 5 s) (G 6 s) C ∧ NtR fx ((C.map (nV σ)).filter (nP (ms.1 1))) ((lvI ms s).map (nMv ms)) := by
  obtain ⟨a1, a2, a3, a4, a5, a6, ⟨a8, a9⟩, ⟨b1, b2, b3⟩, z, z1, z2, z3, z4⟩ := I
  have hl : ((List.range z).map (fun j => (h_rv σ (G 6 s) j).getD 0)).length = z := by rw [List.length_map, List.length_range]
  have hg : ∀ j, j < z → ((List.range z).map (fun j => (h_rv σ (G 6 s) j).getD 0))[j]? = h_rv σ (G 6 s) j := by
    intro j hj
    obtain ⟨a, d1, -⟩ := z3 j hj
    rw [List.getElem?_map, List.getElem?_range hj]
    show some ((h_rv σ (G 6 s) j).getD 0) = _
    rw [d1]
    rfl
  refine ⟨(List.range z).map (fun j => (h_rv σ (G 6 s) j).getD 0), ⟨a9, b1, b2, b3, by omega, by rw [hl]; exact z2, fun j hj => (hg j (by omega)).symm, fun a ha => ?_⟩, ?_⟩
  · obtain ⟨j, hj, rfl⟩ := List.mem_map.mp ha
    obtain ⟨a, d1, d2⟩ := z3 j (List.mem_range.mp hj)
    rw [d1]
    exact d2
  · have := lL_list (P := nP (ms.1 1)) (g := nV σ) (f := nC σ (G 6 s)) ((List.range z).map (fun j => (h_rv σ (G 6 s) j).getD 0)) 0 (fun j hj => by rw [hg j (by omega), Nat.zero_add]; rfl)
    rw [hl] at this
    rw [← this, ← rl_ix]
    exact z4
theorem SiR.n56 {s : Nat} (I : SiR fx σ G ms s) : G 5 s ≠ G 6 s := by
  obtain ⟨a1, a2, a3, a4, a5, a6, ⟨a8, a9⟩, ⟨b1, b2, b3⟩, -⟩ := I
  intro z
  rw [z, b2] at a9
  omega
/-- the notes have changed -/
theorem SiR.of_ct {s : Nat} (I : SiR fx σ G ms s) {C : List Nat} (W : NW (G 5 s) (G 6 s) σ σ') (K : Ct σ' (G 5 s) (G 6 s) C) (hN : NtR fx ((C.map (nV σ')).filter (nP (ms'.1 1))) ((lvI ms' s).map (nMv ms'))) (e14 : ms'.2.1 14 s = ms.2.1 14 s) (e15 : ms'.2.1 15 s = ms.2.1 15 s) (e18 : ms'.2.1 18 s = ms.2.1 18 s) (e16 : ∀ k, k < 4 → ms'.2.1 16 (4 * s + k) = ms.2.1 16 (4 * s + k)) (e17 : ∀ k, k < 4 → ms'.2.1 17 (4 * s + k) = ms.2.1 17 (4 * s + k)) : SiR fx σ' G ms' s := by
  obtain ⟨a1, a2, a3, a4, ⟨a5, a6, a7⟩, ⟨c, c1, c2, c3⟩, ⟨a8, a9⟩, ⟨b1, b2, b3⟩, -⟩ := I
  obtain ⟨k1, k2, k3, k4, k5, k6, k7, k8⟩ := id K
  have ne : ∀ {b c : Nat}, h_tg σ b ≠ h_tg σ c → b ≠ c := fun h z => h (by rw [z])
  have s3 := W.1 (G 3 s) (ne (by rw [a1, a9]; decide)) (ne (by rw [a1, b2]; decide))
  have s4 := W.1 (G 4 s) (ne (by rw [a6, a9]; decide)) (ne (by rw [a6, b2]; decide))
  refine ⟨by rw [s3.1]; exact a1, by rw [s3.2.2.1, e14]; exact a2, by rw [s3.2.2.1, e18]; exact a3, by rw [s3.2.2.1, e15]; exact a4, ⟨by rw [s3.2.2.2.1]; exact a5, by rw [s4.1]; exact a6, by rw [s4.2.1]; exact a7⟩, ⟨c, c1, by rw [e15]; exact c2, fun k hk => ?_⟩, ⟨by rw [s3.2.2.2.1]; exact a8, k1⟩, ⟨k2, k3, k4⟩, C.length, k5, k6, fun j hj => ?_, ?_⟩
  · obtain ⟨p, n, d1, d2, d3⟩ := c3 k hk
    exact ⟨p, n, by rw [s4.2.2.2.1]; exact d1, by rw [e17 k (by omega)]; exact d2, by rw [e16 k (by omega)]; exact d3.to (W.1 p (ne (by rw [d3.1, a9]; decide)) (ne (by rw [d3.1, b2]; decide)))⟩
  · have hg := List.getElem?_eq_getElem hj
    exact ⟨C[j], by rw [k7 j hj, hg], k8 _ (List.getElem_mem hj)⟩
  · have := lL_list (P := nP (ms'.1 1)) (g := nV σ') (f := nC σ' (G 6 s)) C 0 (fun j hj => by rw [Nat.zero_add]; unfold nC; rw [k7 j hj])
    rw [this, rl_ix]
    exact hN
theorem nR_has {q r : N5} (h : nR fx q r) (ep : Int32) : nHas ep q = nHas ep r := by
  unfold nHas
  rw [h.1, h.2.1]
theorem live_nP {k : Nat} : liveN ms k = nP (ms.1 1) (nMv ms k).1 := rfl
/-- the note with an endpoint -/
theorem c_noteF {s : Nat} (I : SiR fx σ G ms s) (D : DN ms s) (hL : ∀ k, k < 48 → Ln (ms.2.1 20 k)) (hs : s < 8) (ep : Int32) : ∃ r, f_X2_find σ (some (G 5 s)) ep (ms.1 1) = some (r, σ) ∧ (match ntF ms s ep with | none => r = none | some k => ∃ a, r = some a ∧ nOk σ a ∧ nR fx (nV σ a) (nMv ms k).1) := by
  obtain ⟨C, K, L, h1, h2, h3⟩ := I.ct
  have hit : ∀ k, 6 * s ≤ k → k < 6 * s + 6 → nHas ep (nMv ms k).1 = ag (ln (ms.2.1 20 k)) (ms.2.1 19 k) ep := fun k _ hk => ag_comm (Ln_nI (hL k (by omega))).2
  have toR : ∀ a, a ∈ C → (nP (ms.1 1) (nV σ a) && nHas ep (nV σ a)) = true → ∃ k, (6 * s ≤ k ∧ k < 6 * s + 6) ∧ liveN ms k = true ∧ ag (ln (ms.2.1 20 k)) (ms.2.1 19 k) ep = true ∧ nR fx (nV σ a) (nMv ms k).1 := by
    intro a ha hq
    obtain ⟨q1, q2⟩ := (Bool.and_eq_true _ _).mp hq
    have hm : nV σ a ∈ (C.map (nV σ)).filter (nP (ms.1 1)) := List.mem_filter.mpr ⟨List.mem_map.mpr ⟨a, ha, rfl⟩, q1⟩
    obtain ⟨r, r1, r2⟩ := fa2_l _ _ h3 _ hm
    obtain ⟨k, k1, rfl⟩ := List.mem_map.mp (h1.mem_iff.mp r1)
    obtain ⟨k2, k3⟩ := lvI_mem.mp k1
    exact ⟨k, k2, k3, by rw [← hit k k2.1 k2.2, ← nR_has r2]; exact q2, r2⟩
  refine ⟨_, c_find K ep (ms.1 1), ?_⟩
  cases hf : ntF ms s ep with
  | none =>
    show C.find? _ = none
    refine List.find?_eq_none.mpr (fun a ha hq => ?_)
    obtain ⟨k, k2, k3, k4, -⟩ := toR a ha hq
    have := ff_none.mp hf k k2.1 k2.2
    rw [k3, k4] at this
    cases this
  | some k =>
    obtain ⟨g1, g2, g3, -⟩ := ff_some.mp hf
    obtain ⟨g4, g5⟩ := (Bool.and_eq_true _ _).mp g3
    have hm : nMv ms k ∈ L := h1.mem_iff.mpr (List.mem_map.mpr ⟨k, lvI_mem.mpr ⟨⟨g1, g2⟩, g4⟩, rfl⟩)
    obtain ⟨q, q1, q2⟩ := fa2_r _ _ h3 _ hm
    obtain ⟨q3, q4⟩ := List.mem_filter.mp q1
    obtain ⟨a', ha', rfl⟩ := List.mem_map.mp q3
    have hq' : (nP (ms.1 1) (nV σ a') && nHas ep (nV σ a')) = true := by rw [q4, nR_has q2, hit k g1 g2, g5]; rfl
    cases hc : C.find? (fun a => nP (ms.1 1) (nV σ a) && nHas ep (nV σ a)) with
    | none => exact absurd hq' (List.find?_eq_none.mp hc a' ha')
    | some a =>
      have ha := List.mem_of_find?_eq_some hc
      have hq := List.find?_some hc
      obtain ⟨k', k2, k3, k4, k5⟩ := toR a ha hq
      have ek : k' = k := by
        by_cases e : k' = k
        · exact e
        · have h32 : ∀ j, j < 48 → ln (ms.2.1 20 j) ≤ 32 := fun j hj => (Ln_nI (hL j hj)).2
          have hd := D k' k k2.1 k2.2 g1 g2 k3 g4 e
          have ht := mtB_of (b := ep) (n := 32) (h32 k' (by omega)) (h32 k (by omega)) ⟨h32 k' (by omega), ag_symm (h32 k' (by omega)) k4⟩ ⟨h32 k (by omega), ag_symm (h32 k (by omega)) g5⟩
          rw [hd] at ht
          cases ht
      subst ek
      exact ⟨a, rfl, K.2.2.2.2.2.2.2 a ha, k5⟩
end NT3
end
/-! from 85.notes5 -/
section
/-! NOTES: a SOLICIT comes, a note is made -/
theorem NtR_flt {fx : Bool} {cl : List N5} {rl : List (N5 × Int32)} (N : NtR fx cl rl) (Q : N5 → Bool) (hQ : ∀ q r, nR fx q r → Q q = Q r) : NtR fx (cl.filter Q) (rl.filter (fun r => Q r.1)) := by
  obtain ⟨L, h1, h2, h3⟩ := N
  exact ⟨L.filter (fun q => Q q.1), h1.filter _, h2.filter _, fa2_filter (fun a b hab => hQ a b.1 hab) cl L h3⟩
theorem map_filt {P : N5 → Bool} {V : Nat → N5} (C : List Nat) : (C.filter (fun a => P (V a))).map V = (C.map V).filter P := by
  rw [List.filter_map]
  rfl
theorem beN_iff {ms : MS} {i t : Nat} : beN ms i t = true ↔ (efN ms i).toInt < (efN ms t).toInt ∨ ((efN ms i).toInt = (efN ms t).toInt ∧ 0 < (efN ms i).toInt ∧ (ms.2.1 24 i).toInt < (ms.2.1 24 t).toInt) := by
  unfold beN
  rw [Bool.or_eq_true, Bool.and_eq_true, Bool.and_eq_true, decide_eq_true_iff, decide_eq_true_iff, decide_eq_true_iff, decide_eq_true_iff, Int32.lt_iff_toInt_lt, Int32.lt_iff_toInt_lt, Int32.lt_iff_toInt_lt, Int32.toInt_zero, ← Int32.toInt_inj]
theorem bool_f {b : Bool} (h : ¬ b = true) : b = false := by cases b with
  | false => rfl
  | true => exact absurd rfl h
/-- the place that the new note takes -/
theorem pk_ok (ms : MS) {i0 : Nat} : ∀ (c i t : Nat), (i0 ≤ t ∧ t < i) → (∀ k, i0 ≤ k → k < i → beN ms k t = false) → ∃ t', fo (pkN ms) i c (some t) = some t' ∧ (i0 ≤ t' ∧ t' < i + c) ∧ ∀ k, i0 ≤ k → k < i + c → beN ms k t' = false
  | 0, i, t, h1, h2 => ⟨t, rfl, h1, h2⟩
  | c + 1, i, t, h1, h2 => by
    show ∃ t', fo (pkN ms) (i + 1) c (if beN ms i t = true then some i else some t) = some t' ∧ _
    by_cases hb : beN ms i t = true
    · rw [if_pos hb]
      obtain ⟨t', r1, r2, r3⟩ := pk_ok ms (i0 := i0) c (i + 1) i ⟨by omega, by omega⟩ (fun k hk1 hk2 => bool_f (fun z => by
        rw [beN_iff] at z hb
        by_cases e : k = i
        · rw [e] at z; omega
        · have h3 := h2 k hk1 (by omega)
          have : beN ms k t = true := beN_iff.mpr (by omega)
          rw [h3] at this
          cases this))
      exact ⟨t', r1, ⟨r2.1, by omega⟩, fun k h3 h4 => r3 k h3 (by omega)⟩
    · rw [if_neg hb]
      obtain ⟨t', r1, r2, r3⟩ := pk_ok ms (i0 := i0) c (i + 1) t ⟨h1.1, by omega⟩ (fun k hk1 hk2 => by
        by_cases e : k = i
        · rw [e]; exact bool_f hb
        · exact h2 k hk1 (by omega))
      exact ⟨t', r1, ⟨r2.1, by omega⟩, fun k h3 h4 => r3 k h3 (by omega)⟩
theorem pk_all (ms : MS) (s : Nat) : ∃ t, fo (pkN ms) (6 * s) 6 none = some t ∧ (6 * s ≤ t ∧ t < 6 * s + 6) ∧ ∀ k, 6 * s ≤ k → k < 6 * s + 6 → beN ms k t = false := by
  obtain ⟨t, r1, r2, r3⟩ := pk_ok ms (i0 := 6 * s) 5 (6 * s + 1) (6 * s) ⟨by omega, by omega⟩ (fun k h1 h2 => bool_f (fun z => by
    rw [show k = 6 * s by omega, beN_iff] at z
    omega))
  exact ⟨t, r1, ⟨r2.1, by omega⟩, fun k h1 h2 => r3 k h1 (by omega)⟩
section NT5
variable {fx : Bool} {σ σ' : HS} {x : Nat} {G : Nat → Nat → Nat} {ms ms' : MS}
theorem Zx_NW {n e : Nat} (W : NW n e σ σ') (Z : Zx σ x) : Zx σ' x := by
  obtain ⟨-, h1, -, h2, -⟩ := W
  unfold Zx
  rw [h1, h2]
  exact Z
theorem NW.z4 {n e : Nat} (W : NW n e σ σ') : h_sz σ' = h_sz σ ∧ h_sl σ' = h_sl σ ∧ h_cz σ' = h_cz σ ∧ h_ck σ' = h_ck σ := W.2.2.2
theorem mtN_nMt {b : Int32} {n k : Nat} (hn : n ≤ 32) (hL : Ln (ms.2.1 20 k)) : mtN ms b n k = nMt b n (nMv ms k).1 := by
  unfold mtN nMt mtB
  show _ = ((decide (n ≤ ln (ms.2.1 20 k)) && ag n (ms.2.1 19 k) b) || (decide (ln (ms.2.1 20 k) ≤ n) && ag (ln (ms.2.1 20 k)) b (ms.2.1 19 k)))
  rw [ag_comm (a := b) hn, ag_comm (a := b) (Ln_nI hL).2]
/-- the notes that a SOLICIT takes away -/
theorem a_forget (P : Rep fx σ x G ms) {s t : Nat} (hs : s < 8) (hp : ¬ ms.2.1 14 s = -1) (D : DN ms s) (hL : ∀ k, k < 48 → Ln (ms.2.1 20 k)) (ht : ms.1 1 = nI t) (ht2 : t ≤ 1000000) (ep pl : Int32) : ∃ σ', f_X2_lose σ (some (G 5 s)) ep pl (ms.1 1) = some ((), σ') ∧ Rep fx σ' x G (fgtM ms s ep pl) ∧ Kq x 0 0 σ σ' := by
  have I := P.si hs hp
  obtain ⟨C, K, hN⟩ := I.ct
  obtain ⟨σ', r1, W, K'⟩ := c_lose K I.n56 ep pl (ms.1 1)
  have ek : ∀ k j, k ≠ 23 → (fgtM ms s ep pl).2.1 k j = ms.2.1 k j := fun k j h => fgtM_k h
  have hsm : ∀ b, b ≠ G 5 s → b ≠ G 6 s → Sm σ σ' b := W.1
  have e1 : (fgtM ms s ep pl).1 = ms.1 := fgtM_1
  have hit : ∀ k, 6 * s ≤ k → k < 6 * s + 6 → nHas ep (nMv ms k).1 = ag (ln (ms.2.1 20 k)) (ms.2.1 19 k) ep := fun k _ hk => ag_comm (Ln_nI (hL k (by omega))).2
  have uniq : ∀ k0 k, ntF ms s ep = some k0 → 6 * s ≤ k → k < 6 * s + 6 → liveN ms k = true → nHas ep (nMv ms k).1 = true → k = k0 := by
    intro k0 k hf h1 h2 h3 h4
    obtain ⟨g1, g2, g3, -⟩ := ff_some.mp hf
    obtain ⟨g4, g5⟩ := (Bool.and_eq_true _ _).mp g3
    by_cases e : k = k0
    · exact e
    · have h32 : ∀ j, j < 48 → ln (ms.2.1 20 j) ≤ 32 := fun j hj => (Ln_nI (hL j hj)).2
      have hd := D k k0 h1 h2 g1 g2 h3 g4 e
      have htt := mtB_of (b := ep) (n := 32) (h32 k (by omega)) (h32 k0 (by omega)) ⟨h32 k (by omega), h4⟩ ⟨h32 k0 (by omega), ag_symm (h32 k0 (by omega)) g5⟩
      exact absurd (hd.symm.trans htt) (by decide)
  have hlive : ∀ k, 6 * s ≤ k → k < 6 * s + 6 → liveN (fgtM ms s ep pl) k = (!(nHas ep (nMv ms k).1 && decide ((nMv ms k).1.2.2.1 = pl)) && liveN ms k) := by
    intro k h1 h2
    have dead : ∀ k, liveN (aS ms 23 k 0) k = false := fun k => by
      unfold liveN
      rw [aS_s]
      exact decide_eq_false (by show ¬ ms.1 1 < 0; rw [ht]; exact nI_pos (by omega))
    unfold fgtM
    cases hf : ntF ms s ep with
    | none =>
      show liveN ms k = _
      cases hl : liveN ms k with
      | false => rw [Bool.and_false]
      | true =>
        have := ff_none.mp hf k h1 h2
        rw [hl, Bool.true_and] at this
        rw [hit k h1 h2, this]
        rfl
    | some k0 =>
      show liveN (if ms.2.1 21 k0 = pl then aS ms 23 k0 0 else ms) k = _
      by_cases hpl : ms.2.1 21 k0 = pl
      · rw [if_pos hpl]
        by_cases e : k = k0
        · rw [e, dead]
          obtain ⟨g1, g2, g3, -⟩ := ff_some.mp hf
          obtain ⟨g4, g5⟩ := (Bool.and_eq_true _ _).mp g3
          have : nHas ep (nMv ms k0).1 = true := by rw [hit k0 g1 g2]; exact g5
          rw [this, decide_eq_true (show (nMv ms k0).1.2.2.1 = pl from hpl)]
          rfl
        · have : liveN (aS ms 23 k0 0) k = liveN ms k := by unfold liveN; rw [aS_j e]; rfl
          rw [this]
          cases hl : liveN ms k with
          | false => rw [Bool.and_false]
          | true =>
            cases hh : nHas ep (nMv ms k).1 with
            | false => rfl
            | true => exact absurd (uniq k0 k hf h1 h2 hl hh) e
      · rw [if_neg hpl]
        cases hl : liveN ms k with
        | false => rw [Bool.and_false]
        | true =>
          cases hh : nHas ep (nMv ms k).1 with
          | false => rfl
          | true =>
            have e := uniq k0 k hf h1 h2 hl hh
            rw [e, decide_eq_false (show ¬ (nMv ms k0).1.2.2.1 = pl from hpl)]
            rfl
  have hix : lvI (fgtM ms s ep pl) s = (lvI ms s).filter (fun k => !(nHas ep (nMv ms k).1 && decide ((nMv ms k).1.2.2.1 = pl))) := by
    unfold lvI
    rw [List.filter_filter]
    exact List.filter_congr (fun k hk => by rw [List.mem_range'_1] at hk; exact hlive k hk.1 hk.2)
  have hmap : (lvI (fgtM ms s ep pl) s).map (nMv (fgtM ms s ep pl)) = ((lvI ms s).map (nMv ms)).filter (fun r => !(nHas ep r.1 && decide (r.1.2.2.1 = pl))) := by
    rw [List.filter_map, show (fun r : N5 × Int32 => !(nHas ep r.1 && decide (r.1.2.2.1 = pl))) ∘ nMv ms = fun k => !(nHas ep (nMv ms k).1 && decide ((nMv ms k).1.2.2.1 = pl)) from rfl, ← hix]
    refine List.map_congr_left (fun k hk => ?_)
    obtain ⟨k1, k2⟩ := lvI_mem.mp hk
    have e23 : (fgtM ms s ep pl).2.1 23 k = ms.2.1 23 k := by
      unfold fgtM at k2 ⊢
      cases hf : ntF ms s ep with
      | none => rfl
      | some k0 =>
        rw [hf] at k2
        have k2' : liveN (if ms.2.1 21 k0 = pl then aS ms 23 k0 0 else ms) k = true := k2
        show (if ms.2.1 21 k0 = pl then aS ms 23 k0 0 else ms).2.1 23 k = _
        by_cases hpl : ms.2.1 21 k0 = pl
        · rw [if_pos hpl] at k2' ⊢
          by_cases e : k = k0
          · rw [e] at k2'
            unfold liveN at k2'
            rw [aS_s] at k2'
            have := of_decide_eq_true k2'
            have h0 : ¬ ms.1 1 < 0 := by rw [ht]; exact nI_pos (by omega)
            exact absurd this h0
          · exact aS_j e
        · rw [if_neg hpl]
    unfold nMv
    rw [ek 19 k (by decide), ek 20 k (by decide), ek 21 k (by decide), ek 22 k (by decide), ek 24 k (by decide), e23]
  have hcl : ((C.filter (fun a => keepL ep pl (ms.1 1) (nV σ a))).map (nV σ')).filter (nP (ms.1 1)) = ((C.map (nV σ)).filter (nP (ms.1 1))).filter (fun q => !(nHas ep q && decide (q.2.2.1 = pl))) := by
    have : (C.filter (fun a => keepL ep pl (ms.1 1) (nV σ a))).map (nV σ') = (C.filter (fun a => keepL ep pl (ms.1 1) (nV σ a))).map (nV σ) := List.map_congr_left (fun a ha => (W.ok K.1 K.2.2.1 (K.2.2.2.2.2.2.2 a (List.mem_filter.mp ha).1)).2)
    rw [this, map_filt, List.filter_filter, List.filter_filter]
    refine List.filter_congr (fun q _ => ?_)
    unfold keepL
    cases nP (ms.1 1) q <;> cases nHas ep q <;> cases decide (q.2.2.1 = pl) <;> rfl
  have I' : SiR fx σ' G (fgtM ms s ep pl) s := by
    refine I.of_ct W K' ?_ (ek _ _ (by decide)) (ek _ _ (by decide)) (ek _ _ (by decide)) (fun _ _ => ek _ _ (by decide)) (fun _ _ => ek _ _ (by decide))
    rw [e1, hcl, hmap]
    refine NtR_flt hN _ (fun q r h => ?_)
    rw [nR_has h, h.2.2.1]
  refine ⟨σ', r1, Rep_one P hs hp (Zx_NW W P.1) (fun b _ _ g5 g6 _ => hsm b g5 g6) I' (by rw [ek _ _ (by decide)]; exact hp) (fun k _ _ => by rw [e1]) (fun k j h => ek k j (by omega)) ?_ (fun t ht e => ⟨ek _ _ (by decide), ek _ _ (by decide), ek _ _ (by decide)⟩) (fun t k ht e hk => ⟨ek _ _ (by decide), ek _ _ (by decide)⟩) (fun t k j ht e h1 h2 h3 h4 => ?_), Kq_si P hs hp W.z4 (fun b _ _ g5 g6 _ => hsm b g5 g6)⟩
  · unfold fgtM
    cases ntF ms s ep with
    | none => rfl
    | some k0 =>
      show (if ms.2.1 21 k0 = pl then aS ms 23 k0 0 else ms).2.2 = _
      split <;> rfl
  · by_cases e23 : k = 23
    · rw [e23]
      unfold fgtM
      cases hf : ntF ms s ep with
      | none => rfl
      | some k0 =>
        obtain ⟨g1, g2, -, -⟩ := ff_some.mp hf
        show (if ms.2.1 21 k0 = pl then aS ms 23 k0 0 else ms).2.1 23 j = _
        by_cases hpl : ms.2.1 21 k0 = pl
        · rw [if_pos hpl]
          exact aS_j (by omega)
        · rw [if_neg hpl]
    · exact ek k j e23
end NT5
end
/-! from 86.make -/
section
/-! NOTES: one is made -/
theorem bool_ex {a b : Bool} (h : a = b) (h' : a = !b) : False := by subst h; cases a <;> cases h'
/-- what is known of the order of a site's notes: those made later go later; how many were made -/
def ON (ms : MS) (s : Nat) : Prop := (∀ k k', 6 * s ≤ k → k < 6 * s + 6 → 6 * s ≤ k' → k' < 6 * s + 6 → liveN ms k = true → liveN ms k' = true → ms.2.1 24 k < ms.2.1 24 k' → ms.2.1 23 k ≤ ms.2.1 23 k') ∧ ∃ M, M ≤ 200 ∧ ms.1 25 = nI M ∧ ∀ k, 6 * s ≤ k → k < 6 * s + 6 → liveN ms k = true → ∃ m, m ≤ M ∧ ms.2.1 24 k = nI m
section NT6
variable {fx : Bool} {σ σ' : HS} {x : Nat} {G : Nat → Nat → Nat} {ms ms' : MS}
theorem clrM_1 {s : Nat} {b : Int32} {n : Nat} : (clrM ms s b n).1 = ms.1 := rfl
theorem clrM_k {s : Nat} {b : Int32} {n k j : Nat} (h : k ≠ 23) : (clrM ms s b n).2.1 k j = ms.2.1 k j := by unfold clrM; rw [rW_i, if_neg h]
theorem clrM_23 {s : Nat} {b : Int32} {n j : Nat} : (clrM ms s b n).2.1 23 j = if (6 * s ≤ j ∧ j < 6 * s + 6) ∧ mtN ms b n j = true then 0 else ms.2.1 23 j := by unfold clrM; rw [rW_i, if_pos rfl]
theorem notM_k {t : Nat} {b l pl v : Int32} {k j : Nat} (h : j ≠ t ∨ k < 19 ∨ 24 < k) : (notM ms t b l pl v).2.1 k j = ms.2.1 k j := by
  unfold notM
  rcases h with h | h
  · rw [aS_j h, aS_j h, aS_j h, aS_j h, aS_j h, aS_j h]; rfl
  · rw [aS_k (by omega), aS_k (by omega), aS_k (by omega), aS_k (by omega), aS_k (by omega), aS_k (by omega)]; rfl
theorem notM_t {t : Nat} {b l pl v : Int32} : nMv (notM ms t b l pl v) t = ((b, l, pl, v, ms.1 1 + 60), ms.1 25 + 1) := by
  unfold nMv notM
  rw [aS_s, aS_k (by decide), aS_k (by decide), aS_k (by decide), aS_k (by decide), aS_k (by decide), aS_s, aS_k (by decide), aS_k (by decide), aS_k (by decide), aS_k (by decide), aS_s, aS_k (by decide), aS_k (by decide), aS_k (by decide), aS_s, aS_k (by decide), aS_k (by decide), aS_s, aS_k (by decide), aS_s]
theorem a_make (P : Rep fx σ x G ms) {s t : Nat} (hs : s < 8) (hp : ¬ ms.2.1 14 s = -1) (O : ON ms s) (hL : ∀ k, k < 48 → Ln (ms.2.1 20 k)) (ht : ms.1 1 = nI t) (ht2 : t ≤ 1000000) {a1 p1 mm : Nat} {b pl v v' : Int32} (ha : nOk σ a1) (hp1 : h_rv σ a1 0 = some p1) (hP1 : hP σ p1 b mm) (hv1 : h_iv σ a1 1 = pl) (hv2 : h_iv σ a1 2 = v) (hv3 : h_iv σ a1 3 = ms.1 1 + 60) (hvv : v = v' ∨ (fx = false ∧ pl = -1)) :
    ∃ σ', f_X2_make σ (some (G 5 s)) (some a1) (ms.1 1) = some ((), σ') ∧ Rep fx σ' x G (mnM ms s b (nI mm) pl v') ∧ Kq x 0 0 σ σ' ∧ Sm σ σ' a1 := by
  have I := P.si hs hp
  obtain ⟨C, K, L, h1, h2, h3⟩ := I.ct
  obtain ⟨σ', r1, W, K'⟩ := c_make K I.n56 (ms.1 1) ha hp1 hP1
  obtain ⟨O1, M, M1, M2, M3⟩ := O
  have hmm : mm ≤ 32 := hP1.2.2.2.1
  have hq1 : nV σ a1 = (b, nI mm, pl, v, ms.1 1 + 60) := by
    unfold nV
    rw [hp1, hv1, hv2, hv3]
    show (h_iv σ p1 0, h_iv σ p1 1, _) = _
    rw [hP1.2.1, hP1.2.2.1]
  have h60 : ms.1 1 < ms.1 1 + 60 := by
    rw [ht, show nI t + 60 = nI (t + 60) from nI_add t 60]
    exact nI_lt (by omega) (by omega)
  have h0 : ¬ ms.1 1 < 0 := by rw [ht]; exact nI_pos (by omega)
  -- the reference: those that meet it go
  have hmt : ∀ k, 6 * s ≤ k → k < 6 * s + 6 → mtN ms b mm k = nMt b mm (nMv ms k).1 := fun k _ hk => mtN_nMt hmm (hL k (by omega))
  have l1 : ∀ k, 6 * s ≤ k → k < 6 * s + 6 → liveN (clrM ms s b mm) k = (!nMt b mm (nMv ms k).1 && liveN ms k) := by
    intro k g1 g2
    unfold liveN
    rw [clrM_23, clrM_1, hmt k g1 g2]
    cases nMt b mm (nMv ms k).1 with
    | false => rw [if_neg (fun z => by cases z.2)]; rfl
    | true => rw [if_pos ⟨⟨g1, g2⟩, rfl⟩, decide_eq_false h0]; rfl
  have v1 : ∀ k, 6 * s ≤ k → k < 6 * s + 6 → liveN (clrM ms s b mm) k = true → nMv (clrM ms s b mm) k = nMv ms k := by
    intro k g1 g2 g3
    rw [l1 k g1 g2] at g3
    obtain ⟨g4, g5⟩ := (Bool.and_eq_true _ _).mp g3
    have e23 : (clrM ms s b mm).2.1 23 k = ms.2.1 23 k := by
      rw [clrM_23, hmt k g1 g2, if_neg (fun z => by rw [z.2] at g4; cases g4)]
    unfold nMv
    rw [clrM_k (k := 19) (by decide), clrM_k (k := 20) (by decide), clrM_k (k := 21) (by decide), clrM_k (k := 22) (by decide), e23, clrM_k (k := 24) (by decide)]
  have hR1 : (lvI (clrM ms s b mm) s).map (nMv (clrM ms s b mm)) = ((lvI ms s).map (nMv ms)).filter (fun r => !nMt b mm r.1) := by
    rw [List.filter_map, show (fun r : N5 × Int32 => !nMt b mm r.1) ∘ nMv ms = fun k => !nMt b mm (nMv ms k).1 from rfl]
    have hix : lvI (clrM ms s b mm) s = (lvI ms s).filter (fun k => !nMt b mm (nMv ms k).1) := by
      unfold lvI
      rw [List.filter_filter]
      exact List.filter_congr (fun k hk => by rw [List.mem_range'_1] at hk; exact l1 k hk.1 hk.2)
    rw [← hix]
    exact List.map_congr_left (fun k hk => by
      obtain ⟨g1, g2⟩ := lvI_mem.mp hk
      exact v1 k g1.1 g1.2 g2)
  have nRm : ∀ q r, nR fx q r → (!nMt b mm q) = (!nMt b mm r) := fun q r h => by unfold nMt; rw [h.1, h.2.1]
  have L1p : (L.filter (fun r => !nMt b mm r.1)).Perm ((lvI (clrM ms s b mm) s).map (nMv (clrM ms s b mm))) := by rw [hR1]; exact h1.filter _
  have L1w : (L.filter (fun r => !nMt b mm r.1)).Pairwise (fun a b => a.2 < b.2) := h2.filter _
  have L1f : fa2 (fun q r => nR fx q r.1) (((C.map (nV σ)).filter (nP (ms.1 1))).filter (fun q => !nMt b mm q)) (L.filter (fun r => !nMt b mm r.1)) := fa2_filter (P := fun q => !nMt b mm q) (P' := fun r : N5 × Int32 => !nMt b mm r.1) (fun a b hab => nRm a b.1 hab) _ _ h3
  generalize hL1 : L.filter (fun r => !nMt b mm r.1) = L1 at L1p L1w L1f
  -- the object: those that meet it go
  have hcl : (C.filter (fun a => keepM b mm (ms.1 1) (nV σ a))).map (nV σ) = ((C.map (nV σ)).filter (nP (ms.1 1))).filter (fun q => !nMt b mm q) := by
    rw [map_filt, List.filter_filter]
    refine List.filter_congr (fun q _ => ?_)
    unfold keepM
    cases nP (ms.1 1) q <;> cases nMt b mm q <;> rfl
  rw [← hcl] at L1f
  have hlv1 : ∀ q, q ∈ (C.filter (fun a => keepM b mm (ms.1 1) (nV σ a))).map (nV σ) → nP (ms.1 1) q = true := by
    intro q hq
    obtain ⟨a, g1, rfl⟩ := List.mem_map.mp hq
    exact ((Bool.and_eq_true _ _).mp (List.mem_filter.mp g1).2).1
  have hokC : ∀ a, a ∈ C → nV σ' a = nV σ a := fun a g => (W.ok K.1 K.2.2.1 (K.2.2.2.2.2.2.2 a g)).2
  have hsub : ∀ a, a ∈ C.filter (fun a => keepM b mm (ms.1 1) (nV σ a)) → a ∈ C := fun a g => (List.mem_filter.mp g).1
  have hlen : (C.filter (fun a => keepM b mm (ms.1 1) (nV σ a))).length = (lvI (clrM ms s b mm) s).length := by
    have e1 := fa2_len _ _ L1f
    have e2 := L1p.length_eq
    rw [List.length_map] at e1 e2
    omega
  generalize hC1 : C.filter (fun a => keepM b mm (ms.1 1) (nV σ a)) = C1 at L1f hlv1 hsub hlen K' hcl
  -- the place that it takes
  obtain ⟨t', p1', p2, p3⟩ := pk_all (clrM ms s b mm) s
  have hms : mnM ms s b (nI mm) pl v' = notM (clrM ms s b mm) t' b (nI mm) pl v' := by
    unfold mnM
    rw [ln_nI hmm, p1']
  have lv' : ∀ k, liveN (notM (clrM ms s b mm) t' b (nI mm) pl v') k = (if k = t' then true else liveN (clrM ms s b mm) k) := by
    intro k
    by_cases e : k = t'
    · rw [if_pos e, e]
      rw [live_nP, notM_t]
      exact decide_eq_true h60
    · rw [if_neg e]
      unfold liveN
      rw [notM_k (Or.inl e)]
      rfl
  have nd : (t' :: (lvI (clrM ms s b mm) s).erase t').Nodup := List.nodup_cons.mpr ⟨fun z => (List.Nodup.mem_erase_iff lvI_nd).mp z |>.1 rfl, List.Nodup.erase _ lvI_nd⟩
  have hperm : (lvI (notM (clrM ms s b mm) t' b (nI mm) pl v') s).Perm (t' :: (lvI (clrM ms s b mm) s).erase t') := by
    refine (List.perm_ext_iff_of_nodup lvI_nd nd).mpr (fun k => ?_)
    rw [lvI_mem, lv', List.mem_cons, List.Nodup.mem_erase_iff lvI_nd, lvI_mem]
    by_cases e : k = t'
    · rw [if_pos e]; exact ⟨fun _ => Or.inl e, fun _ => ⟨by rw [e]; exact p2, rfl⟩⟩
    · rw [if_neg e]; exact ⟨fun z => Or.inr ⟨e, z⟩, fun z => (z.resolve_left e).2⟩
  have hmap : ((lvI (notM (clrM ms s b mm) t' b (nI mm) pl v') s).map (nMv (notM (clrM ms s b mm) t' b (nI mm) pl v'))).Perm (((b, nI mm, pl, v', ms.1 1 + 60), ms.1 25 + 1) :: ((lvI (clrM ms s b mm) s).erase t').map (nMv (clrM ms s b mm))) := by
    refine (hperm.map _).trans ?_
    rw [List.map_cons, notM_t]
    refine List.Perm.cons _ ?_
    have : ((lvI (clrM ms s b mm) s).erase t').map (nMv (notM (clrM ms s b mm) t' b (nI mm) pl v')) = ((lvI (clrM ms s b mm) s).erase t').map (nMv (clrM ms s b mm)) := List.map_congr_left (fun k hk => by
      have e : k ≠ t' := ((List.Nodup.mem_erase_iff lvI_nd).mp hk).1
      unfold nMv
      rw [notM_k (Or.inl e), notM_k (Or.inl e), notM_k (Or.inl e), notM_k (Or.inl e), notM_k (Or.inl e), notM_k (Or.inl e)])
    rw [this]
  have hlast : ∀ r, r ∈ L1 → r.2 < ms.1 25 + 1 := by
    intro r hr
    obtain ⟨k, k1, rfl⟩ := List.mem_map.mp (L1p.mem_iff.mp hr)
    obtain ⟨k2, k3⟩ := lvI_mem.mp k1
    have k4 := k3
    rw [l1 k k2.1 k2.2] at k4
    obtain ⟨m, m1, m2⟩ := M3 k k2.1 k2.2 ((Bool.and_eq_true _ _).mp k4).2
    rw [v1 k k2.1 k2.2 k3, M2]
    show ms.2.1 24 k < nI M + 1
    rw [m2, nI_c1]
    exact nI_lt (by omega) (by omega)
  -- what stays behind, when there are six
  have key : ∃ X Y, X.Perm (((lvI (clrM ms s b mm) s).erase t').map (nMv (clrM ms s b mm))) ∧ X.Pairwise (fun a b => a.2 < b.2) ∧ (∀ r, r ∈ X → r ∈ L1) ∧ fa2 (fun q r => nR fx q r.1) (Y.map (nV σ)) X ∧ (∀ a, a ∈ Y → a ∈ C1) ∧ app C1 a1 = Y ++ [a1] := by
    by_cases hin : t' ∈ lvI (clrM ms s b mm) s
    · -- all six are there
      have hall : ∀ k, 6 * s ≤ k → k < 6 * s + 6 → liveN (clrM ms s b mm) k = true := by
        intro k g1 g2
        cases hl : liveN (clrM ms s b mm) k with
        | true => rfl
        | false =>
          have e1 : efN (clrM ms s b mm) k = 0 := if_pos (Int32.not_lt.mp (of_decide_eq_false hl))
          have e2 : liveN (clrM ms s b mm) t' = true := (lvI_mem.mp hin).2
          have e3 : efN (clrM ms s b mm) t' = (clrM ms s b mm).2.1 23 t' := if_neg (Int32.not_le.mpr (of_decide_eq_true e2))
          have e4 : ms.1 1 < (clrM ms s b mm).2.1 23 t' := of_decide_eq_true e2
          have hb := p3 k g1 g2
          have : beN (clrM ms s b mm) k t' = true := beN_iff.mpr (Or.inl (by
            rw [e1, e3, Int32.toInt_zero]
            rw [Int32.lt_iff_toInt_lt] at e4 h0
            rw [Int32.toInt_zero] at h0
            omega))
          rw [hb] at this
          cases this
      have hl6 : (lvI (clrM ms s b mm) s).length = 6 := by
        have : lvI (clrM ms s b mm) s = List.range' (6 * s) 6 := List.filter_eq_self.mpr (fun k hk => by rw [List.mem_range'_1] at hk; exact hall k hk.1 hk.2)
        rw [this, List.length_range']
      cases hX : L1 with
      | nil =>
        have := L1p.length_eq
        rw [hX, List.length_map, hl6] at this
        cases this
      | cons h Lt =>
        rw [hX] at L1p L1w L1f
        have hh : h = nMv (clrM ms s b mm) t' := by
          obtain ⟨kh, q1, q2⟩ := List.mem_map.mp (L1p.mem_iff.mp List.mem_cons_self)
          obtain ⟨q3, q4⟩ := lvI_mem.mp q1
          have ht' : nMv (clrM ms s b mm) t' ∈ h :: Lt := L1p.mem_iff.mpr (List.mem_map.mpr ⟨t', hin, rfl⟩)
          rcases List.mem_cons.mp ht' with e | e
          · exact e.symm
          · exfalso
            have hlt := (List.pairwise_cons.mp L1w).1 _ e
            rw [← q2] at hlt
            have l4 : (clrM ms s b mm).2.1 24 kh < (clrM ms s b mm).2.1 24 t' := hlt
            have lt' := (lvI_mem.mp hin).2
            have o1 : (clrM ms s b mm).2.1 23 kh ≤ (clrM ms s b mm).2.1 23 t' := by
              have a1' := v1 kh q3.1 q3.2 q4
              have a2' := v1 t' p2.1 p2.2 lt'
              have b1 : (clrM ms s b mm).2.1 23 kh = ms.2.1 23 kh := congrArg (fun r => r.1.2.2.2.2) a1'
              have b2 : (clrM ms s b mm).2.1 23 t' = ms.2.1 23 t' := congrArg (fun r => r.1.2.2.2.2) a2'
              have c1 := q4
              have c2 := lt'
              rw [l1 kh q3.1 q3.2] at c1
              rw [l1 t' p2.1 p2.2] at c2
              rw [b1, b2]
              rw [clrM_k (by decide), clrM_k (by decide)] at l4
              exact O1 kh t' q3.1 q3.2 p2.1 p2.2 ((Bool.and_eq_true _ _).mp c1).2 ((Bool.and_eq_true _ _).mp c2).2 l4
            have hb := p3 kh q3.1 q3.2
            have d1 : ms.1 1 < (clrM ms s b mm).2.1 23 kh := of_decide_eq_true q4
            have d2 : ms.1 1 < (clrM ms s b mm).2.1 23 t' := of_decide_eq_true lt'
            have f1 : efN (clrM ms s b mm) kh = (clrM ms s b mm).2.1 23 kh := if_neg (Int32.not_le.mpr d1)
            have f2 : efN (clrM ms s b mm) t' = (clrM ms s b mm).2.1 23 t' := if_neg (Int32.not_le.mpr d2)
            have : beN (clrM ms s b mm) kh t' = true := beN_iff.mpr (by
              rw [f1, f2]
              rw [Int32.lt_iff_toInt_lt] at d1 d2 l4 h0
              rw [Int32.le_iff_toInt_le] at o1
              rw [Int32.toInt_zero] at h0
              omega)
            rw [hb] at this
            cases this
        have hc6 : 6 ≤ C1.length := by omega
        refine ⟨Lt, C1.tail, ?_, (List.pairwise_cons.mp L1w).2, fun r hr => List.mem_cons_of_mem _ hr, ?_, fun a ha => List.mem_of_mem_tail ha, ?_⟩
        · have e1 := L1p.trans ((List.perm_cons_erase hin).map (nMv (clrM ms s b mm)))
          rw [List.map_cons, hh] at e1
          exact e1.cons_inv
        · have := fa2_tail _ _ L1f
          rw [List.map_tail]
          exact this
        · unfold app
          rw [if_pos hc6, List.eraseIdx_zero]
    · have hl5 : (lvI (clrM ms s b mm) s).length ≤ 5 := by
        have hlt : (lvI (clrM ms s b mm) s).length < (List.range' (6 * s) 6).length := List.length_filter_lt_length_iff_exists.mpr ⟨t', by rw [List.mem_range'_1]; exact p2, fun z => hin (lvI_mem.mpr ⟨p2, z⟩)⟩
        rw [List.length_range'] at hlt
        omega
      refine ⟨L1, C1, ?_, L1w, fun _ h => h, L1f, fun _ h => h, ?_⟩
      · rw [List.erase_of_not_mem hin]
        exact L1p
      · unfold app
        rw [if_neg (by omega)]
  obtain ⟨X, Y, x1, x2, x3, x4, x5, x6⟩ := key
  have hq1' : nV σ' a1 = (b, nI mm, pl, v, ms.1 1 + 60) := by rw [(W.ok K.1 K.2.2.1 ha).2, hq1]
  have hclY : ((app C1 a1).map (nV σ')).filter (nP (ms.1 1)) = Y.map (nV σ) ++ [(b, nI mm, pl, v, ms.1 1 + 60)] := by
    rw [x6, List.map_append, List.map_cons, List.map_nil, hq1']
    have e1 : Y.map (nV σ') = Y.map (nV σ) := List.map_congr_left (fun a ha => hokC a (hsub a (x5 a ha)))
    rw [e1, List.filter_append]
    have e2 : (Y.map (nV σ)).filter (nP (ms.1 1)) = Y.map (nV σ) := List.filter_eq_self.mpr (fun q hq => by
      obtain ⟨a, g1, rfl⟩ := List.mem_map.mp hq
      exact hlv1 _ (List.mem_map.mpr ⟨a, x5 a g1, rfl⟩))
    rw [e2, List.filter_cons_of_pos (show nP (ms.1 1) (b, nI mm, pl, v, ms.1 1 + 60) = true from decide_eq_true h60), List.filter_nil]
  have hNt : NtR fx (((app C1 a1).map (nV σ')).filter (nP (ms.1 1))) ((lvI (notM (clrM ms s b mm) t' b (nI mm) pl v') s).map (nMv (notM (clrM ms s b mm) t' b (nI mm) pl v'))) := by
    rw [hclY]
    refine ⟨X ++ [((b, nI mm, pl, v', ms.1 1 + 60), ms.1 25 + 1)], ?_, ?_, fa2_app ?_ _ _ x4⟩
    · exact (List.perm_append_singleton _ _).trans ((List.Perm.cons _ x1).trans hmap.symm)
    · refine List.pairwise_append.mpr ⟨x2, List.pairwise_singleton _ _, fun r hr q hq => ?_⟩
      rw [List.mem_singleton.mp hq]
      exact hlast r (x3 r hr)
    · exact ⟨rfl, rfl, rfl, rfl, hvv⟩
  have ek : ∀ k j, k < 19 ∨ 24 < k → (notM (clrM ms s b mm) t' b (nI mm) pl v').2.1 k j = ms.2.1 k j := fun k j h => by rw [notM_k (Or.inr h), clrM_k (by omega)]
  have I' : SiR fx σ' G (notM (clrM ms s b mm) t' b (nI mm) pl v') s := I.of_ct W K' hNt (ek _ _ (by omega)) (ek _ _ (by omega)) (ek _ _ (by omega)) (fun _ _ => ek _ _ (by omega)) (fun _ _ => ek _ _ (by omega))
  have hsm : ∀ b, b ≠ G 5 s → b ≠ G 6 s → Sm σ σ' b := W.1
  have e1' : ∀ k, k ≠ 25 → (notM (clrM ms s b mm) t' b (nI mm) pl v').1 k = ms.1 k := fun k h => by
    show (k_pI (clrM ms s b mm) 25 _).1 k = _
    rw [pI_n1 h]
    rfl
  refine ⟨σ', r1, ?_, Kq_si P hs hp W.z4 (fun b _ _ g5 g6 _ => hsm b g5 g6), hsm a1 (fun z => ?_) (fun z => ?_)⟩
  · rw [hms]
    exact Rep_one P hs hp (Zx_NW W P.1) (fun b _ _ g5 g6 _ => hsm b g5 g6) I' (by rw [ek _ _ (by omega)]; exact hp) (fun k _ h => e1' k h) (fun k j h => ek k j (by omega)) rfl (fun t ht e => ⟨ek _ _ (by omega), ek _ _ (by omega), ek _ _ (by omega)⟩) (fun t k ht e hk => ⟨ek _ _ (by omega), ek _ _ (by omega)⟩) (fun u k j hu e g1 g2 g3 g4 => by
      rw [notM_k (Or.inl (by omega))]
      by_cases e23 : k = 23
      · rw [e23, clrM_23, if_neg (fun z => by omega)]
      · exact clrM_k e23)
  · have := ha.1
    rw [z, K.1] at this
    omega
  · have := ha.1
    rw [z, K.2.2.1] at this
    omega
end NT6
end
/-! from 87.entries2 -/
section
/-! ENTRIES: the two sides -/
def eMv (ms : MS) (k : Nat) : E6 := (ms.2.1 7 k, ms.2.1 8 k, ms.2.1 9 k, ms.2.1 10 k, ms.2.1 11 k, ms.2.1 12 k)
theorem eL_ix {now : Int32} {f : Nat → Option E6} {d : E6} : ∀ (c i : Nat), eL now f i c = ((List.range' i c).filter (fun j => lvE now (f j))).map (fun j => (f j).getD d)
  | 0, i => rfl
  | c + 1, i => by
    have ih := eL_ix (now := now) (f := f) (d := d) c (i + 1)
    rw [List.range'_succ]
    unfold eL
    cases hf : f i with
    | none =>
      show eL now f (i + 1) c = _
      rw [List.filter_cons_of_neg (by rw [hf]; exact Bool.false_ne_true), ih]
    | some q =>
      show (if now < q.2.2.2.2.2 then q :: eL now f (i + 1) c else eL now f (i + 1) c) = _
      by_cases h : now < q.2.2.2.2.2
      · rw [if_pos h, List.filter_cons_of_pos (by rw [hf]; exact decide_eq_true h), List.map_cons, ih, hf]; rfl
      · rw [if_neg h, List.filter_cons_of_neg (by rw [hf]; exact fun z => h (of_decide_eq_true z)), ih]
theorem nd_map_inj {α β : Type} {f : α → β} : ∀ (l : List α), (l.map f).Nodup → ∀ a b, a ∈ l → b ∈ l → f a = f b → a = b
  | [], _, a, _, ha, _, _ => absurd ha List.not_mem_nil
  | x :: l, h, a, b, ha, hb, e => by
    rw [List.map_cons] at h
    obtain ⟨h1, h2⟩ := List.nodup_cons.mp h
    rcases List.mem_cons.mp ha with rfl | ha'
    · rcases List.mem_cons.mp hb with rfl | hb'
      · rfl
      · exact absurd (by rw [e]; exact List.mem_map.mpr ⟨b, hb', rfl⟩) h1
    · rcases List.mem_cons.mp hb with rfl | hb'
      · exact absurd (by rw [← e]; exact List.mem_map.mpr ⟨a, ha', rfl⟩) h1
      · exact nd_map_inj l h2 a b ha' hb' e
/-- no two entries of a server are of one prefix -/
def UE (ms : MS) (i : Nat) : Prop := ∀ k k', 16 * i ≤ k → k < 16 * i + 16 → 16 * i ≤ k' → k' < 16 * i + 16 → liveE ms k = true → liveE ms k' = true → ms.2.1 7 k = ms.2.1 7 k' → ms.2.1 8 k = ms.2.1 8 k' → k = k'
def rIx (ms : MS) (i : Nat) : List Nat := (List.range' (16 * i) 16).filter (liveE ms)
theorem rIx_mem {ms : MS} {i k : Nat} : k ∈ rIx ms i ↔ (16 * i ≤ k ∧ k < 16 * i + 16) ∧ liveE ms k = true := by
  unfold rIx
  rw [List.mem_filter, List.mem_range'_1]
theorem rIx_nd {ms : MS} {i : Nat} : (rIx ms i).Nodup := List.Pairwise.filter _ List.nodup_range'
theorem eM_ix (ms : MS) (i : Nat) : eL (ms.1 1) (eM ms) (16 * i) 16 = (rIx ms i).map (eMv ms) := eL_ix (d := eMv ms 0) 16 (16 * i)
/-- the places of a server's entries that haven't lapsed -/
def cIx (σ : HS) (e : Nat) (now : Int32) : List Nat := (List.range' 0 16).filter (fun j => lvE now (eC σ e j))
/-- slot j holds the entry a, which hasn't lapsed -/
def at_ (σ : HS) (e : Nat) (now : Int32) (j a : Nat) : Prop := j < 16 ∧ h_rv σ e j = some a ∧ now < h_iv σ a 4
theorem cIx_mem {σ : HS} {e j : Nat} {now : Int32} : j ∈ cIx σ e now ↔ ∃ a, at_ σ e now j a := by
  unfold cIx
  rw [List.mem_filter, List.mem_range'_1]
  unfold eC at_
  constructor
  · intro ⟨h1, h2⟩
    cases hr : h_rv σ e j with
    | none => rw [hr] at h2; cases h2
    | some a =>
      rw [hr] at h2
      exact ⟨a, by omega, rfl, of_decide_eq_true h2⟩
  · intro ⟨a, h1, h2, h3⟩
    refine ⟨⟨by omega, by omega⟩, ?_⟩
    rw [h2]
    exact decide_eq_true h3
theorem cIx_nd {σ : HS} {e : Nat} {now : Int32} : (cIx σ e now).Nodup := List.Pairwise.filter _ List.nodup_range'
section EN2
variable {fx : Bool} {σ σ' : HS} {x : Nat} {G : Nat → Nat → Nat} {ms ms' : MS}
theorem at_v {e j a : Nat} {now : Int32} {d : E6} (h : at_ σ e now j a) : (eC σ e j).getD d = eV σ a := by
  unfold eC
  rw [h.2.1]
  rfl
theorem SvR.pm {i : Nat} (I : SvR σ G ms i) : ((cIx σ (G 1 i) (ms.1 1)).map (fun j => (eC σ (G 1 i) j).getD (eMv ms 0))).Perm ((rIx ms i).map (eMv ms)) := by
  obtain ⟨-, -, -, -, -, -, -, -, b5⟩ := I
  rw [eM_ix, eL_ix (d := eMv ms 0)] at b5
  exact b5
/-- the entries of the one side are those of the other -/
theorem ent_to {i j a : Nat} (I : SvR σ G ms i) (h : at_ σ (G 1 i) (ms.1 1) j a) : ∃ k, (16 * i ≤ k ∧ k < 16 * i + 16) ∧ liveE ms k = true ∧ eMv ms k = eV σ a := by
  have hm : eV σ a ∈ (cIx σ (G 1 i) (ms.1 1)).map (fun j => (eC σ (G 1 i) j).getD (eMv ms 0)) := List.mem_map.mpr ⟨j, cIx_mem.mpr ⟨a, h⟩, at_v h⟩
  obtain ⟨k, k1, k2⟩ := List.mem_map.mp (I.pm.mem_iff.mp hm)
  obtain ⟨k3, k4⟩ := rIx_mem.mp k1
  exact ⟨k, k3, k4, k2⟩
theorem ent_of {i k : Nat} (I : SvR σ G ms i) (h1 : 16 * i ≤ k ∧ k < 16 * i + 16) (h2 : liveE ms k = true) : ∃ j a, at_ σ (G 1 i) (ms.1 1) j a ∧ eV σ a = eMv ms k := by
  have hm : eMv ms k ∈ (rIx ms i).map (eMv ms) := List.mem_map.mpr ⟨k, rIx_mem.mpr ⟨h1, h2⟩, rfl⟩
  obtain ⟨j, j1, j2⟩ := List.mem_map.mp (I.pm.mem_iff.mpr hm)
  obtain ⟨a, ha⟩ := cIx_mem.mp j1
  exact ⟨j, a, ha, by rw [← j2]; exact (at_v ha).symm⟩
theorem rIx_map_nd {i : Nat} (U : UE ms i) : ((rIx ms i).map (eMv ms)).Nodup := by
  unfold List.Nodup
  rw [List.pairwise_map]
  refine List.Pairwise.imp_of_mem (fun {a b} ha hb hne hab => hne ?_) (rIx_nd (ms := ms) (i := i))
  obtain ⟨a1, a2⟩ := rIx_mem.mp ha
  obtain ⟨b1, b2⟩ := rIx_mem.mp hb
  exact U a b a1.1 a1.2 b1.1 b1.2 a2 b2 (congrArg (fun q => q.1) hab) (congrArg (fun q => q.2.1) hab)
theorem ent_uq {i j j' a a' : Nat} (I : SvR σ G ms i) (U : UE ms i) (h : at_ σ (G 1 i) (ms.1 1) j a) (h' : at_ σ (G 1 i) (ms.1 1) j' a') (e1 : (eV σ a).1 = (eV σ a').1) (e2 : (eV σ a).2.1 = (eV σ a').2.1) : j = j' := by
  obtain ⟨k, k1, k2, k3⟩ := ent_to I h
  obtain ⟨k', l1, l2, l3⟩ := ent_to I h'
  have ek : k = k' := U k k' k1.1 k1.2 l1.1 l1.2 k2 l2 (by rw [← k3, ← l3] at e1; exact e1) (by rw [← k3, ← l3] at e2; exact e2)
  have hnd : ((cIx σ (G 1 i) (ms.1 1)).map (fun j => (eC σ (G 1 i) j).getD (eMv ms 0))).Nodup := (I.pm.nodup_iff).mpr (rIx_map_nd U)
  refine nd_map_inj _ hnd j j' (cIx_mem.mpr ⟨a, h⟩) (cIx_mem.mpr ⟨a', h'⟩) ?_
  show (eC σ (G 1 i) j).getD _ = (eC σ (G 1 i) j').getD _
  rw [at_v h, at_v h', ← k3, ← l3, ek]
/-- an entry: its prefix -/
theorem ent_px {i j a : Nat} (I : SvR σ G ms i) (h : at_ σ (G 1 i) (ms.1 1) j a) : h_tg σ a = 1 ∧ ∃ p b n, h_gR σ (some a) 1 0 = some (some p) ∧ hP σ p b n ∧ (eV σ a).1 = b ∧ (eV σ a).2.1 = nI n ∧ h_gR σ (some (G 0 i)) 7 3 = some (some (G 1 i)) ∧ h_aR σ (some (G 1 i)) 103 (nI j) = some (some a) := by
  obtain ⟨a1, -, -, -, ⟨a6, a7, a8⟩, -, -, b4, -⟩ := I
  obtain ⟨t1, p, b, n, r1, hp⟩ := b4 j h.1 a h.2.1
  refine ⟨t1, p, b, n, by rw [gR_s t1, r1], hp, ?_, ?_, by rw [gR_s a1, a6], by rw [aR_s a7 a8 h.1 (by decide), h.2.1]⟩
  · unfold eV; rw [r1]; exact hp.2.1
  · unfold eV; rw [r1]; exact hp.2.2.1
theorem live_at {i j : Nat} (I : SvR σ G ms i) (hj : j < 16) (now : Int32) : (f_X6_isLive σ (some (G 0 i)) (nI j) now = some (0, σ) ∧ ∀ a, ¬ at_ σ (G 1 i) now j a) ∨ (f_X6_isLive σ (some (G 0 i)) (nI j) now = some (1, σ) ∧ ∃ a, at_ σ (G 1 i) now j a) := by
  have h := c_isLive I hj now
  unfold eC at h
  cases hr : h_rv σ (G 1 i) j with
  | none =>
    rw [hr] at h
    exact Or.inl ⟨h, fun a z => by have := z.2.1; rw [hr] at this; cases this⟩
  | some a =>
    rw [hr] at h
    have h' : f_X6_isLive σ (some (G 0 i)) (nI j) now = some (b2i (decide (now < h_iv σ a 4)), σ) := h
    by_cases hl : now < h_iv σ a 4
    · rw [decide_eq_true hl] at h'
      exact Or.inr ⟨h', a, hj, hr, hl⟩
    · rw [decide_eq_false hl] at h'
      exact Or.inl ⟨h', fun a' z => by
        have := z.2.1
        rw [hr] at this
        have e := Option.some.inj this
        rw [← e] at z
        exact hl z.2.2⟩
/-- the best so far -/
def bst (σ : HS) (e : Nat) (now ep : Int32) (j : Nat) (o : Option Nat) : Prop := match o with
  | none => ∀ j' a', j' < j → at_ σ e now j' a' → ag (ln (eV σ a').2.1) ep (eV σ a').1 = false
  | some a => (∃ j0, j0 < j ∧ at_ σ e now j0 a) ∧ ag (ln (eV σ a).2.1) ep (eV σ a).1 = true ∧ ∀ j' a', j' < j → at_ σ e now j' a' → ag (ln (eV σ a').2.1) ep (eV σ a').1 = true → (eV σ a').2.1 ≤ (eV σ a).2.1
theorem g_best {i : Nat} (I : SvR σ G ms i) (ep : Int32) : ∀ (c n j : Nat) (o : Option Nat), j + c = 16 → c < n → bst σ (G 1 i) (ms.1 1) ep j o → ∃ o', g_X6_best_5 n σ (some (G 0 i)) ep (ms.1 1) o (nI j) = some (o', σ) ∧ bst σ (G 1 i) (ms.1 1) ep 16 o'
  | 0, 0, j, o, _, h, _ => absurd h (Nat.lt_irrefl 0)
  | c + 1, 0, j, o, _, h, _ => absurd h (Nat.not_lt_zero _)
  | 0, n + 1, j, o, hj, _, hb => by
    have : j = 16 := by omega
    subst this
    exact ⟨o, by rw [g_X6_best_5, if_pos (show (16 : Int32) ≤ nI 16 by decide)], hb⟩
  | c + 1, n + 1, j, o, hj, hn, hb => by
    have hlt : ¬ (16 : Int32) ≤ nI j := fun z => absurd (nI_lt (a := j) (b := 16) (by omega) (by decide)) (Int32.not_lt.mpr z)
    rcases live_at I (show j < 16 by omega) (ms.1 1) with ⟨l1, l2⟩ | ⟨l1, a, l2⟩
    · obtain ⟨o', r1, r2⟩ := g_best I ep c n (j + 1) o (by omega) (by omega) (by
        cases o with
        | none =>
          intro j' a' h1 h2
          by_cases e : j' = j
          · rw [e] at h2; exact absurd h2 (l2 a')
          · exact hb j' a' (by omega) h2
        | some a0 =>
          obtain ⟨⟨j0, b0, b1⟩, b2, b3⟩ := hb
          refine ⟨⟨j0, by omega, b1⟩, b2, fun j' a' h1 h2 h3 => ?_⟩
          by_cases e : j' = j
          · rw [e] at h2; exact absurd h2 (l2 a')
          · exact b3 j' a' (by omega) h2 h3)
      exact ⟨o', by rw [g_X6_best_5, if_neg hlt, rcv_s I.1, h_b1_s, l1, h_bd_s, if_pos rfl, nI_c1, r1], r2⟩
    · obtain ⟨t1, p, b, m, q1, q2, q3, q4, q5, q6⟩ := ent_px I l2
      have hag : ag m ep b = ag (ln (eV σ a).2.1) ep (eV σ a).1 := by rw [q3, q4, ln_nI q2.2.2.2.1]
      have hhas : f_X4_has σ (some p) ep = some (b2i (ag (ln (eV σ a).2.1) ep (eV σ a).1), σ) := by rw [has_eq q2, hag]
      have uq : ∀ a', at_ σ (G 1 i) (ms.1 1) j a' → a' = a := fun a' z => Option.some.inj (z.2.1.symm.trans l2.2.1)
      cases hh : ag (ln (eV σ a).2.1) ep (eV σ a).1 with
      | false =>
        obtain ⟨o', r1, r2⟩ := g_best I ep c n (j + 1) o (by omega) (by omega) (by
          cases o with
          | none =>
            intro j' a' h1 h2
            by_cases e : j' = j
            · rw [e] at h2; rw [uq a' h2]; exact hh
            · exact hb j' a' (by omega) h2
          | some a0 =>
            obtain ⟨⟨j0, b0, b1⟩, b2, b3⟩ := hb
            refine ⟨⟨j0, by omega, b1⟩, b2, fun j' a' h1 h2 h3 => ?_⟩
            by_cases e : j' = j
            · rw [e] at h2; rw [uq a' h2, hh] at h3; cases h3
            · exact b3 j' a' (by omega) h2 h3)
        refine ⟨o', ?_, r2⟩
        rw [g_X6_best_5, if_neg hlt, rcv_s I.1, h_b1_s, l1, h_bd_s, if_neg (by decide), q5, h_b1_s, q6, h_b1_s, q1, h_b1_s, rcv_s q2.1, h_b1_s, hhas, h_bd_s, hh, if_pos (by rfl), nI_c1, r1]
      | true =>
        have pre : ∀ y, g_X6_best_5 (n + 1) σ (some (G 0 i)) ep (ms.1 1) o (nI j) = y ↔ (if o = none then h_b1 (h_gR σ (some (G 0 i)) 7 3) fun x21 => h_b1 (h_aR σ x21 103 (nI j)) fun x23 => g_X6_best_5 n σ (some (G 0 i)) ep (ms.1 1) x23 (nI (j + 1)) else h_b1 (h_gR σ (some (G 0 i)) 7 3) fun x25 => h_b1 (h_aR σ x25 103 (nI j)) fun x27 => h_b1 (h_gR σ x27 1 0) fun x29 => h_b1 (h_gI σ x29 5 1) fun x31 => h_b1 (h_gR σ o 1 0) fun x33 => h_b1 (h_gI σ x33 5 1) fun x35 => if x31 ≤ x35 then g_X6_best_5 n σ (some (G 0 i)) ep (ms.1 1) o (nI (j + 1)) else h_b1 (h_gR σ (some (G 0 i)) 7 3) fun x38 => h_b1 (h_aR σ x38 103 (nI j)) fun x40 => g_X6_best_5 n σ (some (G 0 i)) ep (ms.1 1) x40 (nI (j + 1))) = y := by
          intro y
          rw [g_X6_best_5, if_neg hlt, rcv_s I.1, h_b1_s, l1, h_bd_s, if_neg (by decide), q5, h_b1_s, q6, h_b1_s, q1, h_b1_s, rcv_s q2.1, h_b1_s, hhas, h_bd_s, hh, if_neg (by decide), nI_c1, q5]
        cases o with
        | none =>
          obtain ⟨o', r1, r2⟩ := g_best I ep c n (j + 1) (some a) (by omega) (by omega) ⟨⟨j, by omega, l2⟩, hh, fun j' a' h1 h2 h3 => by
            by_cases e : j' = j
            · rw [e] at h2; rw [uq a' h2]; exact Int32.le_refl _
            · have := hb j' a' (by omega) h2
              rw [h3] at this
              cases this⟩
          exact ⟨o', (pre _).mpr (by rw [if_pos rfl, q5, h_b1_s, q6, h_b1_s, r1]), r2⟩
        | some a0 =>
          obtain ⟨⟨j0, b0, b1⟩, b2, b3⟩ := id hb
          obtain ⟨u1, p0, c0, m0, w1, w2, w3, w4, -, -⟩ := ent_px I b1
          have gl : h_gI σ (some p) 5 1 = some (eV σ a).2.1 := by rw [gI_s q2.1, q2.2.2.1, q4]
          have gl0 : h_gI σ (some p0) 5 1 = some (eV σ a0).2.1 := by rw [gI_s w2.1, w2.2.2.1, w4]
          by_cases hle : (eV σ a).2.1 ≤ (eV σ a0).2.1
          · obtain ⟨o', r1, r2⟩ := g_best I ep c n (j + 1) (some a0) (by omega) (by omega) ⟨⟨j0, by omega, b1⟩, b2, fun j' a' h1 h2 h3 => by
              by_cases e : j' = j
              · rw [e] at h2; rw [uq a' h2]; exact hle
              · exact b3 j' a' (by omega) h2 h3⟩
            exact ⟨o', (pre _).mpr (by rw [if_neg (fun z => by cases z), q5, h_b1_s, q6, h_b1_s, q1, h_b1_s, gl, h_b1_s, w1, h_b1_s, gl0, h_b1_s, if_pos hle, r1]), r2⟩
          · obtain ⟨o', r1, r2⟩ := g_best I ep c n (j + 1) (some a) (by omega) (by omega) ⟨⟨j, by omega, l2⟩, hh, fun j' a' h1 h2 h3 => by
              by_cases e : j' = j
              · rw [e] at h2; rw [uq a' h2]; exact Int32.le_refl _
              · exact Int32.le_trans (b3 j' a' (by omega) h2 h3) (Int32.le_of_lt (Int32.not_le.mp hle))⟩
            exact ⟨o', (pre _).mpr (by rw [if_neg (fun z => by cases z), q5, h_b1_s, q6, h_b1_s, q1, h_b1_s, gl, h_b1_s, w1, h_b1_s, gl0, h_b1_s, if_neg hle, h_b1_s, q6, h_b1_s, r1]), r2⟩
end EN2
end
/-! from 88.entries3 -/
section
/-! ENTRIES: the best one, the piece round an endpoint -/
section EN3
variable {fx : Bool} {σ σ' : HS} {x : Nat} {G : Nat → Nat → Nat} {ms ms' : MS}
/-- r is, on the one side, what bo is on the other -/
def bRel (σ : HS) (e : Nat) (ms : MS) (i : Nat) (r bo : Option Nat) : Prop := match bo with
  | none => r = none
  | some k => (16 * i ≤ k ∧ k < 16 * i + 16) ∧ liveE ms k = true ∧ ∃ j a, r = some a ∧ at_ σ e (ms.1 1) j a ∧ eV σ a = eMv ms k
theorem hit_ag {ep : Int32} {k : Nat} (hL : Ln (ms.2.1 8 k)) : hitE ms ep k = (liveE ms k && ag (ln (eMv ms k).2.1) ep (eMv ms k).1) := by
  unfold hitE
  rw [ag_comm (Ln_nI hL).2]
  rfl
theorem c_best {i : Nat} (hi : i < 8) (I : SvR σ G ms i) (U : UE ms i) (hL : ∀ k, k < 128 → Ln (ms.2.1 8 k)) (ep : Int32) : ∃ r, f_X6_best σ (some (G 0 i)) ep (ms.1 1) = some (r, σ) ∧ bRel σ (G 1 i) ms i r (bestE ms ep i) := by
  obtain ⟨o, r1, r2⟩ := g_best I ep 16 h_hN 0 none rfl (h_hN_lt (by decide)) (fun j' a' h _ => absurd h (Nat.not_lt_zero _))
  refine ⟨o, r1, ?_⟩
  obtain ⟨b1, b2⟩ := bestE_spec ms ep i hi hL
  cases hb : bestE ms ep i with
  | none =>
    show o = none
    cases o with
    | none => rfl
    | some a =>
      obtain ⟨⟨j0, -, h1⟩, h2, -⟩ := r2
      obtain ⟨k, k1, k2, k3⟩ := ent_to I h1
      have := b2 hb k k1.1 k1.2
      rw [hit_ag (hL k (by omega)), k2, k3, h2] at this
      cases this
  | some k =>
    obtain ⟨g1, g2, g3⟩ := b1 k hb
    rw [hit_ag (hL k (by omega))] at g2
    obtain ⟨g4, g5⟩ := (Bool.and_eq_true _ _).mp g2
    obtain ⟨j1, a1, q1, q2⟩ := ent_of I g1 g4
    refine ⟨g1, g4, ?_⟩
    cases o with
    | none =>
      have := r2 j1 a1 (by have := q1.1; omega) q1
      rw [q2, g5] at this
      cases this
    | some a =>
      obtain ⟨⟨j0, -, h1⟩, h2, h3⟩ := r2
      obtain ⟨k2, l1, l2, l3⟩ := ent_to I h1
      have hle := h3 j1 a1 (by have := q1.1; omega) q1 (by rw [q2]; exact g5)
      have hle2 := g3 k2 l1.1 l1.2 (by rw [hit_ag (hL k2 (by omega)), l2, l3, h2]; rfl)
      obtain ⟨-, p, b, n, -, w2, w3, w4, -⟩ := ent_px I h1
      obtain ⟨-, p', b', n', -, y2, y3, y4, -⟩ := ent_px I q1
      have e8 : ms.2.1 8 k = nI n' := by rw [← y4, q2]; rfl
      have e82 : ms.2.1 8 k2 = nI n := by rw [← w4, ← l3]; rfl
      rw [e8, e82, ln_nI w2.2.2.2.1, ln_nI y2.2.2.2.1] at hle2
      rw [w4, y4] at hle
      have hge : n' ≤ n := Nat.le_of_not_lt (fun z => absurd hle (nI_ge z (by have := y2.2.2.2.1; omega)))
      have en : n = n' := by omega
      have hb2 : b = b' := by
        refine vb_eq w2.2.2.2.1 w2.2.2.2.2 (by rw [en]; exact y2.2.2.2.2) ?_
        have s1 : ag n ep b = true := by rw [w3, w4, ln_nI w2.2.2.2.1] at h2; exact h2
        have s2 : ag n ep b' = true := by
          rw [← q2, y3, y4, ln_nI y2.2.2.2.1] at g5
          rw [en]; exact g5
        exact ag_trans w2.2.2.2.1 (ag_symm w2.2.2.2.1 s1) s2
      have e7 : ms.2.1 7 k = b' := by rw [← y3, q2]; rfl
      have e72 : ms.2.1 7 k2 = b := by rw [← w3, ← l3]; rfl
      have ek : k2 = k := U k2 k l1.1 l1.2 g1.1 g1.2 l2 g4 (by rw [e72, e7, hb2]) (by rw [e82, e8, en])
      exact ⟨j0, a, rfl, h1, by rw [← l3, ek]⟩
/-- another entry lies round the endpoint -/
theorem c_other {i : Nat} (hi : i < 8) (I : SvR σ G ms i) (U : UE ms i) (hL : ∀ k, k < 128 → Ln (ms.2.1 8 k)) {n : Nat} (hn : n ≤ 32) (ep : Int32) {r bo : Option Nat} (hr : bRel σ (G 1 i) ms i r bo) : f_X6_hasOtherRound σ (some (G 0 i)) ep (nI n) r (ms.1 1) = some (b2i (ff (inE ms ep n bo) (16 * i) 16).isSome, σ) := by
  have key : ∀ (c m j : Nat), j + c = 16 → c < m → (g_X6_hasOtherRound_3 m σ (some (G 0 i)) ep (nI n) r (ms.1 1) (nI j) = some (0, σ) ∧ ∀ j' a, j ≤ j' → at_ σ (G 1 i) (ms.1 1) j' a → some a = r ∨ (decide (n ≤ ln (eV σ a).2.1) && ag n (eV σ a).1 ep) = false) ∨ (g_X6_hasOtherRound_3 m σ (some (G 0 i)) ep (nI n) r (ms.1 1) (nI j) = some (1, σ) ∧ ∃ j' a, at_ σ (G 1 i) (ms.1 1) j' a ∧ ¬ some a = r ∧ (decide (n ≤ ln (eV σ a).2.1) && ag n (eV σ a).1 ep) = true) := by
    intro c
    induction c with
    | zero =>
      intro m j hj hm
      obtain ⟨m', rfl⟩ : ∃ m', m = m' + 1 := ⟨m - 1, by omega⟩
      have : j = 16 := by omega
      subst this
      refine Or.inl ⟨by rw [g_X6_hasOtherRound_3, if_pos (show (16 : Int32) ≤ nI 16 by decide)], fun j' a h1 h2 => ?_⟩
      have := h2.1
      omega
    | succ c ih =>
      intro m j hj hm
      obtain ⟨m', rfl⟩ : ∃ m', m = m' + 1 := ⟨m - 1, by omega⟩
      have hlt : ¬ (16 : Int32) ≤ nI j := fun z => absurd (nI_lt (a := j) (b := 16) (by omega) (by decide)) (Int32.not_lt.mpr z)
      have go : ∀ {y}, g_X6_hasOtherRound_3 (m' + 1) σ (some (G 0 i)) ep (nI n) r (ms.1 1) (nI j) = y → g_X6_hasOtherRound_3 m' σ (some (G 0 i)) ep (nI n) r (ms.1 1) (nI (j + 1)) = y → (∀ a, at_ σ (G 1 i) (ms.1 1) j a → some a = r ∨ (decide (n ≤ ln (eV σ a).2.1) && ag n (eV σ a).1 ep) = false) → (g_X6_hasOtherRound_3 (m' + 1) σ (some (G 0 i)) ep (nI n) r (ms.1 1) (nI j) = some (0, σ) ∧ ∀ j' a, j ≤ j' → at_ σ (G 1 i) (ms.1 1) j' a → some a = r ∨ (decide (n ≤ ln (eV σ a).2.1) && ag n (eV σ a).1 ep) = false) ∨ (g_X6_hasOtherRound_3 (m' + 1) σ (some (G 0 i)) ep (nI n) r (ms.1 1) (nI j) = some (1, σ) ∧ ∃ j' a, at_ σ (G 1 i) (ms.1 1) j' a ∧ ¬ some a = r ∧ (decide (n ≤ ln (eV σ a).2.1) && ag n (eV σ a).1 ep) = true) := by
        intro y e1 e2 hno
        rcases ih m' (j + 1) (by omega) (by omega) with ⟨h1, h2⟩ | ⟨h1, h2⟩
        · refine Or.inl ⟨by rw [e1, ← e2, h1], fun j' a h3 h4 => ?_⟩
          by_cases e : j' = j
          · rw [e] at h4; exact hno a h4
          · exact h2 j' a (by omega) h4
        · exact Or.inr ⟨by rw [e1, ← e2, h1], h2⟩
      rcases live_at I (show j < 16 by omega) (ms.1 1) with ⟨l1, l2⟩ | ⟨l1, a, l2⟩
      · exact go (by rw [g_X6_hasOtherRound_3, if_neg hlt, rcv_s I.1, h_b1_s, l1, h_bd_s, if_pos rfl, nI_c1]) rfl (fun a h => absurd h (l2 a))
      · obtain ⟨t1, p, b, q, q1, q2, q3, q4, q5, q6⟩ := ent_px I l2
        have uq : ∀ a', at_ σ (G 1 i) (ms.1 1) j a' → a' = a := fun a' z => Option.some.inj (z.2.1.symm.trans l2.2.1)
        have hlr : f_X4_liesRound σ (some p) ep (nI n) = some (b2i (decide (n ≤ ln (eV σ a).2.1) && ag n (eV σ a).1 ep), σ) := by rw [liesRound_eq q2 ep hn, q3, q4, ln_nI q2.2.2.2.1]
        by_cases hra : some a = r
        · exact go (by rw [g_X6_hasOtherRound_3, if_neg hlt, rcv_s I.1, h_b1_s, l1, h_bd_s, if_neg (by decide), q5, h_b1_s, q6, h_b1_s, if_pos hra, nI_c1]) rfl (fun a' h => by rw [uq a' h]; exact Or.inl hra)
        · cases hc : (decide (n ≤ ln (eV σ a).2.1) && ag n (eV σ a).1 ep) with
          | false =>
            rw [hc] at hlr
            exact go (by rw [g_X6_hasOtherRound_3, if_neg hlt, rcv_s I.1, h_b1_s, l1, h_bd_s, if_neg (by decide), q5, h_b1_s, q6, h_b1_s, if_neg hra, h_b1_s, q6, h_b1_s, q1, h_b1_s, rcv_s q2.1, h_b1_s, hlr, h_bd_s, if_pos (by rfl), nI_c1]) rfl (fun a' h => by rw [uq a' h]; exact Or.inr hc)
          | true =>
            rw [hc] at hlr
            exact Or.inr ⟨by rw [g_X6_hasOtherRound_3, if_neg hlt, rcv_s I.1, h_b1_s, l1, h_bd_s, if_neg (by decide), q5, h_b1_s, q6, h_b1_s, if_neg hra, h_b1_s, q6, h_b1_s, q1, h_b1_s, rcv_s q2.1, h_b1_s, hlr, h_bd_s, if_neg (by decide)], j, a, l2, hra, hc⟩
  have hagc : ∀ k, k < 128 → (decide (n ≤ ln (ms.2.1 8 k)) && ag n ep (ms.2.1 7 k)) = (decide (n ≤ ln (eMv ms k).2.1) && ag n (eMv ms k).1 ep) := fun k _ => by rw [ag_comm (a := ep) hn]; rfl
  rcases key 16 h_hN 0 rfl (h_hN_lt (by decide)) with ⟨h1, h2⟩ | ⟨h1, j, a, h2, h3, h4⟩
  · have : ff (inE ms ep n bo) (16 * i) 16 = none := ff_none.mpr (fun k k1 k2 => by
      unfold inE
      cases hl : liveE ms k with
      | false => simp
      | true =>
        obtain ⟨j, a, q1, q2⟩ := ent_of I ⟨k1, k2⟩ hl
        rw [hagc k (by omega), ← q2]
        rcases h2 j a (Nat.zero_le _) q1 with e | e
        · have : bo = some k := by
            cases bo with
            | none =>
              have hr' : r = none := hr
              rw [hr'] at e
              cases e
            | some k0 =>
              obtain ⟨w1, w2, j0, a0, w3, w4, w5⟩ := hr
              rw [w3] at e
              have ea := Option.some.inj e
              have : eMv ms k = eMv ms k0 := by rw [← q2, ← w5, ea]
              rw [U k k0 k1 k2 w1.1 w1.2 hl w2 (congrArg (fun q => q.1) this) (congrArg (fun q => q.2.1) this)]
          rw [decide_eq_true this]
          rfl
        · rw [e]
          simp)
    rw [this]
    exact h1
  · have : (ff (inE ms ep n bo) (16 * i) 16).isSome = true := by
      obtain ⟨k, k1, k2, k3⟩ := ent_to I h2
      refine ff_isSome.mpr ⟨k, k1.1, k1.2, ?_⟩
      unfold inE
      rw [hagc k (by omega), k3, h4, k2]
      have : ¬ bo = some k := fun z => by
        rw [z] at hr
        obtain ⟨w1, w2, j0, a0, w3, w4, w5⟩ := hr
        have ej := ent_uq I U h2 w4 (by rw [← k3, w5]) (by rw [← k3, w5])
        subst ej
        have : a = a0 := Option.some.inj (h2.2.1.symm.trans w4.2.1)
        exact h3 (by rw [this, w3])
      rw [decide_eq_false this]
      rfl
    rw [this]
    exact h1
theorem c_round (B : N0 σ x) (hz : x + 1 ≤ h_cz σ) (hs : h_sl σ + 2 ≤ h_ck σ) (ep : Int32) {n : Nat} (hn : n ≤ 32) : f_X4_round σ ep (nI n) = some (some (x + 0), rpl x (pSp (ep &&& mk n) (nI n) 0 0) σ) := by
  have e1 : h_mk σ 5 2 = some (some (x + 0), rpl x [(0, 5, 0, 2, 0)] σ) := E_mk B (l := []) (l' := [(0, 5, 0, 2, 0)]) (c := 0) (w := 0) rfl rfl rfl (by omega) (by omega)
  unfold f_X4_round
  rw [e1, h_bd_s, mask_eq _ hn, h_bd_s, E_rcv B (l := [(0, 5, 0, 2, 0)]) (off := 0) (t := 5) rfl, h_b1_s]
  unfold f_X4_init
  rw [h_b1_s, E_pI B (l := [(0, 5, 0, 2, 0)]) (l' := [(2, 0, 0, 0, ep &&& mk n), (0, 5, 0, 2, 0)]) (off := 0) (t := 5) (k := 0) (v := ep &&& mk n) rfl rfl, h_b1_s, E_pI B (l := [(2, 0, 0, 0, ep &&& mk n), (0, 5, 0, 2, 0)]) (l' := [(2, 0, 1, 0, nI n), (2, 0, 0, 0, ep &&& mk n), (0, 5, 0, 2, 0)]) (off := 0) (t := 5) (k := 1) (v := nI n) rfl rfl, h_b1_s, h_bd_s]
  rfl
/-- the piece -/
theorem c_pie {i : Nat} (P : Rep fx σ x G ms) (Tt : Tr ms) (hi : i < 8) (hpr : pr ms i) (U : UE ms i) (hL : ∀ k, k < 128 → Ln (ms.2.1 8 k)) (hz : h_sz σ + 1 ≤ h_cz σ) (hs : h_sl σ + 2 ≤ h_ck σ) (ep : Int32) {r bo : Option Nat} (hr : bRel σ (G 1 i) ms i r bo) : ∀ (c m l : Nat), l + c = 32 → c < m → crowd ms i ep 32 bo = false → ∃ L, L ≤ 32 ∧ ff (fun n => !crowd ms i ep n bo) l (33 - l) = some L ∧ g_X8_piece_23 m σ (some (x + 1)) (some (G 0 i)) r ep (ms.1 1) (nI l) = some (some (h_sz σ + 0), rpl (h_sz σ) (pSp (ep &&& mk L) (nI L) 0 0) σ)
  | 0, 0, l, _, h, _ => absurd h (Nat.lt_irrefl 0)
  | c + 1, 0, l, _, h, _ => absurd h (Nat.not_lt_zero _)
  | 0, m + 1, l, hl, _, hcr => by
    have : l = 32 := by omega
    subst this
    refine ⟨32, by omega, ?_, ?_⟩
    · show (if (!crowd ms i ep 32 bo) = true then some 32 else ff _ 33 0) = some 32
      rw [hcr]; rfl
    · rw [g_X8_piece_23, if_pos (show (32 : Int32) ≤ nI 32 by decide), c_round P.n0 hz hs ep (by omega), h_bd_s]
  | c + 1, m + 1, l, hl, hm, hcr => by
    obtain ⟨-, I⟩ := (P.2.2.2.2.2.2.1.2.2 i hi).2 hpr
    have h1 := c_other hi I U hL (n := l) (by omega) ep hr
    have h2 := c_childRound P.2.1 P.2.2.2.2.2.2.1 Tt hi hpr (n := l) (by omega) ep
    have hlt : ¬ (32 : Int32) ≤ nI l := fun z => absurd (nI_lt (a := l) (b := 32) (by omega) (by decide)) (Int32.not_lt.mpr z)
    have hff : ff (fun n => !crowd ms i ep n bo) l (33 - l) = if (!crowd ms i ep l bo) = true then some l else ff (fun n => !crowd ms i ep n bo) (l + 1) (33 - (l + 1)) := by
      rw [show 33 - l = (33 - (l + 1)) + 1 by omega]
      rfl
    rw [hff]
    have hcd : crowd ms i ep l bo = ((ff (inE ms ep l bo) (16 * i) 16).isSome || (ff (inC ms i ep l) 0 8).isSome) := rfl
    cases he : (ff (inE ms ep l bo) (16 * i) 16).isSome with
    | true =>
      rw [he] at h1 hcd
      obtain ⟨L, L1, L2, L3⟩ := c_pie P Tt hi hpr U hL hz hs ep hr c m (l + 1) (by omega) (by omega) hcr
      refine ⟨L, L1, by rw [hcd, Bool.true_or, if_neg (by decide), L2], ?_⟩
      rw [g_X8_piece_23, if_neg hlt, rcv_s I.1, h_b1_s, h1, h_bd_s, if_neg (by decide), nI_c1, L3]
    | false =>
      rw [he] at h1 hcd
      cases hc : (ff (inC ms i ep l) 0 8).isSome with
      | true =>
        rw [hc] at h2 hcd
        obtain ⟨L, L1, L2, L3⟩ := c_pie P Tt hi hpr U hL hz hs ep hr c m (l + 1) (by omega) (by omega) hcr
        refine ⟨L, L1, by rw [hcd, Bool.false_or, if_neg (by decide), L2], ?_⟩
        rw [g_X8_piece_23, if_neg hlt, rcv_s I.1, h_b1_s, h1, h_bd_s, if_pos (by rfl), rcv_s P.2.1.2.2.1.1, h_b1_s, h2, h_bd_s, if_neg (by decide), nI_c1, L3]
      | false =>
        rw [hc] at h2 hcd
        refine ⟨l, by omega, by rw [hcd, Bool.false_or, if_pos (by rfl)], ?_⟩
        rw [g_X8_piece_23, if_neg hlt, rcv_s I.1, h_b1_s, h1, h_bd_s, if_pos (by rfl), rcv_s P.2.1.2.2.1.1, h_b1_s, h2, h_bd_s, if_pos (by rfl), c_round P.n0 hz hs ep (by omega), h_bd_s]
end EN3
end
