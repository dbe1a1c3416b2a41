/-! NOTES: a site's list of them, and what is done to it -/
theorem nI_s1 (i : Nat) : nI (i + 1) - 1 = nI i := by rw [nI_succ]; exact Int32.add_sub_cancel _ _
theorem nI_m1 (i : Nat) : nI i + (-1) = nI i - 1 := (Int32.sub_eq_add_neg _ _).symm
theorem nI_01 : nI 0 - 1 < 0 := by decide
/-- a note has the endpoint; it meets a prefix -/
def nHas (ep : Int32) (q : N5) : Bool := ag (ln q.2.1) ep q.1
def nMt (b : Int32) (n : Nat) (q : N5) : Bool := mtB q.1 (ln q.2.1) b n
theorem lL_list {α β : Type} {P : α → Bool} {g : β → α} {f : Nat → Option α} : ∀ (C : List β) (i : Nat), (∀ j, j < C.length → f (i + j) = (C[j]?).map g) → lL P f i C.length = (C.map g).filter P
  | [], i, _ => rfl
  | a :: C, i, h => by
    have h0 := h 0 (by simp)
    have ih := lL_list (P := P) (g := g) (f := f) C (i + 1) (fun j hj => by
      have := h (j + 1) (by simp only [List.length_cons]; omega)
      rw [show i + 1 + j = i + (j + 1) by omega, this, List.getElem?_cons_succ])
    rw [List.length_cons]
    unfold lL
    rw [Nat.add_zero, List.getElem?_cons_zero] at h0
    rw [h0]
    show (if P (g a) = true then g a :: lL P f (i + 1) C.length else lL P f (i + 1) C.length) = _
    rw [ih, List.map_cons]
    by_cases hp : P (g a) = true
    · rw [if_pos hp, List.filter_cons_of_pos hp]
    · rw [if_neg hp, List.filter_cons_of_neg hp]
/-- the cells of a list of notes -/
def Ct (σ : HS) (n e : Nat) (C : List Nat) : Prop := h_tg σ n = 3 ∧ h_rv σ n 0 = some e ∧ h_tg σ e = 104 ∧ h_ln σ e = 6 ∧ C.length ≤ 6 ∧ h_iv σ n 1 = nI C.length ∧ (∀ j, j < C.length → h_rv σ e j = C[j]?) ∧ ∀ a ∈ C, nOk σ a
/-- the list's own cells alone have changed -/
def NW (n e : Nat) (σ σ' : HS) : Prop := (∀ b, b ≠ n → b ≠ e → Sm σ σ' b) ∧ h_tg σ' = h_tg σ ∧ h_ln σ' = h_ln σ ∧ h_sz σ' = h_sz σ ∧ h_sl σ' = h_sl σ ∧ h_cz σ' = h_cz σ ∧ h_ck σ' = h_ck σ
theorem NW.rf {n e : Nat} {σ : HS} : NW n e σ σ := ⟨fun _ _ _ => Sm.rf, rfl, rfl, rfl, rfl, rfl, rfl⟩
theorem NW.tr {n e : Nat} {σ σ1 σ2 : HS} (h : NW n e σ σ1) (h' : NW n e σ1 σ2) : NW n e σ σ2 := by
  obtain ⟨a1, a2, a3, a4, a5, a6, a7⟩ := h
  obtain ⟨b1, b2, b3, b4, b5, b6, b7⟩ := h'
  exact ⟨fun b h1 h2 => (a1 b h1 h2).tr (b1 b h1 h2), b2.trans a2, b3.trans a3, b4.trans a4, b5.trans a5, b6.trans a6, b7.trans a7⟩
theorem NW_R {n e k : Nat} {σ : HS} {v : Option Nat} : NW n e σ (h_setR σ e k v) := ⟨fun _ _ h => Sm_R h, rfl, rfl, rfl, rfl, rfl, rfl⟩
theorem NW_I {n e k : Nat} {σ : HS} {v : Int32} : NW n e σ (h_setI σ n k v) := ⟨fun _ h _ => Sm_I h, rfl, rfl, rfl, rfl, rfl, rfl⟩
section NTS
variable {σ σ' : HS} {n e : Nat} {C : List Nat}
theorem NW.ok {a : Nat} (W : NW n e σ σ') (hn : h_tg σ n = 3) (he : h_tg σ e = 104) (h : nOk σ a) : nOk σ' a ∧ nV σ' a = nV σ a := h.to (fun b hb => W.1 b (fun z => by rw [z, hn] at hb; omega) (fun z => by rw [z, he] at hb; omega))
theorem c_there {a : Nat} (h : nOk σ a) (now : Int32) : f_X1_isThere σ (some a) now = some (b2i (nP now (nV σ a)), σ) := by
  unfold f_X1_isThere
  rw [gI_s h.1, h_b1_s]
  show (if h_iv σ a 3 ≤ now then some (0, σ) else some (1, σ)) = some (b2i (decide (now < h_iv σ a 3)), σ)
  by_cases hc : h_iv σ a 3 ≤ now
  · rw [if_pos hc, decide_eq_false (Int32.not_lt.mpr hc)]; rfl
  · rw [if_neg hc, decide_eq_true (Int32.not_le.mp hc)]; rfl
theorem c_piece {a : Nat} (h : nOk σ a) : ∃ p, h_gR σ (some a) 2 0 = some (some p) ∧ h_rcv σ (some p) 5 = some p ∧ (∀ ep, f_X4_has σ (some p) ep = some (b2i (nHas ep (nV σ a)), σ)) ∧ (∀ p' b m, hP σ p' b m → f_X4_meets σ (some p) (some p') = some (b2i (nMt b m (nV σ a)), σ)) ∧ h_gI σ (some p) 5 1 = some (nV σ a).2.1 := by
  obtain ⟨h1, p, b, m, h2, h3⟩ := h
  have ev : nV σ a = (b, nI m, h_iv σ a 1, h_iv σ a 2, h_iv σ a 3) := by
    unfold nV
    rw [h2]
    show (h_iv σ p 0, h_iv σ p 1, _) = _
    rw [h3.2.1, h3.2.2.1]
  refine ⟨p, by rw [gR_s h1, h2], rcv_s h3.1, fun ep => ?_, fun p' b' m' h' => ?_, ?_⟩
  · rw [has_eq h3, ev]
    unfold nHas
    rw [ln_nI h3.2.2.2.1]
  · rw [meets_eq h3 h', ev]
    unfold nMt
    rw [ln_nI h3.2.2.2.1]
  · rw [gI_s h3.1, h3.2.2.1, ev]
theorem Ct.get (K : Ct σ n e C) {i : Nat} (hi : i < C.length) : ∃ a, C[i]? = some a ∧ a ∈ C ∧ nOk σ a ∧ h_gR σ (some n) 3 0 = some (some e) ∧ h_aR σ (some e) 104 (nI i) = some (some a) := by
  obtain ⟨k1, k2, k3, k4, k5, k6, k7, k8⟩ := K
  have hg := List.getElem?_eq_getElem hi
  refine ⟨C[i], hg, List.getElem_mem hi, k8 _ (List.getElem_mem hi), by rw [gR_s k1, k2], ?_⟩
  rw [aR_s k3 k4 (show i < 6 by omega) (by decide), k7 i hi, hg]
/-- one is taken out: those behind it move up -/
theorem g_nremove {i : Nat} : ∀ (c m l : Nat) (σ1 : HS), l + c + 1 = C.length → c < m → i ≤ l → (h_tg σ1 n = 3 ∧ h_rv σ1 n 0 = some e ∧ h_tg σ1 e = 104 ∧ h_ln σ1 e = 6 ∧ h_iv σ1 n 1 = nI C.length) → C.length ≤ 6 → n ≠ e → (∀ a ∈ C, h_tg σ1 a = 2) → (∀ j, j < C.length → h_rv σ1 e j = if i ≤ j ∧ j < l then C[j + 1]? else C[j]?) → ∃ σ', g_X2_remove_2 m σ1 (some n) (nI l) = some ((), σ') ∧ NW n e σ1 σ' ∧ h_rv σ' n 0 = some e ∧ h_iv σ' n 1 = nI (C.length - 1) ∧ ∀ j, j + 1 < C.length → h_rv σ' e j = if i ≤ j then C[j + 1]? else C[j]?
  | 0, 0, l, σ1, _, h, _, _, _, _, _, _ => absurd h (Nat.lt_irrefl 0)
  | c + 1, 0, l, σ1, _, h, _, _, _, _, _, _ => absurd h (Nat.not_lt_zero _)
  | 0, m + 1, l, σ1, hl, _, hil, ⟨k1, k2, k3, k4, k5⟩, k6, hne, _, hv => by
    have e1 : nI C.length - 1 = nI l := by rw [show C.length = l + 1 by omega, nI_s1]
    refine ⟨h_setI σ1 n 1 (nI l), ?_, NW_I, k2, by rw [iv_sI]; congr 1; omega, fun j hj => ?_⟩
    · rw [g_X2_remove_2, gI_s k1, k5, h_b1_s, e1, if_pos (Int32.le_refl _), h_b1_s, e1, pI_s k1, h_b1_s]
    · show h_rv σ1 e j = _
      rw [hv j (by omega)]
      by_cases hij : i ≤ j
      · rw [if_pos ⟨hij, by omega⟩, if_pos hij]
      · rw [if_neg (fun z => hij z.1), if_neg hij]
  | c + 1, m + 1, l, σ1, hl, hm, hil, ⟨k1, k2, k3, k4, k5⟩, k6, hne, ht, hv => by
    have e1 : nI C.length - 1 = nI (C.length - 1) := by rw [show C.length = (C.length - 1) + 1 by omega, nI_s1]; rfl
    have hr1 : h_rv σ1 e (l + 1) = C[l + 1]? := by rw [hv (l + 1) (by omega), if_neg (fun z => by omega)]
    have hg := List.getElem?_eq_getElem (l := C) (i := l + 1) (by omega)
    have e3 : h_aR σ1 (some e) 104 (nI (l + 1)) = some (some C[l + 1]) := by rw [aR_s k3 k4 (by omega) (by decide), hr1, hg]
    have e4 : h_sR σ1 (some e) 104 2 (nI l) (some C[l + 1]) = some (h_setR σ1 e l (some C[l + 1])) := sR_s k3 k4 (by omega) (by decide) (decide_eq_true (ht _ (List.getElem_mem _)))
    have step : g_X2_remove_2 (m + 1) σ1 (some n) (nI l) = g_X2_remove_2 m (h_setR σ1 e l (some C[l + 1])) (some n) (nI (l + 1)) := by
      rw [g_X2_remove_2, gI_s k1, k5, h_b1_s, e1, if_neg (nI_ge (a := l) (b := C.length - 1) (by omega) (by omega)), gR_s k1, k2, h_b1_s, h_b1_s, nI_c1, e3, h_b1_s, e4, h_b1_s]
    obtain ⟨σ', r1, r2, r3, r4, r5⟩ := g_nremove (i := i) c m (l + 1) (h_setR σ1 e l (some C[l + 1])) (by omega) (by omega) (by omega) ⟨k1, by rw [(Sm_R hne).2.2.2.1]; exact k2, k3, k4, k5⟩ k6 hne ht (fun j hj => by
      by_cases ej : j = l
      · rw [ej, rv_sR, if_pos ⟨hil, by omega⟩, hg]
      · rw [rv_sRk ej, hv j hj]
        by_cases hij : i ≤ j ∧ j < l
        · rw [if_pos hij, if_pos ⟨hij.1, by omega⟩]
        · rw [if_neg hij, if_neg (fun z => hij ⟨z.1, by omega⟩)])
    exact ⟨σ', step.trans r1, NW_R.tr r2, r3, r4, r5⟩
theorem c_nremove (K : Ct σ n e C) (hne : n ≠ e) {i : Nat} (hi : i < C.length) : ∃ σ', f_X2_remove σ (some n) (nI i) = some ((), σ') ∧ NW n e σ σ' ∧ Ct σ' n e (C.eraseIdx i) := by
  obtain ⟨k1, k2, k3, k4, k5, k6, k7, k8⟩ := id K
  obtain ⟨σ', r1, r2, r3, r4, r5⟩ := g_nremove (i := i) (C := C) (C.length - 1 - i) h_hN i σ (by omega) (h_hN_lt (by omega)) (Nat.le_refl i) ⟨k1, k2, k3, k4, k6⟩ k5 hne (fun a ha => (k8 a ha).1) (fun j hj => by rw [if_neg (fun z => by omega)]; exact k7 j hj)
  have hlen : (C.eraseIdx i).length = C.length - 1 := List.length_eraseIdx_of_lt hi
  refine ⟨σ', r1, r2, by rw [r2.2.1]; exact k1, r3, by rw [r2.2.1]; exact k3, by rw [r2.2.2.1]; exact k4, by omega, by rw [r4, hlen], fun j hj => ?_, fun a ha => (r2.ok k1 k3 (k8 a (List.mem_of_mem_eraseIdx ha))).1⟩
  rw [r5 j (by omega), List.getElem?_eraseIdx]
  by_cases hij : j < i
  · rw [if_neg (by omega), if_pos hij]
  · rw [if_pos (by omega), if_neg hij]
/-- the list with those before the i-th that P lets stay -/
def flt (P : Nat → Bool) (i : Nat) (C : List Nat) : List Nat := (C.take i).filter P ++ C.drop i
theorem flt_0 {P : Nat → Bool} {C : List Nat} : flt P 0 C = C := rfl
theorem take_s {C : List Nat} {i a : Nat} (h : C[i]? = some a) : C.take (i + 1) = C.take i ++ [a] ∧ C.drop i = a :: C.drop (i + 1) := by
  obtain ⟨hi, he⟩ := List.getElem?_eq_some_iff.mp h
  exact ⟨by rw [List.take_succ, h]; rfl, by rw [List.drop_eq_getElem_cons hi, he]⟩
theorem flt_keep {P : Nat → Bool} {C : List Nat} {i a : Nat} (h : C[i]? = some a) (hp : P a = true) : flt P (i + 1) C = flt P i C := by
  unfold flt
  rw [(take_s h).1, (take_s h).2, List.filter_append, List.filter_cons_of_pos hp, List.filter_nil, List.append_assoc]
  rfl
theorem flt_out {P : Nat → Bool} {C : List Nat} {i a : Nat} (h : C[i]? = some a) (hp : P a = false) : flt P (i + 1) C = flt P i (C.eraseIdx i) := by
  obtain ⟨hi, he⟩ := List.getElem?_eq_some_iff.mp h
  unfold flt
  rw [(take_s h).1, List.filter_append, List.filter_cons_of_neg (by rw [hp]; decide), List.filter_nil, List.append_nil, List.eraseIdx_eq_take_drop_succ]
  congr 1
  · rw [List.take_append_of_le_length (by rw [List.length_take]; omega), List.take_take, Nat.min_self]
  · rw [List.drop_append_of_le_length (by rw [List.length_take]; omega), List.drop_take, Nat.sub_self, List.take_zero, List.nil_append]
theorem flt_all {P : Nat → Bool} {C : List Nat} : flt P C.length C = C.filter P := by
  unfold flt
  rw [List.take_length, List.drop_length, List.append_nil]
end NTS
