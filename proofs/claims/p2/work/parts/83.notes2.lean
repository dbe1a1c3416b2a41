/-! NOTES: find, count, lose, make -/
section NT2
variable {n e : Nat}
theorem c_nfind {σ : HS} {C : List Nat} (K : Ct σ n e C) (ep now : Int32) : ∀ (c m i : Nat), i + c = C.length → c < m → g_X2_find_2 m σ (some n) ep now (nI i) = some ((C.drop i).find? (fun a => nP now (nV σ a) && nHas ep (nV σ a)), σ)
  | 0, 0, i, _, h => absurd h (Nat.lt_irrefl 0)
  | c + 1, 0, i, _, h => absurd h (Nat.not_lt_zero _)
  | 0, m + 1, i, hi, _ => by
    obtain ⟨k1, k2, k3, k4, k5, k6, k7, k8⟩ := id K
    rw [g_X2_find_2, gI_s k1, k6, h_b1_s, if_pos (nI_le (a := C.length) (b := i) (by omega) (by omega)), List.drop_of_length_le (by omega)]
    rfl
  | c + 1, m + 1, i, hi, hm => by
    obtain ⟨k1, k2, k3, k4, k5, k6, k7, k8⟩ := id K
    obtain ⟨a, g1, g2, g3, g4, g5⟩ := K.get (i := i) (by omega)
    obtain ⟨p, p1, p2, p3, -⟩ := c_piece g3
    have ih := c_nfind K ep now c m (i + 1) (by omega) (by omega)
    rw [g_X2_find_2, gI_s k1, k6, h_b1_s, if_neg (nI_ge (a := i) (b := C.length) (by omega) (by omega)), g4, h_b1_s, g5, h_b1_s, rcv_s g3.1, h_b1_s, c_there g3, h_bd_s, (take_s g1).2, nI_c1]
    cases hl : nP now (nV σ a) with
    | false => rw [b2i_f, if_pos rfl, ih, List.find?_cons_of_neg (by rw [hl, Bool.false_and]; decide)]
    | true =>
      rw [b2i_t, if_neg (by decide), g4, h_b1_s, g5, h_b1_s, p1, h_b1_s, p2, h_b1_s, p3, h_bd_s]
      cases hh : nHas ep (nV σ a) with
      | false => rw [b2i_f, if_pos rfl, ih, List.find?_cons_of_neg (by rw [hl, hh]; decide)]
      | true => rw [b2i_t, if_neg (by decide), g4, h_b1_s, g5, h_b1_s, List.find?_cons_of_pos (by rw [hl, hh]; rfl)]
theorem c_find {σ : HS} {C : List Nat} (K : Ct σ n e C) (ep now : Int32) : f_X2_find σ (some n) ep now = some (C.find? (fun a => nP now (nV σ a) && nHas ep (nV σ a)), σ) := c_nfind K ep now C.length h_hN 0 (by omega) (h_hN_lt (by have := K.2.2.2.2.1; omega))
theorem c_ncount {σ : HS} {C : List Nat} (K : Ct σ n e C) (now : Int32) : ∀ (c m i b : Nat), i + c = C.length → c < m → g_X2_countThere_4 m σ (some n) now (nI b) (nI i) = some (nI (b + (((C.drop i).map (nV σ)).filter (nP now)).length), σ)
  | 0, 0, i, b, _, h => absurd h (Nat.lt_irrefl 0)
  | c + 1, 0, i, b, _, h => absurd h (Nat.not_lt_zero _)
  | 0, m + 1, i, b, hi, _ => by
    obtain ⟨k1, k2, k3, k4, k5, k6, k7, k8⟩ := id K
    rw [g_X2_countThere_4, gI_s k1, k6, h_b1_s, if_pos (nI_le (a := C.length) (b := i) (by omega) (by omega)), List.drop_of_length_le (by omega)]
    rfl
  | c + 1, m + 1, i, b, hi, hm => by
    obtain ⟨k1, k2, k3, k4, k5, k6, k7, k8⟩ := id K
    obtain ⟨a, g1, g2, g3, g4, g5⟩ := K.get (i := i) (by omega)
    rw [g_X2_countThere_4, gI_s k1, k6, h_b1_s, if_neg (nI_ge (a := i) (b := C.length) (by omega) (by omega)), g4, h_b1_s, g5, h_b1_s, rcv_s g3.1, h_b1_s, c_there g3, h_bd_s, (take_s g1).2, List.map_cons, nI_c1]
    cases hl : nP now (nV σ a) with
    | false => rw [b2i_f, if_pos rfl, c_ncount K now c m (i + 1) b (by omega) (by omega), List.filter_cons_of_neg (by rw [hl]; decide)]
    | true =>
      rw [b2i_t, if_neg (by decide), nI_c1, c_ncount K now c m (i + 1) (b + 1) (by omega) (by omega), List.filter_cons_of_pos hl, List.length_cons]
      congr 3
      omega
theorem c_countThere {σ : HS} {C : List Nat} (K : Ct σ n e C) (now : Int32) : f_X2_countThere σ (some n) now = some (nI ((C.map (nV σ)).filter (nP now)).length, σ) := by
  have := c_ncount K now C.length h_hN 0 0 (by omega) (h_hN_lt (by have := K.2.2.2.2.1; omega))
  rw [List.drop_zero, Nat.zero_add] at this
  exact this
/-- which stay when a SOLICIT has come -/
def keepL (ep pl now : Int32) (q : N5) : Bool := nP now q && !(nHas ep q && decide (q.2.2.1 = pl))
theorem c_nlose (hne : n ≠ e) (ep pl now : Int32) (V : Nat → N5) : ∀ (i m : Nat) (σ : HS) (C : List Nat), Ct σ n e C → (∀ a ∈ C, nV σ a = V a) → i ≤ C.length → i < m → ∃ σ', g_X2_lose_8 m σ (some n) ep pl now (nI i - 1) = some ((), σ') ∧ NW n e σ σ' ∧ Ct σ' n e (flt (fun a => keepL ep pl now (V a)) i C)
  | 0, 0, σ, C, _, _, _, h => absurd h (Nat.lt_irrefl 0)
  | i + 1, 0, σ, C, _, _, _, h => absurd h (Nat.not_lt_zero _)
  | 0, m + 1, σ, C, K, _, _, _ => ⟨σ, by rw [g_X2_lose_8, if_pos nI_01], NW.rf, K⟩
  | i + 1, m + 1, σ, C, K, hV, hi, hm => by
    obtain ⟨k1, k2, k3, k4, k5, k6, k7, k8⟩ := id K
    obtain ⟨a, g1, g2, g3, g4, g5⟩ := K.get (i := i) (by omega)
    obtain ⟨p, p1, p2, p3, -⟩ := c_piece g3
    have ea := hV a g2
    have hpl : h_gI σ (some a) 2 1 = some (V a).2.2.1 := by rw [gI_s g3.1, ← ea]; rfl
    have keep : keepL ep pl now (V a) = true → ∃ σ', g_X2_lose_8 m σ (some n) ep pl now (nI i - 1) = some ((), σ') ∧ NW n e σ σ' ∧ Ct σ' n e (flt (fun a => keepL ep pl now (V a)) (i + 1) C) := fun hk => by
      obtain ⟨σ', r1, r2, r3⟩ := c_nlose hne ep pl now V i m σ C K hV (by omega) (by omega)
      exact ⟨σ', r1, r2, by rw [flt_keep g1 hk]; exact r3⟩
    have out : keepL ep pl now (V a) = false → ∃ σ1 σ', f_X2_remove σ (some n) (nI i) = some ((), σ1) ∧ g_X2_lose_8 m σ1 (some n) ep pl now (nI i - 1) = some ((), σ') ∧ NW n e σ σ' ∧ Ct σ' n e (flt (fun a => keepL ep pl now (V a)) (i + 1) C) := fun hk => by
      obtain ⟨σ1, q1, q2, q3⟩ := c_nremove K hne (i := i) (by omega)
      have hlen : (C.eraseIdx i).length = C.length - 1 := List.length_eraseIdx_of_lt (by omega)
      obtain ⟨σ', r1, r2, r3⟩ := c_nlose hne ep pl now V i m σ1 (C.eraseIdx i) q3 (fun b hb => by
        have hb' := List.mem_of_mem_eraseIdx hb
        rw [(q2.ok k1 k3 (k8 b hb')).2]
        exact hV b hb') (by omega) (by omega)
      exact ⟨σ1, σ', q1, r1, q2.tr r2, by rw [flt_out g1 hk]; exact r3⟩
    rw [g_X2_lose_8, nI_s1, if_neg (nI_pos (by omega)), g4, h_b1_s, g5, h_b1_s, rcv_s g3.1, h_b1_s, c_there g3, h_bd_s, nI_m1, ea]
    cases hl : nP now (V a) with
    | false =>
      obtain ⟨σ1, σ', q1, r1, r2, r3⟩ := out (by unfold keepL; rw [hl]; rfl)
      refine ⟨σ', ?_, r2, r3⟩
      rw [b2i_f, if_pos rfl, rcv_s k1, h_b1_s, q1, h_bd_s, r1]
    | true =>
      rw [b2i_t, if_neg (by decide), g4, h_b1_s, g5, h_b1_s, p1, h_b1_s, p2, h_b1_s, p3, h_bd_s, ea]
      cases hh : nHas ep (V a) with
      | false =>
        obtain ⟨σ', r1, r2, r3⟩ := keep (by unfold keepL; rw [hl, hh]; rfl)
        exact ⟨σ', by rw [b2i_f, if_pos rfl, r1], r2, r3⟩
      | true =>
        rw [b2i_t, if_neg (by decide), g4, h_b1_s, g5, h_b1_s, hpl, h_b1_s]
        by_cases hq : (V a).2.2.1 = pl
        · obtain ⟨σ1, σ', q1, r1, r2, r3⟩ := out (by unfold keepL; rw [hl, hh, decide_eq_true hq]; rfl)
          refine ⟨σ', ?_, r2, r3⟩
          rw [if_pos hq, rcv_s k1, h_b1_s, q1, h_bd_s, r1]
        · obtain ⟨σ', r1, r2, r3⟩ := keep (by unfold keepL; rw [hl, hh, decide_eq_false hq]; rfl)
          exact ⟨σ', by rw [if_neg hq, r1], r2, r3⟩
theorem c_lose {σ : HS} {C : List Nat} (K : Ct σ n e C) (hne : n ≠ e) (ep pl now : Int32) : ∃ σ', f_X2_lose σ (some n) ep pl now = some ((), σ') ∧ NW n e σ σ' ∧ Ct σ' n e (C.filter (fun a => keepL ep pl now (nV σ a))) := by
  obtain ⟨σ', r1, r2, r3⟩ := c_nlose hne ep pl now (nV σ) C.length h_hN σ C K (fun _ _ => rfl) (Nat.le_refl _) (h_hN_lt (by have := K.2.2.2.2.1; omega))
  refine ⟨σ', ?_, r2, by rw [← flt_all]; exact r3⟩
  unfold f_X2_lose
  rw [gI_s K.1, K.2.2.2.2.2.1, h_b1_s]
  exact r1
/-- which stay when a note is made; then it comes -/
def keepM (b : Int32) (m : Nat) (now : Int32) (q : N5) : Bool := nP now q && !nMt b m q
def app (L : List Nat) (a : Nat) : List Nat := (if 6 ≤ L.length then L.eraseIdx 0 else L) ++ [a]
theorem c_append {σ : HS} {C : List Nat} {a : Nat} (K : Ct σ n e C) (hne : n ≠ e) (hlt : C.length < 6) (ha : nOk σ a) : ∃ σ', j_X2_make_68 σ (some n) (some a) = some ((), σ') ∧ NW n e σ σ' ∧ Ct σ' n e (C ++ [a]) := by
  obtain ⟨k1, k2, k3, k4, k5, k6, k7, k8⟩ := id K
  have e1 : h_sR σ (some e) 104 2 (nI C.length) (some a) = some (h_setR σ e C.length (some a)) := sR_s k3 k4 hlt (by decide) (decide_eq_true ha.1)
  have t1 : h_tg (h_setR σ e C.length (some a)) n = 3 := k1
  have v1 : h_iv (h_setR σ e C.length (some a)) n 1 = nI C.length := k6
  have W : NW n e σ (h_setI (h_setR σ e C.length (some a)) n 1 (nI (C.length + 1))) := NW_R.tr NW_I
  refine ⟨h_setI (h_setR σ e C.length (some a)) n 1 (nI (C.length + 1)), ?_, W, k1, ?_, k3, k4, by rw [List.length_append]; exact hlt, by rw [iv_sI, List.length_append]; rfl, fun j hj => ?_, fun q hq => ?_⟩
  · unfold j_X2_make_68
    rw [gR_s k1, k2, h_b1_s, gI_s k1, k6, h_b1_s, e1, h_b1_s, gI_s t1, v1, h_b1_s, nI_c1, pI_s t1, h_b1_s]
  · show h_rv (h_setR σ e C.length (some a)) n 0 = some e
    rw [(Sm_R hne).2.2.2.1]
    exact k2
  · rw [List.length_append] at hj
    show h_rv (h_setR σ e C.length (some a)) e j = _
    by_cases ej : j = C.length
    · rw [ej, rv_sR, List.getElem?_append_right (Nat.le_refl _), Nat.sub_self]
      rfl
    · have hj' : j < C.length := by simp only [List.length_singleton] at hj; omega
      rw [rv_sRk ej, k7 j hj', List.getElem?_append_left hj']
  · rcases List.mem_append.mp hq with h | h
    · exact (W.ok k1 k3 (k8 q h)).1
    · rw [List.mem_singleton.mp h]
      exact (W.ok k1 k3 ha).1
theorem c_nmake (hne : n ≠ e) {a1 p1 : Nat} {b : Int32} {mm : Nat} (now : Int32) (V : Nat → N5) : ∀ (i m : Nat) (σ : HS) (C : List Nat), Ct σ n e C → (∀ a ∈ C, nV σ a = V a) → nOk σ a1 → h_rv σ a1 0 = some p1 → hP σ p1 b mm → i ≤ C.length → i < m → ∃ σ', g_X2_make_7 m σ (some n) (some a1) now (nI i - 1) = some ((), σ') ∧ NW n e σ σ' ∧ Ct σ' n e (app (flt (fun a => keepM b mm now (V a)) i C) a1)
  | 0, 0, σ, C, _, _, _, _, _, _, h => absurd h (Nat.lt_irrefl 0)
  | i + 1, 0, σ, C, _, _, _, _, _, _, h => absurd h (Nat.not_lt_zero _)
  | 0, m + 1, σ, C, K, hV, ha, hp, hP1, _, _ => by
    obtain ⟨k1, k2, k3, k4, k5, k6, k7, k8⟩ := id K
    rw [g_X2_make_7, if_pos nI_01, gI_s k1, k6, h_b1_s, flt_0]
    unfold app
    by_cases h6 : 6 ≤ C.length
    · obtain ⟨σ1, q1, q2, q3⟩ := c_nremove K hne (i := 0) (by omega)
      have hlen : (C.eraseIdx 0).length = C.length - 1 := List.length_eraseIdx_of_lt (by omega)
      obtain ⟨σ', r1, r2, r3⟩ := c_append q3 hne (by omega) (q2.ok k1 k3 ha).1
      refine ⟨σ', ?_, q2.tr r2, by rw [if_pos h6]; exact r3⟩
      rw [if_neg (show ¬ nI C.length < 6 from nI_nlt (a := C.length) (b := 6) h6 (by omega)), rcv_s k1, h_b1_s, show f_X2_remove σ (some n) 0 = some ((), σ1) from q1, h_bd_s, r1]
    · obtain ⟨σ', r1, r2, r3⟩ := c_append K hne (by omega) ha
      refine ⟨σ', ?_, r2, by rw [if_neg h6]; exact r3⟩
      rw [if_pos (show nI C.length < 6 from nI_lt (a := C.length) (b := 6) (by omega) (by decide)), r1]
  | i + 1, m + 1, σ, C, K, hV, ha, hp, hP1, hi, hm => by
    obtain ⟨k1, k2, k3, k4, k5, k6, k7, k8⟩ := id K
    obtain ⟨a, g1, g2, g3, g4, g5⟩ := K.get (i := i) (by omega)
    obtain ⟨p, p1', p2, -, p4, -⟩ := c_piece g3
    have ea := hV a g2
    have hgr : h_gR σ (some a1) 2 0 = some (some p1) := by rw [gR_s ha.1, hp]
    have keep : keepM b mm now (V a) = true → ∃ σ', g_X2_make_7 m σ (some n) (some a1) now (nI i - 1) = some ((), σ') ∧ NW n e σ σ' ∧ Ct σ' n e (app (flt (fun a => keepM b mm now (V a)) (i + 1) C) a1) := fun hk => by
      obtain ⟨σ', r1, r2, r3⟩ := c_nmake hne now V i m σ C K hV ha hp hP1 (by omega) (by omega)
      exact ⟨σ', r1, r2, by rw [flt_keep g1 hk]; exact r3⟩
    have out : keepM b mm now (V a) = false → ∃ σ1 σ', f_X2_remove σ (some n) (nI i) = some ((), σ1) ∧ g_X2_make_7 m σ1 (some n) (some a1) now (nI i - 1) = some ((), σ') ∧ NW n e σ σ' ∧ Ct σ' n e (app (flt (fun a => keepM b mm now (V a)) (i + 1) C) a1) := fun hk => by
      obtain ⟨σ1, q1, q2, q3⟩ := c_nremove K hne (i := i) (by omega)
      have hlen : (C.eraseIdx i).length = C.length - 1 := List.length_eraseIdx_of_lt (by omega)
      have h25 : ∀ q, h_tg σ q = 2 ∨ h_tg σ q = 5 → Sm σ σ1 q := fun q hq => q2.1 q (fun z => by rw [z, k1] at hq; omega) (fun z => by rw [z, k3] at hq; omega)
      obtain ⟨σ', r1, r2, r3⟩ := c_nmake hne now V i m σ1 (C.eraseIdx i) q3 (fun b hb => by
        have hb' := List.mem_of_mem_eraseIdx hb
        rw [(q2.ok k1 k3 (k8 b hb')).2]
        exact hV b hb') (q2.ok k1 k3 ha).1 (by rw [(h25 a1 (Or.inl ha.1)).2.2.2.1]; exact hp) (hP1.to (h25 p1 (Or.inr hP1.1))) (by omega) (by omega)
      exact ⟨σ1, σ', q1, r1, q2.tr r2, by rw [flt_out g1 hk]; exact r3⟩
    rw [g_X2_make_7, nI_s1, if_neg (nI_pos (by omega)), g4, h_b1_s, g5, h_b1_s, rcv_s g3.1, h_b1_s, c_there g3, h_bd_s, nI_m1, ea]
    cases hl : nP now (V a) with
    | false =>
      obtain ⟨σ1, σ', q1, r1, r2, r3⟩ := out (by unfold keepM; rw [hl]; rfl)
      refine ⟨σ', ?_, r2, r3⟩
      rw [b2i_f, if_pos rfl, rcv_s k1, h_b1_s, q1, h_bd_s, r1]
    | true =>
      rw [b2i_t, if_neg (by decide), g4, h_b1_s, g5, h_b1_s, p1', h_b1_s, hgr, h_b1_s, p2, h_b1_s, p4 p1 b mm hP1, h_bd_s, ea]
      cases hh : nMt b mm (V a) with
      | false =>
        obtain ⟨σ', r1, r2, r3⟩ := keep (by unfold keepM; rw [hl, hh]; rfl)
        exact ⟨σ', by rw [b2i_f, if_pos rfl, r1], r2, r3⟩
      | true =>
        obtain ⟨σ1, σ', q1, r1, r2, r3⟩ := out (by unfold keepM; rw [hl, hh]; rfl)
        refine ⟨σ', ?_, r2, r3⟩
        rw [b2i_t, if_neg (by decide), rcv_s k1, h_b1_s, q1, h_bd_s, r1]
theorem c_make {σ : HS} {C : List Nat} (K : Ct σ n e C) (hne : n ≠ e) {a1 p1 : Nat} {b : Int32} {mm : Nat} (now : Int32) (ha : nOk σ a1) (hp : h_rv σ a1 0 = some p1) (hP1 : hP σ p1 b mm) : ∃ σ', f_X2_make σ (some n) (some a1) now = some ((), σ') ∧ NW n e σ σ' ∧ Ct σ' n e (app (C.filter (fun a => keepM b mm now (nV σ a))) a1) := by
  obtain ⟨σ', r1, r2, r3⟩ := c_nmake hne (a1 := a1) now (nV σ) C.length h_hN σ C K (fun _ _ => rfl) ha hp hP1 (Nat.le_refl _) (h_hN_lt (by have := K.2.2.2.2.1; omega))
  refine ⟨σ', ?_, r2, by rw [← flt_all]; exact r3⟩
  unfold f_X2_make
  rw [gI_s K.1, K.2.2.2.2.2.1, h_b1_s]
  exact r1
end NT2
