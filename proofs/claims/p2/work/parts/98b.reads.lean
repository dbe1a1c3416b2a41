/-! CALLS that read: truth, count -/
theorem filt_cnt {P : Nat → Bool} : ∀ (c i : Nat), ((List.range' i c).filter P).length = cnt P i c
  | 0, i => rfl
  | c + 1, i => by
    rw [List.range'_succ]
    show _ = (if P i = true then 1 else 0) + cnt P (i + 1) c
    by_cases h : P i = true
    · rw [List.filter_cons_of_pos h, List.length_cons, if_pos h, filt_cnt c (i + 1)]; omega
    · rw [List.filter_cons_of_neg h, if_neg h, filt_cnt c (i + 1)]; omega
theorem fo_cnt6 {P : Nat → Bool} : ∀ (c i a : Nat), fo (fun i a => a + cnt P (6 * i) 6) i c a = a + cnt P (6 * i) (6 * c)
  | 0, i, a => rfl
  | c + 1, i, a => by
    show fo (fun i a => a + cnt P (6 * i) 6) (i + 1) c (a + cnt P (6 * i) 6) = _
    rw [fo_cnt6 c (i + 1) (a + cnt P (6 * i) 6), show 6 * (c + 1) = 6 + 6 * c by omega, cnt_add, show 6 * (i + 1) = 6 * i + 6 by omega]
    omega
section RDC
variable {fx : Bool} {σ σ' : HS} {x : Nat} {G : Nat → Nat → Nat} {ms ms' : MS}
theorem c_siteNotes {s : Nat} (I : SiR fx σ G ms s) : f_X2_countThere σ (some (G 5 s)) (ms.1 1) = some (nI (cnt (liveN ms) (6 * s) 6), σ) := by
  obtain ⟨C, K, L, h1, h2, h3⟩ := I.ct
  rw [c_countThere K]
  have e1 := fa2_len _ _ h3
  have e2 := h1.length_eq
  rw [List.length_map] at e2
  have e3 : (lvI ms s).length = cnt (liveN ms) (6 * s) 6 := filt_cnt 6 (6 * s)
  rw [e1, e2, e3]
theorem c_countNotes (F : Fx σ x) (N : Nx σ x ms) (T : Tx fx σ x G ms) (hab : ∀ s, s < 8 → ms.2.1 14 s = -1 → cnt (liveN ms) (6 * s) 6 = 0) : f_X9_countNotes σ (some x) = some (nI (cnt (liveN ms) 0 48), σ) := by
  unfold f_X9_countNotes
  have key := lp_fold (S := Nat) (fun n a k => g_X9_countNotes_4 n σ (some x) (nI a) k) 8 (fun j a => a + cnt (liveN ms) (6 * j) 6) (fun a => some (nI a, σ)) (fun _ _ => True) (fun _ _ _ _ => trivial)
    (fun n a _ => by
      show g_X9_countNotes_4 (n + 1) σ (some x) (nI a) (nI 8) = _
      rw [g_X9_countNotes_4, if_pos (show (8 : Int32) ≤ nI 8 by decide)])
    (fun n j a hj _ => by
      show g_X9_countNotes_4 (n + 1) σ (some x) (nI a) (nI j) = g_X9_countNotes_4 n σ (some x) (nI (a + cnt (liveN ms) (6 * j) 6)) (nI (j + 1))
      obtain ⟨t0, ⟨-, r1, -⟩, -, -, ⟨t7, l7⟩, -⟩ := id F
      have e1 : h_gR σ (some x) 10 1 = some (some (x + 7)) := by rw [gR_s t0, r1]
      have e2 : h_aR σ (some (x + 7)) 108 (nI j) = some (h_rv σ (x + 7) j) := aR_s t7 l7 hj (by decide)
      rw [g_X9_countNotes_4, if_neg (show ¬ (8 : Int32) ≤ nI j from fun z => absurd (nI_lt (a := j) (b := 8) hj (by decide)) (Int32.not_lt.mpr z)), e1, h_b1_s, e2, h_b1_s, nI_c1]
      by_cases hp : ms.2.1 14 j = -1
      · rw [(T.2 j hj).1 hp, if_pos rfl, hab j hj hp]; rfl
      · obtain ⟨r3, I⟩ := (T.2 j hj).2 hp
        rw [r3, if_neg (fun z => by cases z), h_b1_s, e2, h_b1_s, r3, gR_s I.1, I.2.2.2.2.2.2.1.1, h_b1_s, gI_s t0, N.2.1, h_b1_s, rcv_s I.2.2.2.2.2.2.1.2, h_b1_s, c_siteNotes I, h_bd_s, nI_add]) 8 h_hN 0 0 trivial rfl (h_hN_lt (by decide))
  refine Eq.trans key ?_
  show some (nI (fo (fun i a => a + cnt (liveN ms) (6 * i) 6) 0 8 0), σ) = _
  rw [fo_cnt6 8 0 0, Nat.zero_add]
theorem k_count (h : Bt fx σ x ms) (hE : ∀ i, i < 8 → ms.2.1 3 i = 0 → cnt (liveE ms) (16 * i) 16 = 0) (hN : ∀ s, s < 8 → ms.2.1 14 s = -1 → cnt (liveN ms) (6 * s) 6 = 0) (w : Int32) : lcN (f_X9_count σ (some x) w) (fun τ => f_X10_count τ (some (x + 15)) w) (some x) (some (x + 15)) σ (fun τ => Bt fx τ x (okM ms) ∧ Gw 1 6 σ τ) := by
  obtain ⟨G, P⟩ := h.1
  exact stepN h (c_count P (c_countEntries P.2.1 P.2.2.2.2.2.2.1 hE) (c_countNotes P.2.1 P.2.2.1 P.2.2.2.2.2.2.2 hN) w) (p_count_eq ms w) rfl (q_X10_count h.2.1 w)
/-- the longest so far, and what the reference has of it -/
def lgR (σ : HS) (o : Option Nat) (q : Int32 × Int32) : Prop := match o with
  | none => q = (-1, -1)
  | some a => h_tg σ a = 1 ∧ h_iv σ a 1 = q.1 ∧ ∃ p b n, h_gR σ (some a) 1 0 = some (some p) ∧ hP σ p b n ∧ q.2 = nI n
theorem g_long (P : Rep fx σ x G ms) (hU : ∀ i, i < 8 → UE ms i) (hL : ∀ k, k < 128 → Ln (ms.2.1 8 k)) (hab : ∀ i, i < 8 → ms.2.1 3 i = 0 → ∀ k, 16 * i ≤ k → k < 16 * i + 16 → liveE ms k = false) (ep : Int32) : ∀ (c n j : Nat) (o : Option Nat) (q : Int32 × Int32), j + c = 8 → c < n → lgR σ o q → ∃ o', g_X8_longestEntry_5 n σ (some (x + 1)) ep (ms.1 1) o (nI j) = some (o', σ) ∧ lgR σ o' (fo (trS ms ep) j c q)
  | 0, 0, j, o, q, _, h, _ => absurd h (Nat.lt_irrefl 0)
  | c + 1, 0, j, o, q, _, h, _ => absurd h (Nat.not_lt_zero _)
  | 0, n + 1, j, o, q, hj, _, hr => by
    have : j = 8 := by omega
    subst this
    exact ⟨o, by rw [g_X8_longestEntry_5, if_pos (show (8 : Int32) ≤ nI 8 by decide)], hr⟩
  | c + 1, n + 1, j, o, q, hj, hn, hr => by
    have S := P.2.2.2.2.2.2.1
    obtain ⟨e1, e2⟩ := c_servers P.2.1 S (i := j) (by omega)
    have hlt : ¬ (8 : Int32) ≤ nI j := fun z => absurd (nI_lt (a := j) (b := 8) (by omega) (by decide)) (Int32.not_lt.mpr z)
    show ∃ o', _ ∧ lgR σ o' (fo (trS ms ep) (j + 1) c (trS ms ep j q))
    obtain ⟨b1, b2⟩ := bestE_spec ms ep j (by omega) hL
    by_cases hp : ms.2.1 3 j = 0
    · have hnone : bestE ms ep j = none := by
        cases hb : bestE ms ep j with
        | none => rfl
        | some k =>
          obtain ⟨g1, g2, -⟩ := b1 k hb
          unfold hitE at g2
          rw [hab j (by omega) hp k g1.1 g1.2] at g2
          cases g2
      have htr : trS ms ep j q = q := by unfold trS; rw [hnone]
      rw [htr]
      obtain ⟨o', r1, r2⟩ := g_long P hU hL hab ep c n (j + 1) o q (by omega) (by omega) hr
      refine ⟨o', ?_, r2⟩
      rw [g_X8_longestEntry_5, if_neg hlt, e1, h_b1_s, e2, h_b1_s, nI_c1, (S.2.2 j (by omega)).1 hp, if_pos rfl, if_pos rfl, r1]
    · obtain ⟨s1, I⟩ := (S.2.2 j (by omega)).2 hp
      obtain ⟨r, c1, c2⟩ := c_best (show j < 8 by omega) I (hU j (by omega)) hL ep
      have pre : ∀ {y}, (if r = none then g_X8_longestEntry_5 n σ (some (x + 1)) ep (ms.1 1) o (nI (j + 1)) else if o = none then g_X8_longestEntry_5 n σ (some (x + 1)) ep (ms.1 1) r (nI (j + 1)) else h_b1 (h_gR σ r 1 0) fun x18 => h_b1 (h_gI σ x18 5 1) fun x20 => h_b1 (h_gR σ o 1 0) fun x22 => h_b1 (h_gI σ x22 5 1) fun x24 => if x20 ≤ x24 then g_X8_longestEntry_5 n σ (some (x + 1)) ep (ms.1 1) o (nI (j + 1)) else g_X8_longestEntry_5 n σ (some (x + 1)) ep (ms.1 1) r (nI (j + 1))) = y → g_X8_longestEntry_5 (n + 1) σ (some (x + 1)) ep (ms.1 1) o (nI j) = y := by
        intro y hy
        rw [g_X8_longestEntry_5, if_neg hlt, e1, h_b1_s, e2, h_b1_s, nI_c1, s1, if_neg (fun z => by cases z), h_b1_s, e2, h_b1_s, s1, rcv_s I.1, h_b1_s, c1, h_bd_s]
        exact hy
      cases hb : bestE ms ep j with
      | none =>
        rw [hb] at c2
        have c2' : r = none := c2
        have htr : trS ms ep j q = q := by unfold trS; rw [hb]
        rw [htr]
        obtain ⟨o', r1, r2⟩ := g_long P hU hL hab ep c n (j + 1) o q (by omega) (by omega) hr
        exact ⟨o', pre (by rw [if_pos c2', r1]), r2⟩
      | some k =>
        rw [hb] at c2
        obtain ⟨g1, g2, j0, a, g3, g4, g5⟩ := c2
        obtain ⟨ta, pa, ba, na, w1, w2, w3, w4, -⟩ := ent_px I g4
        have e8 : ms.2.1 8 k = nI na := by rw [← w4, g5]; rfl
        have e9 : h_iv σ a 1 = ms.2.1 9 k := congrArg (fun q : E6 => q.2.2.1) g5
        have htr : trS ms ep j q = if q.2 < nI na then (ms.2.1 9 k, nI na) else q := by unfold trS; rw [hb]; show (if q.2 < ms.2.1 8 k then (ms.2.1 9 k, ms.2.1 8 k) else q) = _; rw [e8]
        rw [htr]
        have hnew : lgR σ (some a) (ms.2.1 9 k, nI na) := ⟨ta, e9, pa, ba, na, w1, w2, rfl⟩
        have gl : h_gI σ (some pa) 5 1 = some (nI na) := by rw [gI_s w2.1, w2.2.2.1]
        cases o with
        | none =>
          have hq : q = (-1, -1) := hr
          have hlt2 : q.2 < nI na := by
            rw [hq, Int32.lt_iff_toInt_lt, nI_toInt (by have := w2.2.2.2.1; omega)]
            show (-1 : Int32).toInt < _
            rw [show (-1 : Int32).toInt = -1 by decide]
            omega
          rw [if_pos hlt2]
          obtain ⟨o', r1, r2⟩ := g_long P hU hL hab ep c n (j + 1) (some a) _ (by omega) (by omega) hnew
          exact ⟨o', pre (by rw [if_neg (by rw [g3]; exact fun z => by cases z), if_pos rfl, g3, r1]), r2⟩
        | some a0 =>
          obtain ⟨u1, u2, p0, b0, n0, u3, u4, u5⟩ := id hr
          have gl0 : h_gI σ (some p0) 5 1 = some (nI n0) := by rw [gI_s u4.1, u4.2.2.1]
          by_cases hle : nI na ≤ nI n0
          · rw [if_neg (by rw [u5]; exact Int32.not_lt.mpr hle)]
            obtain ⟨o', r1, r2⟩ := g_long P hU hL hab ep c n (j + 1) (some a0) q (by omega) (by omega) hr
            exact ⟨o', pre (by rw [if_neg (by rw [g3]; exact fun z => by cases z), if_neg (fun z => by cases z), g3, w1, h_b1_s, gl, h_b1_s, u3, h_b1_s, gl0, h_b1_s, if_pos hle, r1]), r2⟩
          · rw [if_pos (by rw [u5]; exact Int32.not_le.mp hle)]
            obtain ⟨o', r1, r2⟩ := g_long P hU hL hab ep c n (j + 1) (some a) _ (by omega) (by omega) hnew
            exact ⟨o', pre (by rw [if_neg (by rw [g3]; exact fun z => by cases z), if_neg (fun z => by cases z), g3, w1, h_b1_s, gl, h_b1_s, u3, h_b1_s, gl0, h_b1_s, if_neg hle, r1]), r2⟩
theorem k_truth (h : Bt fx σ x ms) (hU : ∀ i, i < 8 → UE ms i) (hL : ∀ k, k < 128 → Ln (ms.2.1 8 k)) (hab : ∀ i, i < 8 → ms.2.1 3 i = 0 → ∀ k, 16 * i ≤ k → k < 16 * i + 16 → liveE ms k = false) (ep : Int32) : lcN (f_X9_truth σ (some x) ep) (fun τ => f_X10_truth τ (some (x + 15)) ep) (some x) (some (x + 15)) σ (fun τ => Bt fx τ x (okM ms) ∧ Gw 1 6 σ τ) := by
  obtain ⟨G, P⟩ := h.1
  have F := P.2.1
  obtain ⟨o, r1, r2⟩ := g_long P hU hL hab ep 8 h_hN 0 none (-1, -1) rfl (h_hN_lt (by decide)) rfl
  refine stepN h (v := (fo (trS ms ep) 0 8 (-1, -1)).1) ?_ (p_truth_eq ms ep hL) rfl (q_X10_truth h.2.1 ep)
  unfold f_X9_truth f_X8_longestEntry
  rw [gR_s F.1, F.2.1.1, h_b1_s, gI_s F.1, P.2.2.1.2.1, h_b1_s, rcv_s F.2.2.1.1, h_b1_s, show g_X8_longestEntry_5 h_hN σ (some (x + 1)) ep (ms.1 1) none 0 = some (o, σ) from r1, h_bd_s]
  cases o with
  | none =>
    have : fo (trS ms ep) 0 8 (-1, -1) = (-1, -1) := r2
    rw [if_pos rfl, this]
  | some a =>
    obtain ⟨t1, t2, -⟩ := r2
    rw [if_neg (fun z => by cases z), gI_s t1, t2, h_b1_s]
end RDC
