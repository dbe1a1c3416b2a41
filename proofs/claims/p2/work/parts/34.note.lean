/-! THE REFERENCE'S makeNote and replied, over numbers -/
def mtN (ms : MS) (b : Int32) (n k : Nat) : Bool := (decide (n ≤ ln (ms.2.1 20 k)) && ag n b (ms.2.1 19 k)) || (decide (ln (ms.2.1 20 k) ≤ n) && ag (ln (ms.2.1 20 k)) (ms.2.1 19 k) b)
def clr (b : Int32) (n : Nat) (i : Nat) (ms : MS) : MS := if mtN ms b n i = true then aS ms 23 i 0 else ms
theorem clr_k {b : Int32} {n i k j : Nat} {ms : MS} (h : k ≠ 23) : (clr b n i ms).2.1 k j = ms.2.1 k j := by
  unfold clr
  split
  · rw [aS_k h]
  · rfl
theorem clr_mt {b : Int32} {n i k : Nat} {ms : MS} : mtN (clr b n i ms) b n k = mtN ms b n k := by
  unfold mtN
  rw [clr_k (by decide), clr_k (by decide)]
theorem clr_fo (b : Int32) (n : Nat) : ∀ (c i : Nat) (s : MS), fo (clr b n) i c s = rW s 23 (fun k => if (i ≤ k ∧ k < i + c) ∧ mtN s b n k = true then 0 else s.2.1 23 k)
  | 0, i, s => by
    show s = _
    unfold rW h_upA
    refine Prod.ext rfl (Prod.ext ?_ rfl)
    funext k j
    dsimp only
    by_cases hk : k = 23
    · subst hk; rw [if_pos rfl, if_neg (fun z => by omega)]
    · rw [if_neg hk]
  | c + 1, i, s => by
    show fo (clr b n) (i + 1) c (clr b n i s) = _
    rw [clr_fo b n c (i + 1) (clr b n i s)]
    unfold rW h_upA
    have e1 : (clr b n i s).1 = s.1 := by unfold clr; split <;> rfl
    have e2 : (clr b n i s).2.2 = s.2.2 := by unfold clr; split <;> rfl
    refine Prod.ext e1 (Prod.ext ?_ e2)
    funext k j
    dsimp only
    by_cases hk : k = 23
    · subst hk
      rw [if_pos rfl, if_pos rfl, clr_mt]
      by_cases h1 : (i + 1 ≤ j ∧ j < i + 1 + c) ∧ mtN s b n j = true
      · rw [if_pos h1, if_pos ⟨by omega, h1.2⟩]
      · rw [if_neg h1]
        unfold clr
        by_cases h2 : j = i
        · subst h2
          by_cases h3 : mtN s b n j = true
          · rw [if_pos h3, aS_s, if_pos ⟨by omega, h3⟩]
          · rw [if_neg h3, if_neg (fun z => h3 z.2)]
        · rw [if_neg (show ¬((i ≤ j ∧ j < i + (c + 1)) ∧ mtN s b n j = true) from fun z => h1 ⟨by have := z.1; omega, z.2⟩)]
          split
          · rw [aS_j h2]
          · rfl
    · rw [if_neg hk, if_neg hk, clr_k hk]
def clrM (ms : MS) (s : Nat) (b : Int32) (n : Nat) : MS := rW ms 23 (fun k => if (6 * s ≤ k ∧ k < 6 * s + 6) ∧ mtN ms b n k = true then 0 else ms.2.1 23 k)
/-- the end of a note, 0 if it has gone -/
def efN (ms : MS) (k : Nat) : Int32 := if ms.2.1 23 k ≤ ms.1 1 then 0 else ms.2.1 23 k
def beN (ms : MS) (i t : Nat) : Bool := decide (efN ms i < efN ms t) || (decide (efN ms i = efN ms t) && (decide (0 < efN ms i) && decide (ms.2.1 24 i < ms.2.1 24 t)))
def pkN (ms : MS) (i : Nat) (o : Option Nat) : Option Nat := match o with
  | none => some i
  | some t => if beN ms i t = true then some i else some t
def notM (ms : MS) (t : Nat) (b l pl v : Int32) : MS := aS (aS (aS (aS (aS (aS (k_pI ms 25 (ms.1 25 + 1)) 19 t b) 20 t l) 21 t pl) 22 t v) 23 t (ms.1 1 + 60)) 24 t (ms.1 25 + 1)
def mnM (ms : MS) (s : Nat) (b l pl v : Int32) : MS := match fo (pkN (clrM ms s b (ln l))) (6 * s) 6 none with
  | some t => notM (clrM ms s b (ln l)) t b l pl v
  | none => ms
set_option maxHeartbeats 4000000 in
theorem pg_mk2 (ms : MS) {s : Nat} (hs : s < 8) (b l pl v : Int32) : pg_X10_makeNote_97 h_hN ms (nI s) b l pl v (-1) (6 * nI s) = (match fo (pkN ms) (6 * s) 6 none with
    | some t => some ((), notM ms t b l pl v)
    | none => none) := by
  have key := lp_fold (S := Option Nat) (fun n o k => pg_X10_makeNote_97 n ms (nI s) b l pl v (o2i o) k) (6 * s + 6) (pkN ms) (fun o => match o with
      | some t => some ((), notM ms t b l pl v)
      | none => none) (fun i o => (∀ j, o = some j → j < i) ∧ (6 * s < i → o ≠ none))
    (fun i o hi ho => by
      unfold pkN
      cases o with
      | none => exact ⟨fun j hj => by cases hj; omega, fun _ z => by cases z⟩
      | some t =>
        have := ho.1 t rfl
        dsimp only
        split
        · exact ⟨fun j hj => by cases hj; omega, fun _ z => by cases z⟩
        · exact ⟨fun j hj => by cases hj; omega, fun _ z => by cases z⟩)
    (fun n o ho => by
      show pg_X10_makeNote_97 (n + 1) ms (nI s) b l pl v (o2i o) (nI (6 * s + 6)) = _
      rw [pg_X10_makeNote_97, nI_m6, nI_a6, if_pos (Int32.le_refl _)]
      cases o with
      | none => exact absurd rfl (ho.2 (by omega))
      | some t =>
        have ht := ho.1 t rfl
        simp only [k_lt]
        show h_b1 (k_sI _ 19 (nI t) b) _ = _
        rw [k_sI_n (show t < k_len 19 by show t < 48; omega), h_b1_s]
        show h_b1 (k_sI _ 20 (nI t) l) _ = _
        rw [k_sI_n (show t < k_len 20 by show t < 48; omega), h_b1_s]
        show h_b1 (k_sI _ 21 (nI t) pl) _ = _
        rw [k_sI_n (show t < k_len 21 by show t < 48; omega), h_b1_s]
        show h_b1 (k_sI _ 22 (nI t) v) _ = _
        rw [k_sI_n (show t < k_len 22 by show t < 48; omega), h_b1_s]
        show h_b1 (k_sI _ 23 (nI t) _) _ = _
        rw [k_sI_n (show t < k_len 23 by show t < 48; omega), h_b1_s]
        show h_b1 (k_sI _ 24 (nI t) _) _ = _
        rw [k_sI_n (show t < k_len 24 by show t < 48; omega), h_b1_s]
        rfl)
    (fun n i o hi ho => by
      show pg_X10_makeNote_97 (n + 1) ms (nI s) b l pl v (o2i o) (nI i) = pg_X10_makeNote_97 n ms (nI s) b l pl v (o2i (pkN ms i o)) (nI (i + 1))
      have hi48 : i < 48 := by omega
      rw [pg_X10_makeNote_97, nI_m6, nI_a6, if_neg (nI_ge hi (by omega)), k_aI_nI (show i < k_len 23 from hi48), k_aI_nI (show i < k_len 24 from hi48), nI_1]
      simp only [h_b1_s]
      unfold pkN
      cases o with
      | none =>
        rw [show o2i none = -1 from rfl]
        simp only [if_true]
        by_cases h1 : ms.2.1 23 i ≤ ms.1 1
        · rw [if_pos h1]; rfl
        · rw [if_neg h1]; rfl
      | some t =>
        have ht := ho.1 t rfl
        have ht48 : t < 48 := by omega
        rw [show o2i (some t) = nI t from rfl, k_aI_nI (show t < k_len 23 from ht48), k_aI_nI (show t < k_len 24 from ht48)]
        have hne := nI_ne_m1 (t := t) (by omega)
        simp only [h_b1_s, if_neg hne]
        unfold beN efN
        by_cases h1 : ms.2.1 23 i ≤ ms.1 1
        · rw [if_pos h1, if_pos h1]
          by_cases h2 : ms.2.1 23 t ≤ ms.1 1
          · simp only [if_pos h2]
            simp
            rfl
          · simp only [if_neg h2]
            by_cases h3 : 0 < ms.2.1 23 t
            · simp [h3]; rfl
            · by_cases h4 : 0 = ms.2.1 23 t
              · simp [h3, ← h4]; rfl
              · simp [h3, h4]; rfl
        · rw [if_neg h1, if_neg h1]
          by_cases h2 : ms.2.1 23 t ≤ ms.1 1
          · simp only [if_pos h2]
            by_cases h3 : ms.2.1 23 i < 0
            · simp [h3]; rfl
            · by_cases h4 : ms.2.1 23 i = 0
              · simp [h4]; rfl
              · simp [h3, h4]; rfl
          · simp only [if_neg h2]
            by_cases h3 : ms.2.1 23 i < ms.2.1 23 t
            · simp [h3]; rfl
            · by_cases h4 : ms.2.1 23 i = ms.2.1 23 t
              · by_cases h5 : ms.2.1 23 i ≤ 0
                · have h5' : ms.2.1 23 t ≤ 0 := by rw [← h4]; exact h5
                  simp [h4, h5', Int32.not_lt.mpr h5']; rfl
                · have h5' : ¬ ms.2.1 23 t ≤ 0 := by rw [← h4]; exact h5
                  by_cases h6 : ms.2.1 24 t ≤ ms.2.1 24 i
                  · simp [h4, h5', h6, Int32.not_lt.mpr h6]; rfl
                  · simp [h4, h5', h6, Int32.not_le.mp h6, Int32.not_le.mp h5']; rfl
              · simp [h3, h4]; rfl)
    6 h_hN (6 * s) none ⟨fun j hj => (by cases hj), fun z => by omega⟩ rfl (h_hN_lt (by omega))
  rw [nI_m6]
  exact key
theorem fo_pk (ms : MS) (s : Nat) : ∃ t, fo (pkN ms) (6 * s) 6 none = some t ∧ 6 * s ≤ t ∧ t < 6 * s + 6 ∧ ∀ k, 6 * s ≤ k → k < 6 * s + 6 → beN ms k t = false ∨ True := by
  have := fo_inv (step := pkN ms) (c := 6) (i := 6 * s) (s := none) (fun i o => (∀ j, o = some j → 6 * s ≤ j ∧ j < i) ∧ (6 * s < i → o ≠ none)) (fun i o h1 h2 ho => by
      unfold pkN
      cases o with
      | none => exact ⟨fun j hj => by cases hj; omega, fun _ z => by cases z⟩
      | some t =>
        have := ho.1 t rfl
        dsimp only
        split
        · exact ⟨fun j hj => by cases hj; omega, fun _ z => by cases z⟩
        · exact ⟨fun j hj => by cases hj; omega, fun _ z => by cases z⟩) ⟨fun j hj => (by cases hj), fun z => by omega⟩
  cases ho : fo (pkN ms) (6 * s) 6 none with
  | none => rw [ho] at this; exact absurd rfl (this.2 (by omega))
  | some t =>
    rw [ho] at this
    have h := this.1 t rfl
    exact ⟨t, rfl, h.1, h.2, fun _ _ _ => Or.inr trivial⟩
theorem p_makeNote_eq (ms : MS) {s : Nat} (hs : s < 8) {b l : Int32} (pl v : Int32) (hl : Ln l) (hL : ∀ k, k < 48 → Ln (ms.2.1 20 k)) : p_X10_makeNote ms (nI s) b l pl v = some ((), mnM ms s b l pl v) := by
  unfold p_X10_makeNote
  obtain ⟨el, hl32⟩ := Ln_nI hl
  have key := lp_fold (S := MS) (fun n q k => pg_X10_makeNote_9 n q (nI s) b l pl v (-1) k) (6 * s + 6) (clr b (ln l)) (fun q => pg_X10_makeNote_97 h_hN q (nI s) b l pl v (-1) (6 * nI s)) (fun _ q => ∀ k, k < 48 → Ln (q.2.1 20 k))
    (fun i q hi hq k hk => by rw [clr_k (by decide)]; exact hq k hk)
    (fun n q hq => by
      show pg_X10_makeNote_9 (n + 1) q (nI s) b l pl v (-1) (nI (6 * s + 6)) = _
      rw [pg_X10_makeNote_9, nI_m6, nI_a6, if_pos (Int32.le_refl _)])
    (fun n i q hi hq => by
      show pg_X10_makeNote_9 (n + 1) q (nI s) b l pl v (-1) (nI i) = pg_X10_makeNote_9 n (clr b (ln l) i q) (nI s) b l pl v (-1) (nI (i + 1))
      have hi48 : i < 48 := by omega
      rw [pg_X10_makeNote_9, nI_m6, nI_a6, if_neg (nI_ge hi (by omega)), k_aI_nI (show i < k_len 19 from hi48), h_b1_s, k_aI_nI (show i < k_len 20 from hi48), h_b1_s, p_holds_L q _ _ hl (hq i hi48), nI_1]
      simp only [k_bd_s]
      unfold clr mtN
      cases h1 : (decide (ln l ≤ ln (q.2.1 20 i)) && ag (ln l) b (q.2.1 19 i))
      · rw [if_pos (show b2i false = 0 from rfl), k_aI_nI (show i < k_len 19 from hi48), h_b1_s, k_aI_nI (show i < k_len 20 from hi48), h_b1_s, p_holds_L q _ _ (hq i hi48) hl]
        simp only [k_bd_s, Bool.false_or]
        cases h2 : (decide (ln (q.2.1 20 i) ≤ ln l) && ag (ln (q.2.1 20 i)) (q.2.1 19 i) b)
        · rw [if_pos (show b2i false = 0 from rfl)]; rfl
        · rw [if_neg (by decide), if_neg (by decide), k_sI_n (show i < k_len 23 from hi48), h_b1_s]; rfl
      · rw [if_neg (by decide), if_neg (by decide), k_sI_n (show i < k_len 23 from hi48), h_b1_s]; rfl)
    6 h_hN (6 * s) ms hL rfl (h_hN_lt (by omega))
  rw [← nI_m6] at key
  rw [key, clr_fo, pg_mk2 _ hs]
  unfold mnM clrM
  obtain ⟨t, ht, -⟩ := fo_pk (rW ms 23 (fun k => if (6 * s ≤ k ∧ k < 6 * s + 6) ∧ mtN ms b (ln l) k = true then 0 else ms.2.1 23 k)) s
  rw [ht]
-- replied
def lst (ms : MS) (s : Int32) (i : Nat) (o : Option Nat) : Option Nat := if (decide (ms.2.1 29 i = s) && (decide (ms.2.1 31 i = 0) && decide (ms.2.1 32 i = ms.2.1 38 0))) = true then some i else o
def o2z (o : Option Nat) : Int32 := match o with
  | none => 0
  | some k => nI k
def wtF (ms : MS) (s : Int32) (np : Nat) : Option Nat := fo (lst ms s) 1 np none
def valB (so v : Int32) : Bool := if so = 0 then decide (0 ≤ v ∧ v ≤ 7) else if so = 2 then true else decide (0 ≤ v ∧ v ≤ 15)
def okR (ms : MS) (p : Nat) : Bool := decide (0 ≤ ms.2.1 38 1 ∧ ms.2.1 38 1 ≤ 2) && (vpB (ms.2.1 38 2) (ms.2.1 38 3) && (ag (ln (ms.2.1 38 3)) (ms.2.1 38 2) (ms.2.1 30 p) && valB (ms.2.1 38 1) (ms.2.1 38 4)))
def ignM (ms : MS) : MS := k_pI ms 40 (ms.1 40 + 1)
def rfrM (ms : MS) (n p : Nat) : MS := if ms.2.1 34 p + 1 = 9 then aS (aS ms 34 p (ms.2.1 34 p + 1)) 31 p 3 else askM (aS ms 34 p (ms.2.1 34 p + 1)) n p (ms.2.1 38 4)
def hitM (ms : MS) (n s p : Nat) : MS := if ms.2.1 38 1 = 2 then folM (mnM ms s (ms.2.1 38 2) (ms.2.1 38 3) (-1) 0) n p (-1) else folM (mnM ms s (ms.2.1 38 2) (ms.2.1 38 3) (ms.2.1 38 4) (ms.2.1 38 5)) n p (ms.2.1 38 4)
def rplM (ms : MS) (n s : Nat) (o : Option Nat) : MS := match o with
  | none => ignM ms
  | some p => if okR ms p = true then (if ms.2.1 38 1 = 0 then rfrM ms n p else hitM ms n s p) else ignM ms
theorem mnM_k {ms : MS} {s : Nat} {b l pl v : Int32} {k j : Nat} (h : k < 19 ∨ 24 < k) : (mnM ms s b l pl v).2.1 k j = ms.2.1 k j := by
  unfold mnM
  split
  · unfold notM
    rw [aS_k (by omega), aS_k (by omega), aS_k (by omega), aS_k (by omega), aS_k (by omega), aS_k (by omega)]
    show (clrM _ _ _ _).2.1 k j = _
    unfold clrM
    rw [rW_i, if_neg (by omega)]
  · rfl
theorem mnM_s {ms : MS} {s : Nat} {b l pl v : Int32} {k : Nat} (h : k ≠ 25) : (mnM ms s b l pl v).1 k = ms.1 k := by
  unfold mnM
  split
  · show (k_pI (clrM _ _ _ _) 25 _).1 k = _
    rw [pI_n1 h]; rfl
  · rfl
theorem ign_eq (ms : MS) (s l2 so : Int32) : pj_X10_replied_137 ms s l2 so = some ((), ignM ms) := by
  unfold pj_X10_replied_137 pj_X10_replied_138
  rw [if_pos rfl]
  unfold pj_X10_replied_191 pj_X10_replied_192
  rw [if_pos rfl]
  rfl
set_option maxHeartbeats 4000000 in
theorem rep_eq (ms : MS) {n s p : Nat} (hs : s < 8) (hp : p < 201) (hn : ms.1 36 = nI n) (h : n ≤ 200) (hl : Ln (ms.2.1 38 3)) (hL : ∀ k, k < 48 → Ln (ms.2.1 20 k)) : pj_X10_replied_138 ms (nI s) (nI p) (ms.2.1 38 1) 1 = some ((), if valB (ms.2.1 38 1) (ms.2.1 38 4) = true then (if ms.2.1 38 1 = 0 then rfrM ms n p else hitM ms n s p) else ignM ms) := by
  have hno : pj_X10_replied_191 ms (nI s) (nI p) (ms.2.1 38 1) = some ((), ignM ms) := by
    unfold pj_X10_replied_191 pj_X10_replied_192
    rw [if_pos rfl]
    rfl
  have hyes : pj_X10_replied_187 ms (nI s) (nI p) (ms.2.1 38 1) = some ((), if ms.2.1 38 1 = 0 then rfrM ms n p else hitM ms n s p) := by
    unfold pj_X10_replied_187 pj_X10_replied_192
    rw [if_neg (by decide)]
    by_cases h0 : ms.2.1 38 1 = 0
    · rw [if_pos h0, if_pos h0, k_aI_nI (show p < k_len 34 from hp), h_b1_s, k_sI_n (show p < k_len 34 from hp), h_b1_s, k_aI_nI (show p < k_len 34 from hp), h_b1_s, aS_s]
      unfold rfrM
      by_cases h9 : ms.2.1 34 p + 1 = 9
      · rw [if_pos h9, if_pos h9, k_sI_n (show p < k_len 31 from hp), h_b1_s]
      · rw [if_neg h9, if_neg h9, k38_4, h_b1_s, p_ask_eq (n := n) _ _ hp (by rw [aS_1]; exact hn) h]
        simp only [k_bd_s]
        rw [aS_k (by decide)]
    · rw [if_neg h0, if_neg h0, k38_2, h_b1_s, k38_3, h_b1_s]
      unfold hitM
      by_cases h2 : ms.2.1 38 1 = 2
      · rw [if_pos h2, if_pos h2]
        unfold pj_X10_replied_290
        rw [if_pos h2]
        unfold pj_X10_replied_305
        rw [p_makeNote_eq ms hs _ _ hl hL]
        simp only [k_bd_s]
        rw [if_pos h2, p_follow_eq (n := n) _ _ hp (by rw [mnM_s (by decide)]; exact hn) h]
        simp only [k_bd_s]
      · rw [if_neg h2, if_neg h2, k38_4, h_b1_s]
        unfold pj_X10_replied_290
        rw [if_neg h2, k38_5, h_b1_s]
        unfold pj_X10_replied_305
        rw [p_makeNote_eq ms hs _ _ hl hL]
        simp only [k_bd_s]
        rw [if_neg h2, k38_4, h_b1_s, mnM_k (by decide), p_follow_eq (n := n) _ _ hp (by rw [mnM_s (by decide)]; exact hn) h]
        simp only [k_bd_s]
  unfold pj_X10_replied_138 valB
  rw [if_neg (by decide)]
  by_cases h0 : ms.2.1 38 1 = 0
  · rw [if_pos h0, if_pos h0, k38_4, h_b1_s, p_in_eq]
    simp only [k_bd_s]
    cases hv : decide ((0 : Int32) ≤ ms.2.1 38 4 ∧ ms.2.1 38 4 ≤ 7)
    · rw [if_pos (show b2i false = 0 from rfl), hno]; rfl
    · rw [if_neg (by decide), hyes]; rfl
  · rw [if_neg h0, if_neg h0]
    by_cases h2 : ms.2.1 38 1 = 2
    · rw [if_pos h2, if_pos h2, hyes]; rfl
    · rw [if_neg h2, if_neg h2, k38_4, h_b1_s, p_in_eq]
      simp only [k_bd_s]
      cases hv : decide ((0 : Int32) ≤ ms.2.1 38 4 ∧ ms.2.1 38 4 ≤ 15)
      · rw [if_pos (show b2i false = 0 from rfl), hno]; rfl
      · rw [if_neg (by decide), hyes]; rfl
theorem wtF_lt {ms : MS} {s : Int32} {np p : Nat} (h : wtF ms s np = some p) : 1 ≤ p ∧ p ≤ np := by
  have := fo_inv (step := lst ms s) (c := np) (i := 1) (s := none) (fun i o => ∀ j, o = some j → 1 ≤ j ∧ j < i) (fun i o h1 h2 ho j hj => by
      unfold lst at hj
      split at hj
      · cases hj; omega
      · have := ho j hj; omega) (fun j hj => by cases hj)
  have h2 := this p h
  omega
set_option maxHeartbeats 4000000 in
theorem p_replied_eq (ms : MS) {a : Int32} {n np : Nat} (h7 : ms.2.1 38 7 = a) (hn : ms.1 36 = nI n) (h : n ≤ 200) (hnp : ms.1 28 = nI np) (hnp2 : np ≤ 200) (hL : ∀ k, k < 48 → Ln (ms.2.1 20 k)) : p_X10_replied ms = some ((), if siteB ms a = true then rplM ms n a.toNatClampNeg (wtF ms a np) else ms) := by
  unfold p_X10_replied
  rw [k38_7, h_b1_s, h7, p_isSite_eq]
  simp only [k_bd_s]
  cases hsb : siteB ms a
  · rw [if_pos (show b2i false = 0 from rfl)]; rfl
  · obtain ⟨s, hs, rfl, -⟩ := siteB_nI hsb
    rw [if_neg (by decide), nI_clamp (by omega)]
    simp only [if_true]
    have key := lp_fold (S := Option Nat) (fun m o k => pg_X10_replied_21 m ms (nI s) (o2z o) k) (np + 1) (lst ms (nI s)) (fun o => some ((), rplM ms n s o)) (fun i o => 1 ≤ i ∧ ∀ j, o = some j → 1 ≤ j ∧ j < i)
      (fun i o hi ho => ⟨by omega, fun j hj => by
        have h1 := ho.1
        unfold lst at hj
        split at hj
        · cases hj; omega
        · have := ho.2 j hj; omega⟩)
      (fun m o ho => by
        show pg_X10_replied_21 (m + 1) ms (nI s) (o2z o) (nI (np + 1)) = _
        rw [pg_X10_replied_21, hnp, if_pos (nI_lt (by omega) (by omega)), k38_1, h_b1_s]
        unfold rplM
        cases o with
        | none => rw [if_pos (show o2z none ≤ 0 from by decide), ign_eq]
        | some p =>
          have hp := ho.2 p rfl
          rw [show o2z (some p) = nI p from rfl, if_neg (nI_nle (by omega) (by omega)), p_in_eq]
          simp only [k_bd_s]
          unfold okR
          cases h1 : decide ((0 : Int32) ≤ ms.2.1 38 1 ∧ ms.2.1 38 1 ≤ 2)
          · rw [if_pos (show b2i false = 0 from rfl), ign_eq]; rfl
          · rw [if_neg (by decide), k38_2, h_b1_s, k38_3, h_b1_s, p_isPrefix_eq]
            simp only [k_bd_s, Bool.true_and]
            cases h2 : vpB (ms.2.1 38 2) (ms.2.1 38 3)
            · rw [if_pos (show b2i false = 0 from rfl), ign_eq]; rfl
            · obtain ⟨q, hq, eq, -⟩ := vpB_nI h2
              have hln : Ln (ms.2.1 38 3) := ⟨q, hq, eq⟩
              rw [if_neg (by decide), k38_2, h_b1_s, k_aI_nI (show p < k_len 30 by show p < 201; omega), h_b1_s, k38_3, h_b1_s, p_begin_L ms _ _ hln]
              simp only [k_bd_s, Bool.true_and]
              cases h3 : ag (ln (ms.2.1 38 3)) (ms.2.1 38 2) (ms.2.1 30 p)
              · rw [if_pos (show b2i false = 0 from rfl), ign_eq]; rfl
              · rw [if_neg (by decide), rep_eq ms hs (by omega) hn h hln hL]
                rfl)
      (fun m i o hi ho => by
        show pg_X10_replied_21 (m + 1) ms (nI s) (o2z o) (nI i) = pg_X10_replied_21 m ms (nI s) (o2z (lst ms (nI s) i o)) (nI (i + 1))
        rw [pg_X10_replied_21, hnp, if_neg (nI_nlt (by omega) (by omega)), k_aI_nI (show i < k_len 29 by show i < 201; omega), h_b1_s, nI_1]
        unfold lst
        by_cases h1 : ms.2.1 29 i = nI s
        · rw [if_pos h1, k_aI_nI (show i < k_len 31 by show i < 201; omega), h_b1_s, decide_eq_true h1]
          by_cases h2 : ms.2.1 31 i = 0
          · rw [if_pos h2, k_aI_nI (show i < k_len 32 by show i < 201; omega), h_b1_s, k38_0, h_b1_s, decide_eq_true h2]
            by_cases h3 : ms.2.1 32 i = ms.2.1 38 0
            · rw [if_pos h3, decide_eq_true h3]; rfl
            · rw [if_neg h3, decide_eq_false h3]; rfl
          · rw [if_neg h2, decide_eq_false h2]; rfl
        · rw [if_neg h1, decide_eq_false h1]; rfl)
      np h_hN 1 none ⟨by omega, fun j hj => (by cases hj)⟩ (by omega) (h_hN_lt (by omega))
    have key' : pg_X10_replied_21 h_hN ms (nI s) 0 1 = _ := key
    rw [key']
    rfl
