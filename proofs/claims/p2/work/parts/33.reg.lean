/-! THE REFERENCE'S registered and requested, over numbers -/
theorem nI_ne_m1 {t : Nat} (h : t < 2 ^ 31) : ¬ nI t = -1 := fun z => by have := (o2i_none (o := some t) (fun j h' => by cases h'; omega)).mp z; cases this
def mix (h v : Int32) : Int32 := ((h ^^^ v) * 16777619) ^^^ h_ushr ((h ^^^ v) * 16777619) 15
def tagF (s b l p n : Int32) : Int32 := mix (mix (mix (mix (mix ((s + 1) * 40503) s) b) l) p) n
theorem p_tag_eq (ms : MS) (s b l p n : Int32) : p_X10_tag ms s b l p n = some (tagF s b l p n, ms) := rfl
def lS (ms : MS) (j : Nat) (v : Int64) : MS := (ms.1, ms.2.1, va_up ms.2.2 j v)
theorem k_sL_n {ms : MS} {i : Nat} {v : Int64} (h : i < 64) : k_sL ms (nI i) v = some (lS ms i v) := k_sL_nI h
theorem siteB_nI {ms : MS} {a : Int32} (h : siteB ms a = true) : ∃ i : Nat, i < 8 ∧ a = nI i ∧ ¬ ms.2.1 14 i = -1 := by
  unfold siteB at h
  rw [Bool.and_eq_true] at h
  obtain ⟨j, hj, rfl⟩ := i8 (of_decide_eq_true h.1)
  have h2 := of_decide_eq_true h.2
  rw [nI_clamp (by omega)] at h2
  exact ⟨j, hj, rfl, h2⟩
theorem siteB_i {ms : MS} {i : Nat} (hi : i < 8) : siteB ms (nI i) = decide (¬ ms.2.1 14 i = -1) := by
  unfold siteB
  rw [decide_eq_true (i8' hi), nI_clamp (by omega), Bool.true_and]
theorem srvB_nI {ms : MS} {a : Int32} (h : srvB ms a = true) : ∃ i : Nat, i < 8 ∧ a = nI i ∧ ¬ ms.2.1 3 i = 0 := by
  unfold srvB at h
  rw [Bool.and_eq_true] at h
  obtain ⟨j, hj, rfl⟩ := i8 (of_decide_eq_true h.1)
  have h2 := of_decide_eq_true h.2
  rw [nI_clamp (by omega)] at h2
  exact ⟨j, hj, rfl, h2⟩
theorem srvB_i {ms : MS} {i : Nat} (hi : i < 8) : srvB ms (nI i) = decide (¬ ms.2.1 3 i = 0) := by
  unfold srvB
  rw [decide_eq_true (i8' hi), nI_clamp (by omega), Bool.true_and]
/-- the entry for a prefix; a free place -/
def entF (ms : MS) (sv : Nat) (b l : Int32) : Option Nat := ff (fun k => liveE ms k && (decide (ms.2.1 7 k = b) && decide (ms.2.1 8 k = l))) (16 * sv) 16
def freF (ms : MS) (sv : Nat) : Option Nat := ff (fun k => !liveE ms k) (16 * sv) 16
/-- where the entry goes -/
def slotM (ms : MS) (sv : Nat) (s b l : Int32) : Option Nat := match entF ms sv b l with
  | some e => if ms.2.1 9 e = s then some e else none
  | none => freF ms sv
def goodR (ms : MS) (sv : Nat) : Bool := siteB ms (ms.2.1 38 0) && (decide (0 ≤ ms.2.1 38 3 ∧ ms.2.1 38 3 ≤ 15) && (vpB (ms.2.1 38 1) (ms.2.1 38 2) && (decide (tagF (ms.2.1 38 0) (ms.2.1 38 1) (ms.2.1 38 2) (ms.2.1 38 3) (ms.2.1 38 4) = ms.2.1 38 5) && (decide (ownE ms (ms.2.1 38 1) (ln (ms.2.1 38 2)) = some sv) && decide (ms.2.2 (8 * sv + (ms.2.1 38 0).toNatClampNeg) < (ms.2.1 38 4).toInt64)))))
def refM (ms : MS) : MS := k_pI ms 39 (ms.1 39 + 1)
def setE (ms : MS) (sv e : Nat) : MS := aS (aS (aS (aS (aS (aS (lS ms (8 * sv + (ms.2.1 38 0).toNatClampNeg) (ms.2.1 38 4).toInt64) 7 e (ms.2.1 38 1)) 8 e (ms.2.1 38 2)) 9 e (ms.2.1 38 0)) 10 e (ms.2.1 38 3)) 11 e (ms.2.1 38 4)) 12 e (ms.1 1 + 180)
def slotR (ms : MS) (sv : Nat) : MS := match slotM ms sv (ms.2.1 38 0) (ms.2.1 38 1) (ms.2.1 38 2) with
    | some e => setE ms sv e
    | none => refM ms
def regM (ms : MS) (sv : Nat) : MS := if goodR ms sv = true then slotR ms sv else refM ms
theorem p_entryF_eq (ms : MS) (b l : Int32) {s : Nat} (hs : s < 8) : p_X10_entryFor ms (nI s) b l = some (o2i (entF ms s b l), ms) := p_entryFor_eq ms b l hs
theorem p_emptyF_eq (ms : MS) {s : Nat} (hs : s < 8) : p_X10_emptyEntry ms (nI s) = some (o2i (freF ms s), ms) := p_emptyEntry_eq ms hs
theorem reg_no (ms : MS) (l1 s : Int32) : pj_X10_registered_158 ms l1 s = some ((), refM ms) := by
  unfold pj_X10_registered_158 pj_X10_registered_159
  rw [if_pos rfl]
  unfold pj_X10_registered_185
  rw [if_pos rfl]
  unfold pj_X10_registered_212 pj_X10_registered_213
  rw [if_pos rfl]
  unfold pj_X10_registered_243
  rw [if_pos rfl]
  rfl
theorem reg_no1 (ms : MS) (l1 s : Int32) : pj_X10_registered_106 ms l1 s = some ((), refM ms) := by
  unfold pj_X10_registered_106 pj_X10_registered_107
  rw [if_pos rfl]
  exact reg_no ms l1 s
theorem reg_no2 (ms : MS) (l1 s l4 : Int32) : pj_X10_registered_212 ms l1 s l4 = some ((), refM ms) := by
  unfold pj_X10_registered_212 pj_X10_registered_213
  rw [if_pos rfl]
  unfold pj_X10_registered_243
  rw [if_pos rfl]
  rfl
theorem lS_2 {ms : MS} {j : Nat} {v : Int64} {k i : Nat} : (lS ms j v).2.1 k i = ms.2.1 k i := rfl
theorem reg_set (ms : MS) {sv s e : Nat} (hv8 : sv < 8) (hs : s < 8) (he : e < 128) (e0 : ms.2.1 38 0 = nI s) : pj_X10_registered_243 ms (nI sv) (nI s) 1 (nI e) = some ((), setE ms sv e) := by
  unfold pj_X10_registered_243
  rw [if_neg (by decide), k38_4, h_b1_s, nI_m8, nI_add, k_sL_n (show 8 * sv + s < 64 by omega), h_b1_s, k38_1, h_b1_s, k_sI_n (show e < k_len 7 from he), h_b1_s, k38_2, h_b1_s, k_sI_n (show e < k_len 8 from he), h_b1_s, k_sI_n (show e < k_len 9 from he), h_b1_s, k38_3, h_b1_s, k_sI_n (show e < k_len 10 from he), h_b1_s, k38_4, h_b1_s, k_sI_n (show e < k_len 11 from he), h_b1_s, k_sI_n (show e < k_len 12 from he), h_b1_s]
  simp only [aS_k (k := 7) (k' := 38) (by decide), aS_k (k := 8) (k' := 38) (by decide), aS_k (k := 9) (k' := 38) (by decide), aS_k (k := 10) (k' := 38) (by decide), aS_1, lS_2]
  unfold setE
  rw [e0, nI_clamp (by omega)]
  rfl
theorem reg_slot (ms : MS) {sv s : Nat} (hv8 : sv < 8) (hs8 : s < 8) (es : ms.2.1 38 0 = nI s) : pj_X10_registered_159 ms (nI sv) (nI s) 1 = some ((), slotR ms sv) := by
  unfold pj_X10_registered_159
  rw [if_neg (by decide), k38_1, h_b1_s, k38_2, h_b1_s, p_entryF_eq ms _ _ hv8]
  simp only [k_bd_s]
  unfold slotR slotM pj_X10_registered_185
  rw [if_neg (by decide), es]
  cases he : entF ms sv (ms.2.1 38 1) (ms.2.1 38 2) with
  | some e =>
    have he2 := ff_lt he
    rw [o2i_s, if_neg (nI_ne_m1 (by omega)), k_aI_nI (show e < k_len 9 by show e < 128; omega), h_b1_s]
    by_cases h9 : ms.2.1 9 e = nI s
    · rw [if_pos h9]
      simp only [h9, if_true]
      unfold pj_X10_registered_208 pj_X10_registered_213
      rw [if_neg (by decide), if_neg (nI_ne_m1 (by omega))]
      exact reg_set ms hv8 hs8 (by omega) es
    · rw [if_neg h9, reg_no2]
      simp only [h9, if_false]
  | none =>
    rw [if_pos o2i_n]
    unfold pj_X10_registered_208 pj_X10_registered_213
    rw [if_neg (by decide), if_pos o2i_n, p_emptyF_eq ms hv8]
    simp only [k_bd_s]
    cases hf : freF ms sv with
    | none =>
      rw [if_pos o2i_n]
      unfold pj_X10_registered_242 pj_X10_registered_243
      rw [if_pos rfl]
      rfl
    | some e =>
      have he2 := ff_lt hf
      rw [o2i_s, if_neg (nI_ne_m1 (by omega))]
      unfold pj_X10_registered_242
      exact reg_set ms hv8 hs8 (by omega) es
theorem p_registered_eq (ms : MS) {a : Int32} (h7 : ms.2.1 38 7 = a) (hP : ∀ k, k < 8 → Ln (ms.2.1 5 k)) : p_X10_registered ms = some ((), if srvB ms a = true then regM ms a.toNatClampNeg else ms) := by
  unfold p_X10_registered
  rw [k38_7, h_b1_s, h7, p_isServerAt_eq]
  simp only [k_bd_s]
  cases hsv : srvB ms a
  · rw [if_pos (show b2i false = 0 from rfl)]
    simp only [Bool.false_eq_true, if_false]
  · obtain ⟨sv, hv8, rfl, hsv3⟩ := srvB_nI hsv
    rw [if_neg (by decide), nI_clamp (by omega)]
    simp only [if_true]
    rw [k38_0, h_b1_s, p_isSite_eq]
    simp only [k_bd_s]
    unfold regM goodR
    cases hs : siteB ms (ms.2.1 38 0)
    · rw [if_pos (show b2i false = 0 from rfl), reg_no1]
      simp only [Bool.false_and, Bool.false_eq_true, if_false]
    · rw [if_neg (by decide), k38_3, h_b1_s, p_in_eq]
      simp only [k_bd_s, Bool.true_and]
      obtain ⟨s, hs8, es, -⟩ := siteB_nI hs
      cases h3 : decide ((0 : Int32) ≤ ms.2.1 38 3 ∧ ms.2.1 38 3 ≤ 15)
      · rw [if_pos (show b2i false = 0 from rfl), reg_no1]
        simp only [Bool.false_and, Bool.false_eq_true, if_false]
      · rw [if_neg (by decide), k38_1, h_b1_s, k38_2, h_b1_s, p_isPrefix_eq]
        simp only [k_bd_s, Bool.true_and]
        cases h4 : vpB (ms.2.1 38 1) (ms.2.1 38 2)
        · rw [if_pos (show b2i false = 0 from rfl), reg_no1]
          simp only [Bool.false_and, Bool.false_eq_true, if_false]
        · obtain ⟨n, hn, en, -⟩ := vpB_nI h4
          generalize htg : tagF (ms.2.1 38 0) (ms.2.1 38 1) (ms.2.1 38 2) (ms.2.1 38 3) (ms.2.1 38 4) = tg
          have ht : p_X10_tag ms (ms.2.1 38 0) (ms.2.1 38 1) (ms.2.1 38 2) (ms.2.1 38 3) (ms.2.1 38 4) = some (tg, ms) := by
            rw [← htg]
            exact p_tag_eq _ _ _ _ _ _
          rw [if_neg (by decide), k38_1, h_b1_s, k38_2, h_b1_s, k38_3, h_b1_s, k38_4, h_b1_s, ht, k_bd_s, k38_5, h_b1_s]
          simp only [Bool.true_and]
          by_cases h5 : tg = ms.2.1 38 5
          · rw [if_pos h5, decide_eq_true h5]
            unfold pj_X10_registered_107
            rw [if_neg (by decide), k38_1, h_b1_s, k38_2, h_b1_s]
            have ho := p_owner_eq ms (ms.2.1 38 1) hn hP
            rw [← en] at ho
            rw [ho]
            simp only [k_bd_s, Bool.true_and]
            have eln : ln (ms.2.1 38 2) = n := by rw [en]; exact ln_nI hn
            rw [eln]
            by_cases h6 : ownE ms (ms.2.1 38 1) n = some sv
            · rw [if_pos ((o2i_some (by omega) (fun j' h' => by have := ownE_lt h'; omega)).mpr h6).symm, decide_eq_true h6, k38_4, h_b1_s, es, nI_m8, nI_add, k_aL_nI (show 8 * sv + s < 64 by omega), h_b1_s, nI_clamp (by omega)]
              simp only [Bool.true_and]
              by_cases h8 : ms.2.2 (8 * sv + s) < (ms.2.1 38 4).toInt64
              · rw [if_neg (fun z => Int64.not_lt.mpr ((lg_cmp_le _ _).mp z) h8), decide_eq_true h8]
                simp only [if_true]
                rw [reg_slot ms hv8 hs8 es]
              · rw [if_pos ((lg_cmp_le _ _).mpr (Int64.not_lt.mp h8)), reg_no, decide_eq_false h8]
                simp only [Bool.false_eq_true, if_false]
            · rw [if_neg (fun z => h6 ((o2i_some (by omega) (fun j' h' => by have := ownE_lt h'; omega)).mp z.symm)), reg_no, decide_eq_false h6]
              simp only [Bool.false_and, Bool.false_eq_true, if_false]
          · rw [if_neg h5, reg_no1, decide_eq_false h5]
            simp only [Bool.false_and, Bool.false_eq_true, if_false]
-- requested
def chiF (ms : MS) (sv : Nat) (ep : Int32) : Option Nat := ff (fun c => decide (ms.2.1 6 c = nI sv) && ag (ln (ms.2.1 5 c)) (ms.2.1 4 c) ep) 0 8
def pieL (ms : MS) (sv : Nat) (ep : Int32) : Option Nat := ff (fun n => !crowd ms sv ep n (bestE ms ep sv)) (match bestE ms ep sv with
    | none => ln (ms.2.1 5 sv)
    | some k => ln (ms.2.1 8 k)) (33 - (match bestE ms ep sv with
    | none => ln (ms.2.1 5 sv)
    | some k => ln (ms.2.1 8 k)))
def repM (ms : MS) (n sv L : Nat) : MS := match bestE ms (ms.2.1 38 2) sv with
  | none => postM ms n (mG (ms.2.1 38 1) 2 (ms.2.1 38 2 &&& mk L) (nI L) 0 0 2 (ms.2.1 38 0))
  | some k => postM ms n (mG (ms.2.1 38 1) 1 (ms.2.1 38 2 &&& mk L) (nI L) (ms.2.1 10 k) (ms.2.1 11 k) 2 (ms.2.1 38 0))
def reqM (ms : MS) (n sv : Nat) : MS :=
  if (siteB ms (ms.2.1 38 0) && ag (ln (ms.2.1 5 sv)) (ms.2.1 4 sv) (ms.2.1 38 2)) = true then
    match chiF ms sv (ms.2.1 38 2) with
    | some c => postM ms n (mG (ms.2.1 38 1) 0 (ms.2.1 4 c) (ms.2.1 5 c) (nI c) 0 2 (ms.2.1 38 0))
    | none => match pieL ms sv (ms.2.1 38 2) with
      | some L => repM ms n sv L
      | none => ms
  else ms
theorem bestE_lt {ms : MS} {ep : Int32} {sv k : Nat} (hs : sv < 8) (hL : ∀ k, k < 128 → Ln (ms.2.1 8 k)) (h : bestE ms ep sv = some k) : k < 128 := by
  have := ((bestE_spec ms ep sv hs hL).1 k h).1
  omega
set_option maxHeartbeats 2000000 in
theorem p_requested_eq (ms : MS) {a : Int32} {n : Nat} (h7 : ms.2.1 38 7 = a) (hn : ms.1 36 = nI n) (h : n ≤ 200) (hP : ∀ k, k < 8 → Ln (ms.2.1 5 k)) (hL : ∀ k, k < 128 → Ln (ms.2.1 8 k))
    (hcr : ∀ sv, sv < 8 → a = nI sv → chiF ms sv (ms.2.1 38 2) = none → crowd ms sv (ms.2.1 38 2) 32 (bestE ms (ms.2.1 38 2) sv) = false) : p_X10_requested ms = some ((), if srvB ms a = true then reqM ms n a.toNatClampNeg else ms) := by
  unfold p_X10_requested
  rw [k38_7, h_b1_s, h7, k38_0, h_b1_s, k38_2, h_b1_s, p_isServerAt_eq]
  simp only [k_bd_s]
  cases hsv : srvB ms a
  · rw [if_pos (show b2i false = 0 from rfl)]; rfl
  · obtain ⟨sv, hv8, rfl, hsv3⟩ := srvB_nI hsv
    rw [if_neg (by decide), nI_clamp (by omega), p_isSite_eq]
    simp only [k_bd_s, if_true]
    unfold reqM
    cases hs : siteB ms (ms.2.1 38 0)
    · rw [if_pos (show b2i false = 0 from rfl)]; rfl
    · rw [if_neg (by decide), k_aI_nI (show sv < k_len 4 from hv8), h_b1_s, k_aI_nI (show sv < k_len 5 from hv8), h_b1_s, p_begin_L ms _ _ (hP sv hv8)]
      simp only [k_bd_s, Bool.true_and]
      cases hag : ag (ln (ms.2.1 5 sv)) (ms.2.1 4 sv) (ms.2.1 38 2)
      · rw [if_pos (show b2i false = 0 from rfl)]; rfl
      · rw [if_neg (by decide)]
        simp only [if_true]
        rw [hn]
        -- the children
        have key := lp_find (fun m k => pg_X10_requested_67 m ms (nI sv) (ms.2.1 38 0) (ms.2.1 38 2) (nI n) k) 8 (fun c => decide (ms.2.1 6 c = nI sv) && ag (ln (ms.2.1 5 c)) (ms.2.1 4 c) (ms.2.1 38 2)) (fun c => some ((), postM ms n (mG (ms.2.1 38 1) 0 (ms.2.1 4 c) (ms.2.1 5 c) (nI c) 0 2 (ms.2.1 38 0))))
          (pg_X10_requested_67 1 ms (nI sv) (ms.2.1 38 0) (ms.2.1 38 2) (nI n) (nI 8))
          (fun m => by
            show pg_X10_requested_67 (m + 1) ms (nI sv) (ms.2.1 38 0) (ms.2.1 38 2) (nI n) (nI 8) = _
            rw [pg_X10_requested_67, pg_X10_requested_67, show (8 : Int32) = nI 8 from rfl, if_pos (Int32.le_refl _), if_pos (Int32.le_refl _)])
          (fun m i hi => by
            show pg_X10_requested_67 (m + 1) ms (nI sv) (ms.2.1 38 0) (ms.2.1 38 2) (nI n) (nI i) = _
            rw [pg_X10_requested_67, if_neg (show ¬ (8 : Int32) ≤ nI i from nI_ge (b := 8) hi (by omega)), k_aI_nI (show i < k_len 6 from hi), h_b1_s]
            by_cases h6 : ms.2.1 6 i = nI sv
            · rw [if_pos h6, decide_eq_true h6, k_aI_nI (show i < k_len 4 from hi), h_b1_s, k_aI_nI (show i < k_len 5 from hi), h_b1_s, p_begin_L ms _ _ (hP i hi)]
              simp only [k_bd_s, Bool.true_and]
              cases hg : ag (ln (ms.2.1 5 i)) (ms.2.1 4 i) (ms.2.1 38 2)
              · rw [if_pos (show b2i false = 0 from rfl), nI_1]; rfl
              · rw [if_neg (by decide), k38_1, h_b1_s, k_aI_nI (show i < k_len 4 from hi), h_b1_s, k_aI_nI (show i < k_len 5 from hi), h_b1_s, p_post_eq _ _ _ _ _ _ _ _ hn h]
                simp only [k_bd_s, if_true]
            · rw [if_neg h6, decide_eq_false h6, nI_1]; rfl)
          8 h_hN 0 (by omega) (h_hN_lt (by omega))
        have key' : pg_X10_requested_67 h_hN ms (nI sv) (ms.2.1 38 0) (ms.2.1 38 2) (nI n) 0 = _ := key
        rw [key']
        show (match chiF ms sv (ms.2.1 38 2) with
          | none => _
          | some c => _) = _
        cases hch : chiF ms sv (ms.2.1 38 2) with
        | some c => rfl
        | none =>
          dsimp only
          have hcr0 := hcr sv hv8 rfl hch
          -- the end of the widening
          have hfin : ∀ (m L : Nat), L ≤ 32 → crowd ms sv (ms.2.1 38 2) L (bestE ms (ms.2.1 38 2) sv) = false → pg_X10_requested_177 (m + 1) ms (nI sv) (ms.2.1 38 0) (ms.2.1 38 2) (nI n) (o2i (bestE ms (ms.2.1 38 2) sv)) (nI L) = some ((), repM ms n sv L) := by
            intro m L hL32 hc0
            rw [pg_X10_requested_177, p_isCrowded_eq ms _ _ hv8 hL32 (fun j hj => bestE_lt hv8 hL hj) hL hP, hc0]
            simp only [k_bd_s]
            rw [if_pos (show b2i false = 0 from rfl), k38_1, h_b1_s]
            unfold repM
            cases hb : bestE ms (ms.2.1 38 2) sv with
            | none =>
              rw [if_pos (show o2i none = -1 from rfl)]
              unfold pj_X10_requested_216
              rw [p_cutTo_eq ms _ hL32]
              simp only [k_bd_s]
              rw [if_pos (show o2i none = -1 from rfl)]
              unfold pj_X10_requested_241
              rw [p_post_eq _ _ _ _ _ _ _ _ hn h]
              simp only [k_bd_s]
              rw [if_pos (show o2i none = -1 from rfl), p_last_eq _ h hn]
              simp only [k_bd_s]
            | some e =>
              have he := bestE_lt hv8 hL hb
              have hne : ¬ nI e = -1 := nI_ne_m1 (by omega)
              rw [o2i_s, if_neg hne]
              unfold pj_X10_requested_216
              rw [p_cutTo_eq ms _ hL32]
              simp only [k_bd_s]
              rw [if_neg hne, k_aI_nI (show e < k_len 10 from he), h_b1_s]
              unfold pj_X10_requested_241
              rw [p_post_eq _ _ _ _ _ _ _ _ hn h]
              simp only [k_bd_s]
              rw [if_neg hne, k_aI_nI (show e < k_len 11 from he), h_b1_s, postM_k (by decide), p_last_eq _ h hn]
              simp only [k_bd_s]
          -- the widening
          have hgo : ∀ (c m L : Nat), L + c = 32 → c < m → pg_X10_requested_177 m ms (nI sv) (ms.2.1 38 0) (ms.2.1 38 2) (nI n) (o2i (bestE ms (ms.2.1 38 2) sv)) (nI L) = (match ff (fun n => !crowd ms sv (ms.2.1 38 2) n (bestE ms (ms.2.1 38 2) sv)) L (c + 1) with
            | some L => some ((), repM ms n sv L)
            | none => some ((), ms)) := by
            intro c
            induction c with
            | zero =>
              intro m L h1 h2
              obtain ⟨m', rfl⟩ : ∃ m', m = m' + 1 := ⟨m - 1, by omega⟩
              have e32 : L = 32 := by omega
              subst e32
              rw [hfin m' 32 (by omega) hcr0]
              unfold ff
              rw [hcr0]; rfl
            | succ c ih =>
              intro m L h1 h2
              obtain ⟨m', rfl⟩ : ∃ m', m = m' + 1 := ⟨m - 1, by omega⟩
              unfold ff
              cases hc0 : crowd ms sv (ms.2.1 38 2) L (bestE ms (ms.2.1 38 2) sv)
              · rw [hfin m' L (by omega) hc0]; rfl
              · rw [pg_X10_requested_177, p_isCrowded_eq ms _ _ hv8 (by omega) (fun j hj => bestE_lt hv8 hL hj) hL hP, hc0]
                simp only [k_bd_s]
                rw [if_neg (by decide), nI_1, ih m' (L + 1) (by omega) (by omega)]
                rfl
          rw [pg_X10_requested_67, show (8 : Int32) = nI 8 from rfl, if_pos (Int32.le_refl _), p_best_eq ms _ hv8 hL]
          simp only [k_bd_s]
          unfold pieL
          cases hb : bestE ms (ms.2.1 38 2) sv with
          | none =>
            obtain ⟨el, hl⟩ := Ln_nI (hP sv hv8)
            rw [if_pos (show o2i none = -1 from rfl), k_aI_nI (show sv < k_len 5 from hv8), h_b1_s]
            have := hgo (32 - ln (ms.2.1 5 sv)) h_hN (ln (ms.2.1 5 sv)) (by omega) (h_hN_lt (by omega))
            rw [hb, ← el, show 32 - ln (ms.2.1 5 sv) + 1 = 33 - ln (ms.2.1 5 sv) by omega] at this
            rw [this]
            dsimp only
            generalize ff _ (ln (ms.2.1 5 sv)) (33 - ln (ms.2.1 5 sv)) = o
            cases o <;> rfl
          | some e =>
            have he := bestE_lt hv8 hL hb
            obtain ⟨el, hl⟩ := Ln_nI (hL e he)
            rw [if_neg (fun z => by have := (o2i_none (o := some e) (fun j h => by cases h; omega)).mp z; cases this), show o2i (some e) = nI e from rfl, k_aI_nI (show e < k_len 8 from he), h_b1_s]
            have := hgo (32 - ln (ms.2.1 8 e)) h_hN (ln (ms.2.1 8 e)) (by omega) (h_hN_lt (by omega))
            rw [hb, ← el, show 32 - ln (ms.2.1 8 e) + 1 = 33 - ln (ms.2.1 8 e) by omega] at this
            rw [show o2i (some e) = nI e from rfl] at this
            rw [this]
            dsimp only
            generalize ff _ (ln (ms.2.1 8 e)) (33 - ln (ms.2.1 8 e)) = o
            cases o <;> rfl
