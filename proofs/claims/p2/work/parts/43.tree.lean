/-! THE TREE OF PARTS: who owns a prefix -/
def sub (b : Int32) (n : Nat) (b' : Int32) (n' : Nat) : Prop := n' ≤ n ∧ ag n' b b' = true
theorem sub_rf {b : Int32} {n : Nat} (h : n ≤ 32) : sub b n b n := ⟨Nat.le_refl n, ag_refl h⟩
theorem sub_tr {b b1 b2 : Int32} {n n1 n2 : Nat} (hn : n1 ≤ 32) (h : sub b n b1 n1) (h' : sub b1 n1 b2 n2) : sub b n b2 n2 := ⟨Nat.le_trans h'.1 h.1, ag_trans (by have := h'.1; omega) (ag_le hn h'.1 h.2) h'.2⟩
theorem sub_nest {b b1 b2 : Int32} {n n1 n2 : Nat} (hn2 : n2 ≤ 32) (h1 : sub b n b1 n1) (h2 : sub b n b2 n2) (h : n1 ≤ n2) : sub b2 n2 b1 n1 := ⟨h, ag_trans (by omega) (ag_symm (by omega) (ag_le hn2 h h2.2)) h1.2⟩
theorem mtB_iff {b b' : Int32} {n n' : Nat} : mtB b n b' n' = true ↔ sub b n b' n' ∨ sub b' n' b n := by
  unfold mtB sub
  simp only [Bool.or_eq_true, Bool.and_eq_true, decide_eq_true_eq]
theorem mtB_of {b b1 b2 : Int32} {n n1 n2 : Nat} (hn1 : n1 ≤ 32) (hn2 : n2 ≤ 32) (h1 : sub b n b1 n1) (h2 : sub b n b2 n2) : mtB b1 n1 b2 n2 = true := by
  rw [mtB_iff]
  by_cases h : n1 ≤ n2
  · exact Or.inr (sub_nest hn2 h1 h2 h)
  · exact Or.inl (sub_nest hn1 h2 h1 (by omega))
def pr (ms : MS) (i : Nat) : Prop := ¬ ms.2.1 3 i = 0
def pB (ms : MS) (i : Nat) : Int32 := ms.2.1 4 i
def pL (ms : MS) (i : Nat) : Nat := ln (ms.2.1 5 i)
/-- c is a child of p -/
def ch (ms : MS) (c p : Nat) : Prop := c < 8 ∧ ms.2.1 6 c = nI p
def Tr (ms : MS) : Prop := (pr ms 0 ∧ ms.2.1 4 0 = 0 ∧ ms.2.1 5 0 = 0) ∧ (∀ s, s < 8 → Ln (ms.2.1 5 s)) ∧ (∀ s, s < 8 → pr ms s → vb (pL ms s) (pB ms s) = true) ∧ (∀ s, s < 8 → ms.2.1 3 s = 0 → ms.2.1 6 s = -1) ∧
  (∀ c p, p < 8 → ch ms c p → pr ms c ∧ pr ms p ∧ pL ms p < pL ms c ∧ sub (pB ms c) (pL ms c) (pB ms p) (pL ms p)) ∧
  (∀ s b, s < 8 → b < 8 → s ≠ b → pr ms s → pr ms b → sub (pB ms s) (pL ms s) (pB ms b) (pL ms b) → ∃ c, ch ms c b ∧ sub (pB ms s) (pL ms s) (pB ms c) (pL ms c)) ∧
  (∀ c c' p, p < 8 → ch ms c p → ch ms c' p → c ≠ c' → mtB (pB ms c) (pL ms c) (pB ms c') (pL ms c') = false)
theorem Tr_congr {ms ms' : MS} (h : ∀ k j, 3 ≤ k → k ≤ 6 → ms'.2.1 k j = ms.2.1 k j) (T : Tr ms) : Tr ms' := by
  have e3 : ∀ i, ms'.2.1 3 i = ms.2.1 3 i := fun i => h 3 i (by omega) (by omega)
  have e4 : ∀ i, ms'.2.1 4 i = ms.2.1 4 i := fun i => h 4 i (by omega) (by omega)
  have e5 : ∀ i, ms'.2.1 5 i = ms.2.1 5 i := fun i => h 5 i (by omega) (by omega)
  have e6 : ∀ i, ms'.2.1 6 i = ms.2.1 6 i := fun i => h 6 i (by omega) (by omega)
  unfold Tr pr pB pL ch at *
  simp only [e3, e4, e5, e6]
  exact T
theorem pL_le {ms : MS} (T : Tr ms) {i : Nat} (h : i < 8) : pL ms i ≤ 32 := (Ln_nI (T.2.1 i h)).2
theorem pL_0 {ms : MS} (T : Tr ms) : pL ms 0 = 0 := by
  unfold pL
  rw [T.1.2.2]; rfl
/-- i owns the prefix -/
def owns (ms : MS) (b : Int32) (n i : Nat) : Prop := i < 8 ∧ pr ms i ∧ sub b n (pB ms i) (pL ms i) ∧ ∀ c, ch ms c i → mtB (pB ms c) (pL ms c) b n = false
theorem ownW_spec {ms : MS} (T : Tr ms) {b : Int32} {n : Nat} (hn : n ≤ 32) : ownW ms b n < 8 ∧ pr ms (ownW ms b n) ∧ sub b n (pB ms (ownW ms b n)) (pL ms (ownW ms b n)) ∧ ∀ i, i < 8 → pr ms i → sub b n (pB ms i) (pL ms i) → pL ms i ≤ pL ms (ownW ms b n) := by
  have := fo_inv (step := ownS ms b n) (c := 8) (i := 0) (s := 0) (fun i w => i ≤ 8 → w < 8 ∧ pr ms w ∧ sub b n (pB ms w) (pL ms w) ∧ ∀ j, j < i → pr ms j → sub b n (pB ms j) (pL ms j) → pL ms j ≤ pL ms w)
    (fun i w _ h2 ih _ => by
      obtain ⟨h3, h4, h5, h6⟩ := ih (by omega)
      have hi8 : i < 8 := by omega
      unfold ownS
      by_cases hc : (decide (¬ ms.2.1 3 i = 0) && (decide (ln (ms.2.1 5 i) ≤ n) && ag (ln (ms.2.1 5 i)) (ms.2.1 4 i) b)) = true
      · rw [if_pos hc]
        simp only [Bool.and_eq_true, decide_eq_true_eq] at hc
        have hs : sub b n (pB ms i) (pL ms i) := ⟨hc.2.1, ag_symm (pL_le T hi8) hc.2.2⟩
        by_cases hl : ms.2.1 5 i < ms.2.1 5 w
        · rw [if_pos hl]
          refine ⟨h3, h4, h5, fun j hj p1 p2 => ?_⟩
          by_cases e : j = i
          · subst e
            have := (Ln_lt (T.2.1 j hi8) (T.2.1 w h3)).mp hl
            unfold pL; omega
          · exact h6 j (by omega) p1 p2
        · rw [if_neg hl]
          refine ⟨hi8, hc.1, hs, fun j hj p1 p2 => ?_⟩
          by_cases e : j = i
          · subst e; exact Nat.le_refl _
          · have a1 := h6 j (by omega) p1 p2
            have a2 : ¬ ln (ms.2.1 5 i) < ln (ms.2.1 5 w) := fun z => hl ((Ln_lt (T.2.1 i hi8) (T.2.1 w h3)).mpr z)
            unfold pL at *; omega
      · rw [if_neg hc]
        refine ⟨h3, h4, h5, fun j hj p1 p2 => ?_⟩
        by_cases e : j = i
        · subst e
          exfalso
          apply hc
          simp only [Bool.and_eq_true, decide_eq_true_eq]
          exact ⟨p1, p2.1, ag_symm (pL_le T hi8) p2.2⟩
        · exact h6 j (by omega) p1 p2)
    (fun _ => ⟨by decide, T.1.1, ⟨by rw [pL_0 T]; omega, by rw [pL_0 T]; exact ag_0 _ _⟩, fun j hj => by omega⟩)
  exact this (by omega)
theorem ownE_iff {ms : MS} (T : Tr ms) {b : Int32} {n i : Nat} (hn : n ≤ 32) : ownE ms b n = some i ↔ owns ms b n i := by
  obtain ⟨w1, w2, w3, w4⟩ := ownW_spec T (b := b) hn
  have hE : ownE ms b n = match ff (ownX ms b n (ownW ms b n)) 0 8 with
    | none => some (ownW ms b n)
    | some _ => none := rfl
  generalize ownW ms b n = w at w1 w2 w3 w4 hE
  -- whoever owns it is w
  have huniq : ∀ i, owns ms b n i → i = w := by
    intro i hi
    obtain ⟨a1, a2, a3, a4⟩ := hi
    by_cases e : i = w
    · exact e
    · exfalso
      have hs : sub (pB ms w) (pL ms w) (pB ms i) (pL ms i) := sub_nest (pL_le T w1) a3 w3 (w4 i a1 a2 a3)
      obtain ⟨c, hc, hc2⟩ := T.2.2.2.2.2.1 w i w1 a1 (fun z => e z.symm) w2 a2 hs
      have hc3 : sub b n (pB ms c) (pL ms c) := sub_tr (pL_le T w1) w3 hc2
      have := a4 c hc
      rw [mtB_iff.mpr (Or.inr hc3)] at this
      cases this
  cases hf : ff (ownX ms b n w) 0 8 with
  | none =>
    rw [hf] at hE
    rw [hE]
    have hno : ∀ s, s < 8 → s ≠ w → pr ms s → ¬ sub (pB ms s) (pL ms s) b n := by
      intro s hs hsw hp hsub
      have := (ff_none.mp hf) s (by omega) (by omega)
      unfold ownX at this
      have ht : (!decide (s = w) && (decide (¬ ms.2.1 3 s = 0) && (decide (n ≤ ln (ms.2.1 5 s)) && ag n b (ms.2.1 4 s)))) = true := by
        simp only [Bool.and_eq_true, Bool.not_eq_true', decide_eq_false_iff_not, decide_eq_true_eq]
        exact ⟨hsw, hp, hsub.1, ag_symm hn hsub.2⟩
      rw [ht] at this
      cases this
    constructor
    · intro h
      rw [← Option.some.inj h]
      refine ⟨w1, w2, w3, fun c hc => ?_⟩
      obtain ⟨c1, c2, c3, c4⟩ := T.2.2.2.2.1 c w w1 hc
      by_cases hm : mtB (pB ms c) (pL ms c) b n = true
      · rcases mtB_iff.mp hm with h | h
        · exact absurd h (hno c hc.1 (fun z => by subst z; omega) c1)
        · have := w4 c hc.1 c1 h
          omega
      · exact Bool.eq_false_iff.mpr hm
    · intro h
      rw [huniq i h]
  | some s =>
    rw [hf] at hE
    rw [hE]
    constructor
    · intro h; cases h
    · intro h
      exfalso
      have ew := huniq i h
      subst ew
      obtain ⟨a1, a2, a3, a4⟩ := h
      obtain ⟨-, s1, s2, -⟩ := ff_some.mp hf
      unfold ownX at s2
      simp only [Bool.and_eq_true, Bool.not_eq_true', decide_eq_false_iff_not, decide_eq_true_eq] at s2
      obtain ⟨t1, t2, t3, t4⟩ := s2
      have hsP : sub (pB ms s) (pL ms s) b n := ⟨t3, ag_symm hn t4⟩
      have hsi : sub (pB ms s) (pL ms s) (pB ms i) (pL ms i) := sub_tr hn hsP a3
      obtain ⟨c, hc, hc2⟩ := T.2.2.2.2.2.1 s i (by omega) a1 t1 t2 a2 hsi
      have hm := mtB_of (pL_le T hc.1) hn hc2 hsP
      rw [a4 c hc] at hm
      cases hm
theorem owns_uniq {ms : MS} (T : Tr ms) {b : Int32} {n i j : Nat} (hn : n ≤ 32) (h : owns ms b n i) (h' : owns ms b n j) : i = j := Option.some.inj (((ownE_iff T hn).mpr h).symm.trans ((ownE_iff T hn).mpr h'))
/-- a delegation keeps the tree -/
theorem Tr_del {ms : MS} (T : Tr ms) {p c n : Nat} {b : Int32} (hp : p < 8) (hc : c < 8) (hc0 : ms.2.1 3 c = 0) (hn : n ≤ 32) (hv : vb n b = true) (ho : owns ms b n p) (hne : pL ms p ≠ n) {ms' : MS}
    (e3 : ∀ i, ms'.2.1 3 i = if i = c then 1 else ms.2.1 3 i) (e4 : ∀ i, ms'.2.1 4 i = if i = c then b else ms.2.1 4 i) (e5 : ∀ i, ms'.2.1 5 i = if i = c then nI n else ms.2.1 5 i) (e6 : ∀ i, ms'.2.1 6 i = if i = c then nI p else ms.2.1 6 i) : Tr ms' := by
  obtain ⟨-, o2, o3, o4⟩ := ho
  have hpc : p ≠ c := fun z => o2 (by rw [z]; exact hc0)
  have hc00 : c ≠ 0 := fun z => T.1.1 (by rw [← z]; exact hc0)
  have hlt : pL ms p < n := by
    have := o3.1
    omega
  have q : ∀ i, i ≠ c → (pr ms' i ↔ pr ms i) ∧ pB ms' i = pB ms i ∧ pL ms' i = pL ms i ∧ ∀ p', ch ms' i p' ↔ ch ms i p' := by
    intro i hi
    unfold pr pB pL ch
    rw [e3, e4, e5, e6, if_neg hi, if_neg hi, if_neg hi, if_neg hi]
    exact ⟨Iff.rfl, rfl, rfl, fun _ => Iff.rfl⟩
  have c1 : pr ms' c := by unfold pr; rw [e3, if_pos rfl]; decide
  have c2 : pB ms' c = b := by unfold pB; rw [e4, if_pos rfl]
  have c3 : pL ms' c = n := by unfold pL; rw [e5, if_pos rfl]; exact ln_nI hn
  have c4 : ∀ p', p' < 8 → (ch ms' c p' ↔ p' = p) := by
    intro p' hp'
    unfold ch
    rw [e6, if_pos rfl]
    exact ⟨fun h => ((nI_eq (by omega) (by omega)).mp h.2).symm, fun h => ⟨hc, by rw [h]⟩⟩
  -- c had no child, and was none
  have nch : ∀ i, ¬ ch ms i c := fun i h => (T.2.2.2.2.1 i c hc h).2.1 hc0
  have notc : ∀ p', p' < 8 → ¬ ch ms c p' := by
    intro p' hp' h
    have := T.2.2.2.1 c hc hc0
    rw [h.2] at this
    exact nI_ne_m1 (by omega) this
  -- nothing lies in the new part
  have hin : ∀ s, s < 8 → pr ms s → ¬ sub (pB ms s) (pL ms s) b n := by
    intro s hs hp' h
    have hsp : s ≠ p := fun z => by subst z; have := h.1; omega
    have h2 : sub (pB ms s) (pL ms s) (pB ms p) (pL ms p) := sub_tr hn h o3
    obtain ⟨d, hd, hd2⟩ := T.2.2.2.2.2.1 s p hs hp hsp hp' o2 h2
    have := mtB_of (pL_le T hd.1) hn hd2 h
    rw [o4 d hd] at this
    cases this
  refine ⟨⟨?_, ?_, ?_⟩, fun s hs => ?_, fun s hs h => ?_, fun s hs h => ?_, fun d p' hp' h => ?_, fun s b' hs hb' hsb h1 h2 h3 => ?_, fun d d' p' hp' h1 h2 h3 => ?_⟩
  · exact (q 0 (Ne.symm hc00)).1.mpr T.1.1
  · rw [e4, if_neg (Ne.symm hc00)]; exact T.1.2.1
  · rw [e5, if_neg (Ne.symm hc00)]; exact T.1.2.2
  · rw [e5]
    by_cases e : s = c
    · rw [if_pos e]; exact ⟨n, hn, rfl⟩
    · rw [if_neg e]; exact T.2.1 s hs
  · by_cases e : s = c
    · subst e; rw [c2, c3]; exact hv
    · rw [(q s e).2.1, (q s e).2.2.1]; exact T.2.2.1 s hs ((q s e).1.mp h)
  · by_cases e : s = c
    · subst e; exact absurd h c1
    · rw [e6, if_neg e]
      rw [e3, if_neg e] at h
      exact T.2.2.2.1 s hs h
  · by_cases e : d = c
    · subst e
      have ep := (c4 p' hp').mp h
      subst ep
      rw [c2, c3, (q p' hpc).2.1, (q p' hpc).2.2.1]
      exact ⟨c1, (q p' hpc).1.mpr o2, hlt, o3⟩
    · have h' := ((q d e).2.2.2 p').mp h
      have ep : p' ≠ c := fun z => nch d (by rw [← z]; exact h')
      obtain ⟨a1, a2, a3, a4⟩ := T.2.2.2.2.1 d p' hp' h'
      rw [(q d e).2.1, (q d e).2.2.1, (q p' ep).2.1, (q p' ep).2.2.1]
      exact ⟨(q d e).1.mpr a1, (q p' ep).1.mpr a2, a3, a4⟩
  · by_cases es : s = c
    · subst es
      have eb : b' ≠ s := Ne.symm hsb
      rw [c2, c3, (q b' eb).2.1, (q b' eb).2.2.1] at h3
      have hb2 := (q b' eb).1.mp h2
      by_cases ebp : b' = p
      · subst ebp
        exact ⟨s, (c4 b' hb').mpr rfl, by rw [c2, c3]; exact sub_rf hn⟩
      · -- both parts have the new one: one lies in the other
        have hle : pL ms b' ≤ pL ms p := by
          by_cases hl : pL ms b' ≤ pL ms p
          · exact hl
          · exfalso
            have h5 : sub (pB ms b') (pL ms b') (pB ms p) (pL ms p) := sub_nest (pL_le T hb') o3 h3 (by omega)
            obtain ⟨d, hd, hd2⟩ := T.2.2.2.2.2.1 b' p hb' hp ebp hb2 o2 h5
            have h6 : sub b n (pB ms d) (pL ms d) := sub_tr (pL_le T hb') h3 hd2
            have := o4 d hd
            rw [mtB_iff.mpr (Or.inr h6)] at this
            cases this
        have h5 : sub (pB ms p) (pL ms p) (pB ms b') (pL ms b') := sub_nest (pL_le T hp) h3 o3 hle
        obtain ⟨d, hd, hd2⟩ := T.2.2.2.2.2.1 p b' hp hb' (fun z => ebp z.symm) o2 hb2 h5
        have ed : d ≠ s := fun z => notc b' hb' (by rw [← z]; exact hd)
        refine ⟨d, ((q d ed).2.2.2 b').mpr hd, ?_⟩
        rw [c2, c3, (q d ed).2.1, (q d ed).2.2.1]
        exact sub_tr (pL_le T hp) o3 hd2
    · have hs2 := (q s es).1.mp h1
      rw [(q s es).2.1, (q s es).2.2.1] at h3
      by_cases eb : b' = c
      · subst eb
        rw [c2, c3] at h3
        exact absurd h3 (hin s hs hs2)
      · rw [(q b' eb).2.1, (q b' eb).2.2.1] at h3
        obtain ⟨d, hd, hd2⟩ := T.2.2.2.2.2.1 s b' hs hb' hsb hs2 ((q b' eb).1.mp h2) h3
        have ed : d ≠ c := fun z => notc b' hb' (by rw [← z]; exact hd)
        refine ⟨d, ((q d ed).2.2.2 b').mpr hd, ?_⟩
        rw [(q s es).2.1, (q s es).2.2.1, (q d ed).2.1, (q d ed).2.2.1]
        exact hd2
  · have key : ∀ d, ch ms d p → mtB (pB ms d) (pL ms d) b n = false := o4
    by_cases e1 : d = c
    · subst e1
      have ep := (c4 p' hp').mp h1
      subst ep
      have e2 : d' ≠ d := Ne.symm h3
      rw [c2, c3, (q d' e2).2.1, (q d' e2).2.2.1]
      have := key d' (((q d' e2).2.2.2 p').mp h2)
      by_cases hm : mtB b n (pB ms d') (pL ms d') = true
      · rw [mtB_iff.mpr ((mtB_iff.mp hm).symm)] at this
        cases this
      · exact Bool.eq_false_iff.mpr hm
    · by_cases e2 : d' = c
      · subst e2
        have ep := (c4 p' hp').mp h2
        subst ep
        rw [c2, c3, (q d e1).2.1, (q d e1).2.2.1]
        exact key d (((q d e1).2.2.2 p').mp h1)
      · rw [(q d e1).2.1, (q d e1).2.2.1, (q d' e2).2.1, (q d' e2).2.2.1]
        exact T.2.2.2.2.2.2 d d' p' hp' (((q d e1).2.2.2 p').mp h1) (((q d' e2).2.2.2 p').mp h2) h3
