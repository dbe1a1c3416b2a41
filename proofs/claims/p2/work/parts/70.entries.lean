/-! ENTRIES: which of them haven't lapsed, how many -/
theorem fo_id {S : Type} {step : Nat → S → S} {s : S} : ∀ (c i : Nat), (∀ j, i ≤ j → j < i + c → step j s = s) → fo step i c s = s
  | 0, i, _ => rfl
  | c + 1, i, h => by
    show fo step (i + 1) c (step i s) = s
    rw [h i (Nat.le_refl i) (by omega)]
    exact fo_id c (i + 1) (fun j h1 h2 => h j (by omega) (by omega))
theorem cnt_add {P : Nat → Bool} : ∀ (a b i : Nat), cnt P i (a + b) = cnt P i a + cnt P (i + a) b
  | 0, b, i => by rw [Nat.zero_add]; show _ = 0 + cnt P (i + 0) b; rw [Nat.zero_add, Nat.add_zero]
  | a + 1, b, i => by
    rw [show a + 1 + b = (a + b) + 1 by omega]
    show (if P i = true then 1 else 0) + cnt P (i + 1) (a + b) = ((if P i = true then 1 else 0) + cnt P (i + 1) a) + cnt P (i + (a + 1)) b
    rw [cnt_add a b (i + 1), show i + 1 + a = i + (a + 1) by omega]
    omega
theorem fo_cnt16 {P : Nat → Bool} : ∀ (c i a : Nat), fo (fun i a => a + cnt P (16 * i) 16) i c a = a + cnt P (16 * i) (16 * c)
  | 0, i, a => rfl
  | c + 1, i, a => by
    show fo (fun i a => a + cnt P (16 * i) 16) (i + 1) c (a + cnt P (16 * i) 16) = _
    rw [fo_cnt16 c (i + 1) (a + cnt P (16 * i) 16), show 16 * (c + 1) = 16 + 16 * c by omega, cnt_add, show 16 * (i + 1) = 16 * i + 16 by omega]
    omega
theorem fo_congr {S : Type} {step step' : Nat → S → S} : ∀ (c i : Nat) (s : S), (∀ j s, i ≤ j → j < i + c → step j s = step' j s) → fo step i c s = fo step' i c s
  | 0, i, s, _ => rfl
  | c + 1, i, s, h => by
    show fo step (i + 1) c (step i s) = fo step' (i + 1) c (step' i s)
    rw [h i s (Nat.le_refl i) (by omega)]
    exact fo_congr c (i + 1) _ (fun j s h1 h2 => h j s (by omega) (by omega))
/-- an entry that is there and hasn't lapsed -/
def lvE (now : Int32) (o : Option E6) : Bool := match o with
  | none => false
  | some q => decide (now < q.2.2.2.2.2)
theorem eL_len {now : Int32} {f : Nat → Option E6} : ∀ (c i : Nat), (eL now f i c).length = cnt (fun j => lvE now (f j)) i c
  | 0, i => rfl
  | c + 1, i => by
    have ih := eL_len (now := now) (f := f) c (i + 1)
    show (eL now f i (c + 1)).length = (if lvE now (f i) = true then 1 else 0) + cnt (fun j => lvE now (f j)) (i + 1) c
    unfold eL
    cases hf : f i with
    | none =>
      show (eL now f (i + 1) c).length = (if false = true then 1 else 0) + _
      rw [ih, if_neg (by decide), Nat.zero_add]
    | some q =>
      show (if now < q.2.2.2.2.2 then q :: eL now f (i + 1) c else eL now f (i + 1) c).length = (if decide (now < q.2.2.2.2.2) = true then 1 else 0) + _
      by_cases h : now < q.2.2.2.2.2
      · rw [if_pos h, if_pos (decide_eq_true h), List.length_cons, ih]; omega
      · rw [if_neg h, if_neg (fun z => h (of_decide_eq_true z)), ih]; omega
theorem cnt_congr {P P' : Nat → Bool} : ∀ (c i : Nat), (∀ j, i ≤ j → j < i + c → P j = P' j) → cnt P i c = cnt P' i c
  | 0, i, _ => rfl
  | c + 1, i, h => by
    show (if P i = true then 1 else 0) + cnt P (i + 1) c = (if P' i = true then 1 else 0) + cnt P' (i + 1) c
    rw [h i (Nat.le_refl i) (by omega), cnt_congr c (i + 1) (fun j h1 h2 => h j (by omega) (by omega))]
theorem eM_len (ms : MS) (i c : Nat) : (eL (ms.1 1) (eM ms) i c).length = cnt (liveE ms) i c := by
  rw [eL_len]
  exact cnt_congr c i (fun j _ _ => rfl)
section ENT
variable {fx : Bool} {σ : HS} {x : Nat} {G : Nat → Nat → Nat} {ms : MS}
theorem c_isLive {i j : Nat} (I : SvR σ G ms i) (hj : j < 16) (now : Int32) : f_X6_isLive σ (some (G 0 i)) (nI j) now = some (b2i (lvE now (eC σ (G 1 i) j)), σ) := by
  obtain ⟨a1, a2, a3, -, ⟨a6, a7, a8⟩, -, -, b4, -⟩ := I
  have e0 : h_gR σ (some (G 0 i)) 7 3 = some (some (G 1 i)) := by rw [gR_s a1, a6]
  have e1 : h_aR σ (some (G 1 i)) 103 (nI j) = some (h_rv σ (G 1 i) j) := aR_s a7 a8 hj (by decide)
  unfold f_X6_isLive
  rw [e0, h_b1_s, e1, h_b1_s]
  unfold eC
  cases hr : h_rv σ (G 1 i) j with
  | none => rw [if_pos rfl]; rfl
  | some a =>
    have ok := b4 j hj a hr
    rw [if_neg (fun z => by cases z), h_b1_s, e1, hr, h_b1_s, rcv_s ok.1, h_b1_s]
    unfold f_X0_holdsAt
    rw [gI_s ok.1, h_b1_s]
    show h_bd (if h_iv σ a 4 ≤ now then some (0, σ) else some (1, σ)) _ = some (b2i (decide (now < h_iv σ a 4)), σ)
    by_cases h : h_iv σ a 4 ≤ now
    · rw [if_pos h, h_bd_s, if_pos rfl, decide_eq_false (Int32.not_lt.mpr h)]; rfl
    · rw [if_neg h, h_bd_s, if_neg (by decide), decide_eq_true (Int32.not_le.mp h)]; rfl
theorem c_countE {i : Nat} (I : SvR σ G ms i) (now : Int32) : f_X6_countEntries σ (some (G 0 i)) now = some (nI (cnt (fun j => lvE now (eC σ (G 1 i) j)) 0 16), σ) := by
  unfold f_X6_countEntries
  have key := lp_fold (S := Nat) (fun n a k => g_X6_countEntries_4 n σ (some (G 0 i)) now (nI a) k) 16 (fun j a => if lvE now (eC σ (G 1 i) j) = true then a + 1 else a) (fun a => some (nI a, σ)) (fun _ _ => True) (fun _ _ _ _ => trivial)
    (fun n a _ => by
      show g_X6_countEntries_4 (n + 1) σ (some (G 0 i)) now (nI a) (nI 16) = _
      rw [g_X6_countEntries_4, if_pos (show (16 : Int32) ≤ nI 16 by decide)])
    (fun n j a hj _ => by
      show g_X6_countEntries_4 (n + 1) σ (some (G 0 i)) now (nI a) (nI j) = g_X6_countEntries_4 n σ (some (G 0 i)) now (nI (if lvE now (eC σ (G 1 i) j) = true then a + 1 else a)) (nI (j + 1))
      rw [g_X6_countEntries_4, if_neg (show ¬ (16 : Int32) ≤ nI j from fun z => absurd (nI_lt (a := j) (b := 16) hj (by decide)) (Int32.not_lt.mpr z)), rcv_s I.1, h_b1_s, c_isLive I hj now, h_bd_s, nI_c1]
      cases lvE now (eC σ (G 1 i) j) with
      | false => rw [if_pos (by rfl), if_neg (by decide)]
      | true => rw [if_neg (by decide), if_pos rfl, nI_c1]) 16 h_hN 0 0 trivial rfl (h_hN_lt (by decide))
  refine Eq.trans key ?_
  show some (nI (fo _ 0 16 0), σ) = _
  rw [fo_cnt (fun j => lvE now (eC σ (G 1 i) j)) 16 0 0, Nat.zero_add]
theorem c_servers (F : Fx σ x) (S : Sx σ x G ms) {i : Nat} (hi : i < 8) : h_gR σ (some (x + 1)) 9 0 = some (some (x + 2)) ∧ h_aR σ (some (x + 2)) 107 (nI i) = some (h_rv σ (x + 2) i) := by
  obtain ⟨-, -, ⟨t1, r1⟩, ⟨t2, l2⟩, -⟩ := F
  exact ⟨by rw [gR_s t1, r1], aR_s t2 l2 hi (by decide)⟩
/-- all entries that haven't lapsed, counted; a server that isn't there has none -/
theorem c_countEntries (F : Fx σ x) (S : Sx σ x G ms) (habs : ∀ i, i < 8 → ms.2.1 3 i = 0 → cnt (liveE ms) (16 * i) 16 = 0) : f_X8_countEntries σ (some (x + 1)) (ms.1 1) = some (nI (cnt (liveE ms) 0 128), σ) := by
  unfold f_X8_countEntries
  have key := lp_fold (S := Nat) (fun n a k => g_X8_countEntries_4 n σ (some (x + 1)) (ms.1 1) (nI a) k) 8 (fun j a => a + cnt (liveE ms) (16 * j) 16) (fun a => some (nI a, σ)) (fun _ _ => True) (fun _ _ _ _ => trivial)
    (fun n a _ => by
      show g_X8_countEntries_4 (n + 1) σ (some (x + 1)) (ms.1 1) (nI a) (nI 8) = _
      rw [g_X8_countEntries_4, if_pos (show (8 : Int32) ≤ nI 8 by decide)])
    (fun n j a hj _ => by
      show g_X8_countEntries_4 (n + 1) σ (some (x + 1)) (ms.1 1) (nI a) (nI j) = g_X8_countEntries_4 n σ (some (x + 1)) (ms.1 1) (nI (a + cnt (liveE ms) (16 * j) 16)) (nI (j + 1))
      obtain ⟨e1, e2⟩ := c_servers F S hj
      rw [g_X8_countEntries_4, if_neg (show ¬ (8 : Int32) ≤ nI j from fun z => absurd (nI_lt (a := j) (b := 8) hj (by decide)) (Int32.not_lt.mpr z)), e1, h_b1_s, e2, h_b1_s, nI_c1]
      by_cases hp : ms.2.1 3 j = 0
      · rw [(S.2.2 j hj).1 hp, if_pos rfl, habs j hj hp]; rfl
      · obtain ⟨r1, I⟩ := (S.2.2 j hj).2 hp
        rw [r1, if_neg (fun z => by cases z), h_b1_s, e2, h_b1_s, r1, rcv_s I.1, h_b1_s, c_countE I, h_bd_s, ← eL_len, I.2.2.2.2.2.2.2.2.length_eq, eM_len, nI_add]) 8 h_hN 0 0 trivial rfl (h_hN_lt (by decide))
  refine Eq.trans key ?_
  show some (nI (fo (fun i a => a + cnt (liveE ms) (16 * i) 16) 0 8 0), σ) = _
  rw [fo_cnt16 8 0 0, Nat.zero_add]
theorem c_best_nil {i : Nat} (I : SvR σ G ms i) {now : Int32} (ep : Int32) (h : ∀ j, j < 16 → lvE now (eC σ (G 1 i) j) = false) : f_X6_best σ (some (G 0 i)) ep now = some (none, σ) := by
  unfold f_X6_best
  have key := lp_find (fun n k => g_X6_best_5 n σ (some (G 0 i)) ep now none k) 16 (fun _ => false) (fun _ => none) (some (none, σ))
    (fun n => by
      show g_X6_best_5 (n + 1) σ (some (G 0 i)) ep now none (nI 16) = _
      rw [g_X6_best_5, if_pos (show (16 : Int32) ≤ nI 16 by decide)])
    (fun n j hj => by
      show g_X6_best_5 (n + 1) σ (some (G 0 i)) ep now none (nI j) = if false = true then none else g_X6_best_5 n σ (some (G 0 i)) ep now none (nI (j + 1))
      rw [g_X6_best_5, if_neg (show ¬ (16 : Int32) ≤ nI j from fun z => absurd (nI_lt (a := j) (b := 16) hj (by decide)) (Int32.not_lt.mpr z)), rcv_s I.1, h_b1_s, c_isLive I hj now, h_bd_s, h j hj, if_pos (by rfl), nI_c1, if_neg (by decide)]) 16 h_hN 0 rfl (h_hN_lt (by decide))
  exact key
theorem c_longest_nil (F : Fx σ x) (S : Sx σ x G ms) {now : Int32} (ep : Int32) (h : ∀ i, i < 8 → pr ms i → ∀ j, j < 16 → lvE now (eC σ (G 1 i) j) = false) : f_X8_longestEntry σ (some (x + 1)) ep now = some (none, σ) := by
  unfold f_X8_longestEntry
  have key := lp_find (fun n k => g_X8_longestEntry_5 n σ (some (x + 1)) ep now none k) 8 (fun _ => false) (fun _ => none) (some (none, σ))
    (fun n => by
      show g_X8_longestEntry_5 (n + 1) σ (some (x + 1)) ep now none (nI 8) = _
      rw [g_X8_longestEntry_5, if_pos (show (8 : Int32) ≤ nI 8 by decide)])
    (fun n j hj => by
      show g_X8_longestEntry_5 (n + 1) σ (some (x + 1)) ep now none (nI j) = if false = true then none else g_X8_longestEntry_5 n σ (some (x + 1)) ep now none (nI (j + 1))
      obtain ⟨e1, e2⟩ := c_servers F S hj
      rw [g_X8_longestEntry_5, if_neg (show ¬ (8 : Int32) ≤ nI j from fun z => absurd (nI_lt (a := j) (b := 8) hj (by decide)) (Int32.not_lt.mpr z)), e1, h_b1_s, e2, h_b1_s, nI_c1]
      by_cases hp : ms.2.1 3 j = 0
      · rw [(S.2.2 j hj).1 hp, if_pos rfl, if_pos rfl, if_neg (by decide)]
      · obtain ⟨r1, I⟩ := (S.2.2 j hj).2 hp
        rw [r1, if_neg (fun z => by cases z), h_b1_s, e2, h_b1_s, r1, rcv_s I.1, h_b1_s, c_best_nil I ep (h j hj hp), h_bd_s, if_pos rfl, if_neg (by decide)]) 8 h_hN 0 rfl (h_hN_lt (by decide))
  exact key
theorem c_countNotes_nil (F : Fx σ x) (T : Tx fx σ x G ms) (h : ∀ s, s < 8 → ms.2.1 14 s = -1) : f_X9_countNotes σ (some x) = some (0, σ) := by
  unfold f_X9_countNotes
  have key := lp_find (fun n k => g_X9_countNotes_4 n σ (some x) 0 k) 8 (fun _ => false) (fun _ => none) (some (0, σ))
    (fun n => by
      show g_X9_countNotes_4 (n + 1) σ (some x) 0 (nI 8) = _
      rw [g_X9_countNotes_4, if_pos (show (8 : Int32) ≤ nI 8 by decide)])
    (fun n j hj => by
      show g_X9_countNotes_4 (n + 1) σ (some x) 0 (nI j) = if false = true then none else g_X9_countNotes_4 n σ (some x) 0 (nI (j + 1))
      obtain ⟨t0, ⟨-, r1, -⟩, -, -, ⟨t7, l7⟩, -⟩ := F
      have e2 : h_aR σ (some (x + 7)) 108 (nI j) = some (h_rv σ (x + 7) j) := aR_s t7 l7 hj (by decide)
      rw [g_X9_countNotes_4, if_neg (show ¬ (8 : Int32) ≤ nI j from fun z => absurd (nI_lt (a := j) (b := 8) hj (by decide)) (Int32.not_lt.mpr z)), gR_s t0, r1, h_b1_s, e2, h_b1_s, nI_c1, (T.2 j hj).1 (h j hj), if_pos rfl, if_neg (by decide)]) 8 h_hN 0 rfl (h_hN_lt (by decide))
  exact key
end ENT
