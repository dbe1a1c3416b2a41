/-! from 70.entries -/
section
/-! ENTRIES: which of them haven't lapsed, how many -/
theorem fo_id {S : Type} {step : Nat → S → S} {s : S} : ∀ (c i : Nat), (∀ j, i ≤ j → j < i + c → step j s = s) → fo step i c s = s
  | 0, i, _ => rfl
  | c + 1, i, h => by
    show fo step (i + 1) c (step i s) = s
    rw [h i (Nat.le_refl i) (by omega)]
    exact fo_id c (i + 1) (fun j h1 h2 => h j (by omega) (by omega))
theorem cnt_add {P : Nat → Bool} : ∀ (a b i : Nat), cnt P i (a + b) = cnt P i a + cnt P (i + a) b
  | 0, b, i => by rw [Nat.zero_add]; show _ = 0 + cnt P (i + 0) b; rw [Nat.zero_add, Nat.add_zero]
  | a + 1, b, i => by
    rw [show a + 1 + b = (a + b) + 1 by omega]
    show (if P i = true then 1 else 0) + cnt P (i + 1) (a + b) = ((if P i = true then 1 else 0) + cnt P (i + 1) a) + cnt P (i + (a + 1)) b
    rw [cnt_add a b (i + 1), show i + 1 + a = i + (a + 1) by omega]
    omega
theorem fo_cnt16 {P : Nat → Bool} : ∀ (c i a : Nat), fo (fun i a => a + cnt P (16 * i) 16) i c a = a + cnt P (16 * i) (16 * c)
  | 0, i, a => rfl
  | c + 1, i, a => by
    show fo (fun i a => a + cnt P (16 * i) 16) (i + 1) c (a + cnt P (16 * i) 16) = _
    rw [fo_cnt16 c (i + 1) (a + cnt P (16 * i) 16), show 16 * (c + 1) = 16 + 16 * c by omega, cnt_add, show 16 * (i + 1) = 16 * i + 16 by omega]
    omega
theorem fo_congr {S : Type} {step step' : Nat → S → S} : ∀ (c i : Nat) (s : S), (∀ j s, i ≤ j → j < i + c → step j s = step' j s) → fo step i c s = fo step' i c s
  | 0, i, s, _ => rfl
  | c + 1, i, s, h => by
    show fo step (i + 1) c (step i s) = fo step' (i + 1) c (step' i s)
    rw [h i s (Nat.le_refl i) (by omega)]
    exact fo_congr c (i + 1) _ (fun j s h1 h2 => h j s (by omega) (by omega))
/-- an entry that is there and hasn't lapsed -/
def lvE (now : Int32) (o : Option E6) : Bool := match o with
  | none => false
  | some q => decide (now < q.2.2.2.2.2)
theorem eL_len {now : Int32} {f : Nat → Option E6} : ∀ (c i : Nat), (eL now f i c).length = cnt (fun j => lvE now (f j)) i c
  | 0, i => rfl
  | c + 1, i => by
    have ih := eL_len (now := now) (f := f) c (i + 1)
    show (eL now f i (c + 1)).length = (if lvE now (f i) = true then 1 else 0) + cnt (fun j => lvE now (f j)) (i + 1) c
    unfold eL
    cases hf : f i with
    | none =>
      show (eL now f (i + 1) c).length = (if false = true then 1 else 0) + _
      rw [ih, if_neg (by decide), Nat.zero_add]
    | some q =>
      show (if now < q.2.2.2.2.2 then q :: eL now f (i + 1) c else eL now f (i + 1) c).length = (if decide (now < q.2.2.2.2.2) = true then 1 else 0) + _
      by_cases h : now < q.2.2.2.2.2
      · rw [if_pos h, if_pos (decide_eq_true h), List.length_cons, ih]; omega
      · rw [if_neg h, if_neg (fun z => h (of_decide_eq_true z)), ih]; omega
theorem cnt_congr {P P' : Nat → Bool} : ∀ (c i : Nat), (∀ j, i ≤ j → j < i + c → P j = P' j) → cnt P i c = cnt P' i c
  | 0, i, _ => rfl
  | c + 1, i, h => by
    show (if P i = true then 1 else 0) + cnt P (i + 1) c = (if P' i = true then 1 else 0) + cnt P' (i + 1) c
    rw [h i (Nat.le_refl i) (by omega), cnt_congr c (i + 1) (fun j h1 h2 => h j (by omega) (by omega))]
theorem eM_len (ms : MS) (i c : Nat) : (eL (ms.1 1) (eM ms) i c).length = cnt (liveE ms) i c := by
  rw [eL_len]
  exact cnt_congr c i (fun j _ _ => rfl)
section ENT
variable {fx : Bool} {σ : HS} {x : Nat} {G : Nat → Nat → Nat} {ms : MS}
theorem c_isLive {i j : Nat} (I : SvR σ G ms i) (hj : j < 16) (now : Int32) : f_X6_isLive σ (some (G 0 i)) (nI j) now = some (b2i (lvE now (eC σ (G 1 i) j)), σ) := by
  obtain ⟨a1, a2, a3, -, ⟨a6, a7, a8⟩, -, -, b4, -⟩ := I
  have e0 : h_gR σ (some (G 0 i)) 7 3 = some (some (G 1 i)) := by rw [gR_s a1, a6]
  have e1 : h_aR σ (some (G 1 i)) 103 (nI j) = some (h_rv σ (G 1 i) j) := aR_s a7 a8 hj (by decide)
  unfold f_X6_isLive
  rw [e0, h_b1_s, e1, h_b1_s]
  unfold eC
  cases hr : h_rv σ (G 1 i) j with
  | none => rw [if_pos rfl]; rfl
  | some a =>
    have ok := b4 j hj a hr
    rw [if_neg (fun z => by cases z), h_b1_s, e1, hr, h_b1_s, rcv_s ok.1, h_b1_s]
    unfold f_X0_holdsAt
    rw [gI_s ok.1, h_b1_s]
    show h_bd (if h_iv σ a 4 ≤ now then some (0, σ) else some (1, σ)) _ = some (b2i (decide (now < h_iv σ a 4)), σ)
    by_cases h : h_iv σ a 4 ≤ now
    · rw [if_pos h, h_bd_s, if_pos rfl, decide_eq_false (Int32.not_lt.mpr h)]; rfl
    · rw [if_neg h, h_bd_s, if_neg (by decide), decide_eq_true (Int32.not_le.mp h)]; rfl
theorem c_countE {i : Nat} (I : SvR σ G ms i) (now : Int32) : f_X6_countEntries σ (some (G 0 i)) now = some (nI (cnt (fun j => lvE now (eC σ (G 1 i) j)) 0 16), σ) := by
  unfold f_X6_countEntries
  have key := lp_fold (S := Nat) (fun n a k => g_X6_countEntries_4 n σ (some (G 0 i)) now (nI a) k) 16 (fun j a => if lvE now (eC σ (G 1 i) j) = true then a + 1 else a) (fun a => some (nI a, σ)) (fun _ _ => True) (fun _ _ _ _ => trivial)
    (fun n a _ => by
      show g_X6_countEntries_4 (n + 1) σ (some (G 0 i)) now (nI a) (nI 16) = _
      rw [g_X6_countEntries_4, if_pos (show (16 : Int32) ≤ nI 16 by decide)])
    (fun n j a hj _ => by
      show g_X6_countEntries_4 (n + 1) σ (some (G 0 i)) now (nI a) (nI j) = g_X6_countEntries_4 n σ (some (G 0 i)) now (nI (if lvE now (eC σ (G 1 i) j) = true then a + 1 else a)) (nI (j + 1))
      rw [g_X6_countEntries_4, if_neg (show ¬ (16 : Int32) ≤ nI j from fun z => absurd (nI_lt (a := j) (b := 16) hj (by decide)) (Int32.not_lt.mpr z)), rcv_s I.1, h_b1_s, c_isLive I hj now, h_bd_s, nI_c1]
      cases lvE now (eC σ (G 1 i) j) with
      | false => rw [if_pos (by rfl), if_neg (by decide)]
      | true => rw [if_neg (by decide), if_pos rfl, nI_c1]) 16 h_hN 0 0 trivial rfl (h_hN_lt (by decide))
  refine Eq.trans key ?_
  show some (nI (fo _ 0 16 0), σ) = _
  rw [fo_cnt (fun j => lvE now (eC σ (G 1 i) j)) 16 0 0, Nat.zero_add]
theorem c_servers (F : Fx σ x) (S : Sx σ x G ms) {i : Nat} (hi : i < 8) : h_gR σ (some (x + 1)) 9 0 = some (some (x + 2)) ∧ h_aR σ (some (x + 2)) 107 (nI i) = some (h_rv σ (x + 2) i) := by
  obtain ⟨-, -, ⟨t1, r1⟩, ⟨t2, l2⟩, -⟩ := F
  exact ⟨by rw [gR_s t1, r1], aR_s t2 l2 hi (by decide)⟩
/-- all entries that haven't lapsed, counted; a server that isn't there has none -/
theorem c_countEntries (F : Fx σ x) (S : Sx σ x G ms) (habs : ∀ i, i < 8 → ms.2.1 3 i = 0 → cnt (liveE ms) (16 * i) 16 = 0) : f_X8_countEntries σ (some (x + 1)) (ms.1 1) = some (nI (cnt (liveE ms) 0 128), σ) := by
  unfold f_X8_countEntries
  have key := lp_fold (S := Nat) (fun n a k => g_X8_countEntries_4 n σ (some (x + 1)) (ms.1 1) (nI a) k) 8 (fun j a => a + cnt (liveE ms) (16 * j) 16) (fun a => some (nI a, σ)) (fun _ _ => True) (fun _ _ _ _ => trivial)
    (fun n a _ => by
      show g_X8_countEntries_4 (n + 1) σ (some (x + 1)) (ms.1 1) (nI a) (nI 8) = _
      rw [g_X8_countEntries_4, if_pos (show (8 : Int32) ≤ nI 8 by decide)])
    (fun n j a hj _ => by
      show g_X8_countEntries_4 (n + 1) σ (some (x + 1)) (ms.1 1) (nI a) (nI j) = g_X8_countEntries_4 n σ (some (x + 1)) (ms.1 1) (nI (a + cnt (liveE ms) (16 * j) 16)) (nI (j + 1))
      obtain ⟨e1, e2⟩ := c_servers F S hj
      rw [g_X8_countEntries_4, if_neg (show ¬ (8 : Int32) ≤ nI j from fun z => absurd (nI_lt (a := j) (b := 8) hj (by decide)) (Int32.not_lt.mpr z)), e1, h_b1_s, e2, h_b1_s, nI_c1]
      by_cases hp : ms.2.1 3 j = 0
      · rw [(S.2.2 j hj).1 hp, if_pos rfl, habs j hj hp]; rfl
      · obtain ⟨r1, I⟩ := (S.2.2 j hj).2 hp
        rw [r1, if_neg (fun z => by cases z), h_b1_s, e2, h_b1_s, r1, rcv_s I.1, h_b1_s, c_countE I, h_bd_s, ← eL_len, I.2.2.2.2.2.2.2.2.length_eq, eM_len, nI_add]) 8 h_hN 0 0 trivial rfl (h_hN_lt (by decide))
  refine Eq.trans key ?_
  show some (nI (fo (fun i a => a + cnt (liveE ms) (16 * i) 16) 0 8 0), σ) = _
  rw [fo_cnt16 8 0 0, Nat.zero_add]
theorem c_best_nil {i : Nat} (I : SvR σ G ms i) {now : Int32} (ep : Int32) (h : ∀ j, j < 16 → lvE now (eC σ (G 1 i) j) = false) : f_X6_best σ (some (G 0 i)) ep now = some (none, σ) := by
  unfold f_X6_best
  have key := lp_find (fun n k => g_X6_best_5 n σ (some (G 0 i)) ep now none k) 16 (fun _ => false) (fun _ => none) (some (none, σ))
    (fun n => by
      show g_X6_best_5 (n + 1) σ (some (G 0 i)) ep now none (nI 16) = _
      rw [g_X6_best_5, if_pos (show (16 : Int32) ≤ nI 16 by decide)])
    (fun n j hj => by
      show g_X6_best_5 (n + 1) σ (some (G 0 i)) ep now none (nI j) = if false = true then none else g_X6_best_5 n σ (some (G 0 i)) ep now none (nI (j + 1))
      rw [g_X6_best_5, if_neg (show ¬ (16 : Int32) ≤ nI j from fun z => absurd (nI_lt (a := j) (b := 16) hj (by decide)) (Int32.not_lt.mpr z)), rcv_s I.1, h_b1_s, c_isLive I hj now, h_bd_s, h j hj, if_pos (by rfl), nI_c1, if_neg (by decide)]) 16 h_hN 0 rfl (h_hN_lt (by decide))
  exact key
theorem c_longest_nil (F : Fx σ x) (S : Sx σ x G ms) {now : Int32} (ep : Int32) (h : ∀ i, i < 8 → pr ms i → ∀ j, j < 16 → lvE now (eC σ (G 1 i) j) = false) : f_X8_longestEntry σ (some (x + 1)) ep now = some (none, σ) := by
  unfold f_X8_longestEntry
  have key := lp_find (fun n k => g_X8_longestEntry_5 n σ (some (x + 1)) ep now none k) 8 (fun _ => false) (fun _ => none) (some (none, σ))
    (fun n => by
      show g_X8_longestEntry_5 (n + 1) σ (some (x + 1)) ep now none (nI 8) = _
      rw [g_X8_longestEntry_5, if_pos (show (8 : Int32) ≤ nI 8 by decide)])
    (fun n j hj => by
      show g_X8_longestEntry_5 (n + 1) σ (some (x + 1)) ep now none (nI j) = if false = true then none else g_X8_longestEntry_5 n σ (some (x + 1)) ep now none (nI (j + 1))
      obtain ⟨e1, e2⟩ := c_servers F S hj
      rw [g_X8_longestEntry_5, if_neg (show ¬ (8 : Int32) ≤ nI j from fun z => absurd (nI_lt (a := j) (b := 8) hj (by decide)) (Int32.not_lt.mpr z)), e1, h_b1_s, e2, h_b1_s, nI_c1]
      by_cases hp : ms.2.1 3 j = 0
      · rw [(S.2.2 j hj).1 hp, if_pos rfl, if_pos rfl, if_neg (by decide)]
      · obtain ⟨r1, I⟩ := (S.2.2 j hj).2 hp
        rw [r1, if_neg (fun z => by cases z), h_b1_s, e2, h_b1_s, r1, rcv_s I.1, h_b1_s, c_best_nil I ep (h j hj hp), h_bd_s, if_pos rfl, if_neg (by decide)]) 8 h_hN 0 rfl (h_hN_lt (by decide))
  exact key
theorem c_countNotes_nil (F : Fx σ x) (T : Tx fx σ x G ms) (h : ∀ s, s < 8 → ms.2.1 14 s = -1) : f_X9_countNotes σ (some x) = some (0, σ) := by
  unfold f_X9_countNotes
  have key := lp_find (fun n k => g_X9_countNotes_4 n σ (some x) 0 k) 8 (fun _ => false) (fun _ => none) (some (0, σ))
    (fun n => by
      show g_X9_countNotes_4 (n + 1) σ (some x) 0 (nI 8) = _
      rw [g_X9_countNotes_4, if_pos (show (8 : Int32) ≤ nI 8 by decide)])
    (fun n j hj => by
      show g_X9_countNotes_4 (n + 1) σ (some x) 0 (nI j) = if false = true then none else g_X9_countNotes_4 n σ (some x) 0 (nI (j + 1))
      obtain ⟨t0, ⟨-, r1, -⟩, -, -, ⟨t7, l7⟩, -⟩ := F
      have e2 : h_aR σ (some (x + 7)) 108 (nI j) = some (h_rv σ (x + 7) j) := aR_s t7 l7 hj (by decide)
      rw [g_X9_countNotes_4, if_neg (show ¬ (8 : Int32) ≤ nI j from fun z => absurd (nI_lt (a := j) (b := 8) hj (by decide)) (Int32.not_lt.mpr z)), gR_s t0, r1, h_b1_s, e2, h_b1_s, nI_c1, (T.2 j hj).1 (h j hj), if_pos rfl, if_neg (by decide)]) 8 h_hN 0 rfl (h_hN_lt (by decide))
  exact key
end ENT
end
/-! from 71.alloc -/
section
/-! WHAT A CALL MAKES: new cells behind the heap's end -/
def Ext (σ σ' : HS) : Prop := h_sz σ ≤ h_sz σ' ∧ (∀ b, b < h_sz σ → Sm σ σ' b) ∧ ∀ a, h_sz σ' ≤ a → h_tg σ' a = 0
theorem Ext_rpl {σ : HS} {a : Nat} (B : N0 σ a) (l : List Op) : Ext σ (rpl a l σ) := by
  refine ⟨by rw [rpl_sz B, B.1]; omega, fun b hb => rpl_lo B (by rw [← B.1]; exact hb) l, fun c hc => ?_⟩
  rw [rpl_sz B] at hc
  obtain ⟨d, rfl⟩ : ∃ d, c = a + d := ⟨c - a, by omega⟩
  rw [rpl_tg B]
  exact tgL_far l (by omega)
section ALC
variable {fx : Bool} {σ σ' : HS} {x a : Nat} {G : Nat → Nat → Nat} {ms : MS}
theorem Rep.lt (R : Rep fx σ x G ms) {b : Nat} (h : h_tg σ b ≠ 0) : b < h_sz σ := Nat.lt_of_not_le (fun z => h (R.1.2.1 b z))
theorem Rep.n0 (R : Rep fx σ x G ms) : N0 σ (h_sz σ) := ⟨rfl, R.1.2.1⟩
theorem Rep.ext (R : Rep fx σ x G ms) (E : Ext σ σ') : Rep fx σ' x G ms := by
  have hs : ∀ b, h_tg σ b ≠ 0 → Sm σ σ' b := fun b h => E.2.1 b (R.lt h)
  have h50 := R.1.1
  have hlo : ∀ k, k ≤ 49 → Sm σ σ' (x + k) := fun k hk => E.2.1 _ (by omega)
  obtain ⟨Z, F, N, Rr, W, K, S, T⟩ := R
  have h0 : Sm σ σ' x := hlo 0 (by omega)
  refine ⟨⟨by have := E.1; omega, E.2.2, fun b h1 h2 => ?_⟩, F.to ⟨fun b hb => ?_, h0.2.2.2.1, (hlo 1 (by omega)).2.2.2.1, (hlo 10 (by omega)).2.2.2.1⟩, N.to h0 rfl rfl rfl rfl rfl rfl, Rr.to (hlo 10 (by omega)) (hlo 11 (by omega)) rfl rfl (fun _ => rfl), W.to (hlo 8 (by omega)) (hlo 9 (by omega)) rfl (fun _ => rfl) (fun _ => rfl), K.to (hlo 14 (by omega)) (fun b hb => hs b (by rw [hb]; decide)) rfl (fun _ _ _ _ => rfl), S.to (hlo 2 (by omega)) (fun b hb => hs b (by rcases hb with h | h | h | h <;> rw [h] <;> decide)) (fun i hi hp => ?_) rfl (fun _ _ _ _ => rfl) rfl, T.to (hlo 7 (by omega)) (fun b hb => hs b (by rcases hb with h | h | h | h | h | h <;> rw [h] <;> decide)) rfl (fun _ _ _ _ => rfl)⟩
  · rw [(E.2.1 b (by omega)).1]
    exact Z.2.2 b h1 h2
  · exact ⟨(E.2.1 b (by omega)).1, (E.2.1 b (by omega)).2.1⟩
  · obtain ⟨-, -, -, -, -, -, ⟨-, b1, -⟩, -⟩ := (S.2.2 i hi).2 hp
    exact hs _ (by rw [b1]; decide)
theorem MV.ext {m : Nat} {A : Nat → Nat} (V : MV σ m A ms) (hz : ∀ b, h_sz σ ≤ b → h_tg σ b = 0) (E : Ext σ σ') : MV σ' m A ms := by
  have hs : ∀ b, h_tg σ b ≠ 0 → Sm σ σ' b := fun b h => E.2.1 b (Nat.lt_of_not_le (fun z => h (hz b z)))
  exact V.to (hs m (by rw [V.1]; decide)) (fun k hk => hs _ (by rw [(V.2.1 k hk).2.1]; exact hk))
theorem E_gI (B : N0 σ a) {l : List Op} {t off k : Nat} {v : Int32} (h : tgL off l = t) (ht : t ≠ 0) (h2 : ivL off k l = v) : h_gI (rpl a l σ) (some (a + off)) t k = some v := by
  rw [gI_s ((rpl_tg B off l).trans h), rpl_iv B _ _ _ (Or.inl (tg_lt h ht)), h2]
end ALC
def pS1 (b l c p : Int32) : List Op := (0, 5, 0, 2, 0) :: ([] : List Op)
def pS2 (b l c p : Int32) : List Op := (2, 0, 0, 0, b) :: (pS1 b l c p)
def pS3 (b l c p : Int32) : List Op := (2, 0, 1, 0, l) :: (pS2 b l c p)
def pS4 (b l c p : Int32) : List Op := (0, 7, 0, 5, 0) :: (pS3 b l c p)
def pS5 (b l c p : Int32) : List Op := (2, 1, 0, 0, c) :: (pS4 b l c p)
def pS6 (b l c p : Int32) : List Op := (2, 1, 1, 0, p) :: (pS5 b l c p)
def pS7 (b l c p : Int32) : List Op := (1, 1, 2, 0, 0) :: (pS6 b l c p)
def pS8 (b l c p : Int32) : List Op := (0, 103, 16, 16, 0) :: (pS7 b l c p)
def pS9 (b l c p : Int32) : List Op := (1, 1, 3, 2, 0) :: (pS8 b l c p)
def pS10 (b l c p : Int32) : List Op := (0, 101, 8, 8, 0) :: (pS9 b l c p)
def pS11 (b l c p : Int32) : List Op := (1, 1, 4, 3, 0) :: (pS10 b l c p)
def pS12 (b l c p : Int32) : List Op := lm6 3 0 8 (pS11 b l c p)
section ALP
variable {σ : HS} {a : Nat} {b l c p : Int32}
theorem of_no (h : vpB b l = false) : f_X4_of σ b l = some (none, σ) := by
  unfold f_X4_of
  by_cases h1 : l < 0
  · rw [if_pos h1]
  · rw [if_neg h1]
    by_cases h2 : 32 < l
    · rw [if_pos h2]
    · rw [if_neg h2]
      obtain ⟨n, hn, rfl⟩ := i32 ⟨Int32.not_lt.mp h1, Int32.not_lt.mp h2⟩
      rw [mask_eq σ hn, h_bd_s, if_neg]
      intro z
      have hv : vb n b = true := by unfold vb; exact decide_eq_true z
      unfold vpB at h
      rw [decide_eq_true ⟨Int32.not_lt.mp h1, Int32.not_lt.mp h2⟩, nI_clamp (by omega), hv] at h
      cases h
theorem of_yes (B : N0 σ a) (hz : a + 1 ≤ h_cz σ) (hs : h_sl σ + 2 ≤ h_ck σ) (h : vpB b l = true) (c p : Int32) : f_X4_of σ b l = some (some (a + 0), rpl a (pS3 b l c p) σ) := by
  obtain ⟨n, hn, rfl, hv⟩ := vpB_nI h
  have hv' : b &&& (mk n ^^^ (-1)) = 0 := of_decide_eq_true hv
  unfold f_X4_of
  rw [if_neg (nI_pos (by omega)), if_neg (show ¬ (32 : Int32) < nI n from Int32.not_lt.mpr (nI_le (a := n) (b := 32) hn (by decide))), mask_eq σ hn, h_bd_s, if_pos hv']
  have e : h_mk σ 5 2 = some (some (a + 0), rpl a (pS1 b (nI n) c p) σ) := E_mk B (l := ([] : List Op)) (l' := (pS1 b (nI n) c p)) (t := 5) (n := 2) (c := 0) (w := 0) rfl rfl rfl (by omega) (by omega)
  rw [e, h_bd_s, E_rcv B (l := (pS1 b (nI n) c p)) (off := 0) (t := 5) rfl, h_b1_s]
  unfold f_X4_init
  rw [h_b1_s, E_pI B (l := (pS1 b (nI n) c p)) (l' := (pS2 b (nI n) c p)) (off := 0) (t := 5) (k := 0) (v := b) rfl rfl, h_b1_s, E_pI B (l := (pS2 b (nI n) c p)) (l' := (pS3 b (nI n) c p)) (off := 0) (t := 5) (k := 1) (v := nI n) rfl rfl, h_b1_s, h_bd_s]
theorem sv_init (B : N0 σ a) (hz : a + 4 ≤ h_cz σ) (hs : h_sl σ + 31 ≤ h_ck σ) : f_X6_init (rpl a (pS4 b l c p) σ) (some (a + 1)) c p (some (a + 0)) = some ((), rpl a (pS12 b l c p) σ) := by
  unfold f_X6_init
  rw [h_b1_s, E_pI B (l := (pS4 b l c p)) (l' := (pS5 b l c p)) (off := 1) (t := 7) (k := 0) (v := c) rfl rfl, h_b1_s, E_pI B (l := (pS5 b l c p)) (l' := (pS6 b l c p)) (off := 1) (t := 7) (k := 1) (v := p) rfl rfl, h_b1_s, E_pR B (l := (pS6 b l c p)) (l' := (pS7 b l c p)) (off := 1) (t := 7) (k := 2) (r := 0) rfl rfl, h_b1_s, E_mkA B (l := (pS7 b l c p)) (l' := (pS8 b l c p)) (t := 103) (n := 16) (len := 16) (c := 2) (w := 7) rfl rfl (by decide) rfl rfl (by omega) (by omega), h_bd_s, E_pR B (l := (pS8 b l c p)) (l' := (pS9 b l c p)) (off := 1) (t := 7) (k := 3) (r := 2) rfl rfl, h_b1_s, E_mkA B (l := (pS9 b l c p)) (l' := (pS10 b l c p)) (t := 101) (n := 8) (len := 8) (c := 3) (w := 23) rfl rfl (by decide) rfl rfl (by omega) (by omega), h_bd_s, E_pR B (l := (pS10 b l c p)) (l' := (pS11 b l c p)) (off := 1) (t := 7) (k := 4) (r := 3) rfl rfl, h_b1_s]
  exact lq6 B 8 h_hN 0 (pS11 b l c p) rfl (by decide) rfl rfl rfl rfl
theorem sv_mk (B : N0 σ a) (hz : a + 4 ≤ h_cz σ) (hs : h_sl σ + 31 ≤ h_ck σ) : h_mk (rpl a (pS3 b l c p) σ) 7 5 = some (some (a + 1), rpl a (pS4 b l c p) σ) := E_mk B (l := (pS3 b l c p)) (l' := (pS4 b l c p)) (t := 7) (n := 5) (c := 1) (w := 2) rfl rfl rfl (by omega) (by omega)
theorem sv_rcv (B : N0 σ a) : h_rcv (rpl a (pS4 b l c p) σ) (some (a + 1)) 7 = some (a + 1) := E_rcv B (l := (pS4 b l c p)) (off := 1) (t := 7) rfl
end ALP
-- server: list pS12, 4 cells, 31 places
abbrev pSp (b l c p : Int32) : List Op := pS3 b l c p
abbrev pSs (b l c p : Int32) : List Op := pS4 b l c p
abbrev pSx (b l c p : Int32) : List Op := pS12 b l c p
def sT1 (p : Int32) : List Op := (0, 8, 0, 5, 0) :: ([] : List Op)
def sT2 (p : Int32) : List Op := (2, 0, 0, 0, p) :: (sT1 p)
def sT3 (p : Int32) : List Op := (0, 106, 4, 4, 0) :: (sT2 p)
def sT4 (p : Int32) : List Op := (1, 0, 2, 1, 0) :: (sT3 p)
def sT5 (p : Int32) : List Op := (0, 3, 0, 2, 0) :: (sT4 p)
def sT6 (p : Int32) : List Op := (0, 104, 6, 6, 0) :: (sT5 p)
def sT7 (p : Int32) : List Op := (1, 2, 0, 3, 0) :: (sT6 p)
def sT8 (p : Int32) : List Op := (1, 0, 4, 2, 0) :: (sT7 p)
section ALT
variable {σ : HS} {a : Nat} {p : Int32}
theorem si_mk (B : N0 σ a) (hz : a + 4 ≤ h_cz σ) (hs : h_sl σ + 17 ≤ h_ck σ) : h_mk σ 8 5 = some (some (a + 0), rpl a (sT1 p) σ) := E_mk B (l := ([] : List Op)) (l' := (sT1 p)) (t := 8) (n := 5) (c := 0) (w := 0) rfl rfl rfl (by omega) (by omega)
theorem si_rcv (B : N0 σ a) : h_rcv (rpl a (sT1 p) σ) (some (a + 0)) 8 = some (a + 0) := E_rcv B (l := (sT1 p)) (off := 0) (t := 8) rfl
theorem si_X2 (B : N0 σ a) (hz : a + 4 ≤ h_cz σ) (hs : h_sl σ + 17 ≤ h_ck σ) : f_X2_init (rpl a (sT5 p) σ) (some (a + 2)) = some ((), rpl a (sT7 p) σ) := by
  unfold f_X2_init
  rw [h_b1_s, E_mkA B (l := (sT5 p)) (l' := (sT6 p)) (t := 104) (n := 6) (len := 6) (c := 3) (w := 11) rfl rfl (by decide) rfl rfl (by omega) (by omega), h_bd_s, E_pR B (l := (sT6 p)) (l' := (sT7 p)) (off := 2) (t := 3) (k := 0) (r := 3) rfl rfl, h_b1_s]
theorem si_init (B : N0 σ a) (hz : a + 4 ≤ h_cz σ) (hs : h_sl σ + 17 ≤ h_ck σ) : f_X7_init (rpl a (sT1 p) σ) (some (a + 0)) p = some ((), rpl a (sT8 p) σ) := by
  unfold f_X7_init
  rw [h_b1_s, E_pI B (l := (sT1 p)) (l' := (sT2 p)) (off := 0) (t := 8) (k := 0) (v := p) rfl rfl, h_b1_s, E_mkA B (l := (sT2 p)) (l' := (sT3 p)) (t := 106) (n := 4) (len := 4) (c := 1) (w := 5) rfl rfl (by decide) rfl rfl (by omega) (by omega), h_bd_s, E_pR B (l := (sT3 p)) (l' := (sT4 p)) (off := 0) (t := 8) (k := 2) (r := 1) rfl rfl, h_b1_s, E_mk B (l := (sT4 p)) (l' := (sT5 p)) (t := 3) (n := 2) (c := 2) (w := 9) rfl rfl rfl (by omega) (by omega), h_bd_s, E_rcv B (l := (sT5 p)) (off := 2) (t := 3) rfl, h_b1_s, si_X2 B hz hs, h_bd_s, E_pR B (l := (sT7 p)) (l' := (sT8 p)) (off := 0) (t := 8) (k := 4) (r := 2) rfl rfl, h_b1_s]
end ALT
abbrev sTo (p : Int32) : List Op := sT1 p
abbrev sTx (p : Int32) : List Op := sT8 p
-- site: 4 cells, 17 places
end
/-! from 72.first -/
section
/-! ONE CALL: object and reference side by side -/
def lcV (cd : Nat → Option Int32) (F9 : Option (Except Nat Unit × HS)) (F10 : HS → Option (Unit × HS)) (x mo : Option Nat) (σ : HS) (K : HS → Prop) : Prop := ∃ q r σ1, h_rcv σ x 10 = some q ∧ F9 = some (r, σ1) ∧ (∀ k, r = .error k → (cd k).isSome = true) ∧ ∀ k σ2, h_hp cd (fun _ τ => some τ) r σ1 k σ2 → ∃ q2, h_rcv σ2 mo 11 = some q2 ∧ ∃ σ3, F10 σ2 = some ((), σ3) ∧ ∃ q3, h_rcv σ3 mo 11 = some q3 ∧ ∃ σ4, f_X10_thrown σ3 mo = some (k, σ4) ∧ K σ4
/-- what a caught exception may have left -/
def Bmp (σ1 σ2 : HS) : Prop := ∃ z w, h_sz σ1 ≤ z ∧ z ≤ h_sz σ1 + 1 ∧ w ≤ h_sl σ1 + 6 ∧ σ2 = h_bump σ1 z w
theorem lcV_of {cd : Nat → Option Int32} {F9 : Option (Except Nat Unit × HS)} {F10 : HS → Option (Unit × HS)} {x m : Nat} {A : Nat → Nat} {ms ms' : MS} {σ σ1 : HS} {r : Except Nat Unit} {c0 : Int32} {p : Option (Unit × MS)} {K : HS → Prop} (hx : h_tg σ x = 10) (h9 : F9 = some (r, σ1)) (hr : (r = .ok () ∧ c0 = 0) ∨ ∃ k, r = .error k ∧ cd k = some c0) (V : MV σ1 m A ms) (hp : p = some ((), ms')) (hc : ms'.1 0 = c0) (lift : ∀ τ, MV τ m A ms → Rl τ m A (F10 τ) p)
    (hK : ∀ σ2 σ4, (σ2 = σ1 ∧ r = .ok ()) ∨ Bmp σ1 σ2 → MF σ2 σ4 m A → MV σ4 m A ms' → K σ4) : lcV cd F9 F10 (some x) (some m) σ K := by
  refine ⟨x, r, σ1, rcv_s hx, h9, fun k hk => ?_, fun k σ2 h => ?_⟩
  · rcases hr with ⟨h, -⟩ | ⟨k', h, h2⟩
    · rw [h] at hk; cases hk
    · rw [h] at hk; cases hk; rw [h2]; rfl
  · have key : ((σ2 = σ1 ∧ r = .ok ()) ∨ Bmp σ1 σ2) ∧ k = c0 ∧ MV σ2 m A ms := by
      rcases hr with ⟨h1, h2⟩ | ⟨k', h1, h2⟩
      · subst h1
        have h' : k = 0 ∧ some σ1 = some σ2 := h
        obtain ⟨g1, g2⟩ := h'
        cases g2
        exact ⟨Or.inl ⟨rfl, rfl⟩, g1.trans h2.symm, V⟩
      · subst h1
        have h' : cd k' = some k ∧ ∃ z w, h_sz σ1 ≤ z ∧ z ≤ h_sz σ1 + 1 ∧ w ≤ h_sl σ1 + 6 ∧ σ2 = h_bump σ1 z w := h
        obtain ⟨g1, z, w, g2, g3, g4, g5⟩ := h'
        rw [h2] at g1
        refine ⟨Or.inr ⟨z, w, g2, g3, g4, g5⟩, (Option.some.inj g1).symm, ?_⟩
        rw [g5]; exact V
    obtain ⟨k1, k2, k3⟩ := key
    obtain ⟨σ3, l1, l2, l3⟩ := lift σ2 k3 _ _ hp
    obtain ⟨σ4, t1, t2, t3⟩ := q_X10_thrown l2 _ _ rfl
    refine ⟨m, rcv_s k3.1, σ3, l1, m, rcv_s l2.1, σ4, ?_, hK σ2 σ4 k1 (l3.tr t3) t2⟩
    rw [t1, hc, k2]
def lcI (cd : Nat → Option Int32) (F9 : Option (Except Nat Int32 × HS)) (F10 : HS → Option (Int32 × HS)) (x mo o : Option Nat) (σ : HS) (K : HS → Prop) : Prop := ∃ q r σ1, h_rcv σ x 10 = some q ∧ F9 = some (r, σ1) ∧ (∀ k, r = .error k → (cd k).isSome = true) ∧ (∀ v, r = .ok v → (h_sL σ1 o 101 0 (Int32.toInt64 v)).isSome = true) ∧ ∀ k σ2, h_hp cd (fun v τ => h_sL τ o 101 0 (Int32.toInt64 v)) r σ1 k σ2 → ∃ q2, h_rcv σ2 mo 11 = some q2 ∧ ∃ v σ3, F10 σ2 = some (v, σ3) ∧ ∃ q3, h_rcv σ3 mo 11 = some q3 ∧ ∃ σ4, f_X10_thrown σ3 mo = some (k, σ4) ∧ (k = 0 → h_aL σ4 o 101 0 = some (Int32.toInt64 v)) ∧ K σ4
theorem lcI_of {cd : Nat → Option Int32} {F9 : Option (Except Nat Int32 × HS)} {F10 : HS → Option (Int32 × HS)} {x m o : Nat} {A : Nat → Nat} {ms ms' : MS} {σ σ1 : HS} {r : Except Nat Int32} {v c0 : Int32} {p : Option (Int32 × MS)} {K : HS → Prop} (hx : h_tg σ x = 10) (ho : h_tg σ1 o = 101 ∧ h_ln σ1 o = 1) (hoA : o ≠ m ∧ ∀ k, k_tag k ≠ 0 → o ≠ A k) (h9 : F9 = some (r, σ1)) (hr : (r = .ok v ∧ c0 = 0) ∨ ∃ k, r = .error k ∧ cd k = some c0 ∧ ¬ c0 = 0) (V : MV σ1 m A ms) (hp : p = some (v, ms')) (hc : ms'.1 0 = c0) (lift : ∀ τ, MV τ m A ms → Rl τ m A (F10 τ) p)
    (hK : ∀ σ2 σ4, (σ2 = h_setL σ1 o 0 (Int32.toInt64 v) ∧ r = .ok v) ∨ Bmp σ1 σ2 → MF σ2 σ4 m A → MV σ4 m A ms' → K σ4) : lcI cd F9 F10 (some x) (some m) (some o) σ K := by
  have hsL : ∀ w : Int64, h_sL σ1 (some o) 101 0 w = some (h_setL σ1 o 0 w) := fun w => sL_s (i := 0) (n := 1) ho.1 ho.2 (by decide) (by decide)
  refine ⟨x, r, σ1, rcv_s hx, h9, fun k hk => ?_, fun w _ => by rw [hsL]; rfl, fun k σ2 h => ?_⟩
  · rcases hr with ⟨h, -⟩ | ⟨k', h, h2, -⟩
    · rw [h] at hk; cases hk
    · rw [h] at hk; cases hk; rw [h2]; rfl
  · have key : ((σ2 = h_setL σ1 o 0 (Int32.toInt64 v) ∧ r = .ok v) ∨ Bmp σ1 σ2) ∧ k = c0 ∧ MV σ2 m A ms ∧ (k = 0 → σ2 = h_setL σ1 o 0 (Int32.toInt64 v)) := by
      rcases hr with ⟨h1, h2⟩ | ⟨k', h1, h2, h3⟩
      · subst h1
        have h' : k = 0 ∧ h_sL σ1 (some o) 101 0 (Int32.toInt64 v) = some σ2 := h
        obtain ⟨g1, g2⟩ := h'
        rw [hsL] at g2
        have g3 := Option.some.inj g2
        refine ⟨Or.inl ⟨g3.symm, rfl⟩, g1.trans h2.symm, ?_, fun _ => g3.symm⟩
        rw [← g3]
        exact V.to (Sm_L (Ne.symm hoA.1)) (fun k hk => Sm_L (Ne.symm (hoA.2 k hk)))
      · subst h1
        have h' : cd k' = some k ∧ ∃ z w, h_sz σ1 ≤ z ∧ z ≤ h_sz σ1 + 1 ∧ w ≤ h_sl σ1 + 6 ∧ σ2 = h_bump σ1 z w := h
        obtain ⟨g1, z, w, g2, g3, g4, g5⟩ := h'
        rw [h2] at g1
        have hk := (Option.some.inj g1).symm
        refine ⟨Or.inr ⟨z, w, g2, g3, g4, g5⟩, hk, ?_, fun z => absurd (hk.symm.trans z) h3⟩
        rw [g5]; exact V
    obtain ⟨k1, k2, k3, k4⟩ := key
    obtain ⟨σ3, l1, l2, l3⟩ := lift σ2 k3 _ _ hp
    obtain ⟨σ4, t1, t2, t3⟩ := q_X10_thrown l2 _ _ rfl
    refine ⟨m, rcv_s k3.1, v, σ3, l1, m, rcv_s l2.1, σ4, ?_, fun hk0 => ?_, hK σ2 σ4 k1 (l3.tr t3) t2⟩
    · rw [t1, hc, k2]
    · have F := l3.tr t3
      obtain ⟨f1, f2, f3, f4, f5, f6, f7, f8⟩ := F
      have e2 := k4 hk0
      have g1 : h_tg σ4 o = 101 := by rw [f1, e2]; exact ho.1
      have g2 : h_ln σ4 o = 1 := by rw [f2, e2]; exact ho.2
      have g3 : h_lv σ4 o 0 = Int32.toInt64 v := by rw [(f8 o hoA.1 hoA.2 0).2, e2]; exact lv_sL
      have g4 := aL_s (i := 0) (n := 1) g1 g2 (by decide) (by decide)
      rw [g3] at g4
      exact g4
def lcN (F9 : Option (Int32 × HS)) (F10 : HS → Option (Int32 × HS)) (x mo : Option Nat) (σ : HS) (K : HS → Prop) : Prop := ∃ q v σ1, h_rcv σ x 10 = some q ∧ F9 = some (v, σ1) ∧ ∃ q2, h_rcv σ1 mo 11 = some q2 ∧ ∃ σ2, F10 σ1 = some (v, σ2) ∧ K σ2
theorem lcN_of {F9 : Option (Int32 × HS)} {F10 : HS → Option (Int32 × HS)} {x m : Nat} {A : Nat → Nat} {ms ms' : MS} {σ σ1 : HS} {v : Int32} {p : Option (Int32 × MS)} {K : HS → Prop} (hx : h_tg σ x = 10) (h9 : F9 = some (v, σ1)) (V : MV σ1 m A ms) (hp : p = some (v, ms')) (lift : Rl σ1 m A (F10 σ1) p) (hK : ∀ σ4, MF σ1 σ4 m A → MV σ4 m A ms' → K σ4) : lcN F9 F10 (some x) (some m) σ K := by
  obtain ⟨σ3, l1, l2, l3⟩ := lift _ _ hp
  exact ⟨x, v, σ1, rcv_s hx, h9, m, rcv_s V.1, σ3, l1, hK σ3 l3 l2⟩
theorem thr_of {α : Type} {k : Nat} {σ : HS} (h1 : h_sz σ + 1 ≤ h_cz σ) (h2 : h_sl σ + 6 ≤ h_ck σ) : (h_thr k σ : Option (Except Nat α × HS)) = some (.error k, σ) := if_pos ⟨h1, h2⟩
theorem s0_site (s : Int32) : siteB ms0 s = false := by
  cases h : siteB ms0 s with
  | false => rfl
  | true =>
    obtain ⟨i, h1, -, h3⟩ := siteB_nI h
    exact absurd (m0_14 i h1) h3
theorem s0_msg (k : Int32) : msgB 0 k = false := by
  cases h : msgB 0 k with
  | false => rfl
  | true =>
    obtain ⟨i, h1, -⟩ := msgB_some (by decide) h
    exact absurd h1 (Nat.not_lt_zero i)
theorem s0_srv {a : Int32} (h : srvB ms0 a = true) : a = 0 := by
  obtain ⟨i, h1, h2, h3⟩ := srvB_nI h
  have := (m0_pr h1).mp h3
  subst this
  exact h2
theorem s0_srv0 : srvB ms0 0 = true := by decide +kernel
theorem f_ne {b : Bool} (h : b = false) : ¬ b = true := by rw [h]; decide
section FST
variable {fx : Bool} {σ : HS} {x sl : Nat}
theorem St.room (S : St fx σ x sl) : h_sz σ + 1000 ≤ h_cz σ ∧ h_sl σ + 1000 ≤ h_ck σ := by
  obtain ⟨-, -, -, z, l, c, k⟩ := S
  have hcz : h_cz (h_0 x sl) = x + 600002 := rfl
  have hck : h_ck (h_0 x sl) = sl + 7302232 := rfl
  rw [z, l, c, k, hcz, hck]
  omega
theorem St.thr (S : St fx σ x sl) {α : Type} (k : Nat) : (h_thr k σ : Option (Except Nat α × HS)) = some (.error k, σ) := thr_of (by have := S.room; omega) (by have := S.room; omega)
theorem St.nA : x + 49 ≠ x + 15 ∧ ∀ k, k_tag k ≠ 0 → x + 49 ≠ kA (x + 15) k := ⟨by omega, fun k hk => by have := kA_lt (m := x + 15) hk; omega⟩
theorem St.hx (S : St fx σ x sl) : h_tg σ x = 10 := S.1.2.1.1
theorem St.site (S : St fx σ x sl) (s : Int32) : f_X9_siteAt σ (some x) s = some (none, σ) := by
  obtain ⟨-, F, -, -, -, -, -, T⟩ := S.1
  rw [c_siteAt F T, s0_site, if_neg (by decide)]
theorem St.has (S : St fx σ x sl) (k : Int32) : f_X5_has σ (some (x + 10)) k = some (0, σ) := by
  obtain ⟨-, F, -, R, -⟩ := S.1
  rw [c_has F R (n := 0) (m0_1 36 (by decide)) (by decide), s0_msg]
  rfl
theorem St.row (S : St fx σ x sl) : h_gR σ (some x) 10 4 = some (some (x + 10)) ∧ h_rcv σ (some (x + 10)) 6 = some (x + 10) := by
  obtain ⟨-, ⟨t0, ⟨-, -, -, -, r4, -⟩, -, -, -, -, -, ⟨t10, -⟩, -⟩, -⟩ := S.1
  exact ⟨by rw [gR_s t0, r4], rcv_s t10⟩
theorem lcV_err (S : St fx σ x sl) {cd : Nat → Option Int32} {F9 : Option (Except Nat Unit × HS)} {F10 : HS → Option (Unit × HS)} {p : Option (Unit × MS)} {ms' : MS} {c0 : Int32} {σ1 : HS} (k : Nat) (h9 : F9 = some (.error k, σ1)) (E : Ext σ σ1) (hcd : cd k = some c0) (hp : p = some ((), ms')) (hc : ms'.1 0 = c0) (lift : ∀ τ, MV τ (x + 15) (kA (x + 15)) ms0 → Rl τ (x + 15) (kA (x + 15)) (F10 τ) p) : lcV cd F9 F10 (some x) (some (x + 15)) σ (fun _ => True) :=
  lcV_of S.hx h9 (Or.inr ⟨k, rfl, hcd⟩) (S.2.1.ext S.1.1.2.1 E) hp hc lift (fun _ _ _ _ _ => trivial)
theorem Ext.rf (S : St fx σ x sl) : Ext σ σ := ⟨Nat.le_refl _, fun _ _ => Sm.rf, S.1.1.2.1⟩
theorem lcI_err (S : St fx σ x sl) {cd : Nat → Option Int32} {F9 : Option (Except Nat Int32 × HS)} {F10 : HS → Option (Int32 × HS)} {p : Option (Int32 × MS)} {ms' : MS} {v c0 : Int32} (k : Nat) (h9 : F9 = some (.error k, σ)) (hcd : cd k = some c0) (hc0 : ¬ c0 = 0) (hp : p = some (v, ms')) (hc : ms'.1 0 = c0) (lift : ∀ τ, MV τ (x + 15) (kA (x + 15)) ms0 → Rl τ (x + 15) (kA (x + 15)) (F10 τ) p) : lcI cd F9 F10 (some x) (some (x + 15)) (some (x + 49)) σ (fun _ => True) :=
  lcI_of S.hx S.2.2.1 St.nA h9 (Or.inr ⟨k, rfl, hcd, hc0⟩) S.2.1 hp hc lift (fun _ _ _ _ _ => trivial)
theorem first_prefix (S : St fx σ x sl) (a b c : Int32) : lcI cdL_prefix (f_X9_prefix σ (some x) a b c) (fun τ => f_X10_prefix τ (some (x + 15)) a b c) (some x) (some (x + 15)) (some (x + 49)) σ (fun _ => True) := by
  refine lcI_err S 1 (c0 := 1) (v := 0) (ms' := noM ms0) (p := p_X10_prefix ms0 a b c) ?_ rfl (by decide) ?_ noM_0 (fun τ V => q_X10_prefix V a b c)
  · unfold f_X9_prefix
    rw [rcv_s S.hx, h_b1_s, S.site, h_bd_s, if_pos rfl, S.thr]
  · rw [p_prefix_eq ms0 a b c MI_0.2.2.1 MI_0.2.2.2.2.2.2.1, if_neg (f_ne (by unfold prfB; rw [s0_site]; rfl))]
theorem first_register (S : St fx σ x sl) (a : Int32) : lcI cdL_register (f_X9_register σ (some x) a) (fun τ => f_X10_register τ (some (x + 15)) a) (some x) (some (x + 15)) (some (x + 49)) σ (fun _ => True) := by
  refine lcI_err S 1 (c0 := 1) (v := 0) (ms' := noM ms0) (p := p_X10_register ms0 a) ?_ rfl (by decide) ?_ noM_0 (fun τ V => q_X10_register V a)
  · unfold f_X9_register
    rw [rcv_s S.hx, h_b1_s, S.site, h_bd_s, if_pos rfl, S.thr]
  · rw [p_register_eq ms0 a (n := 0) (m0_1 36 (by decide)) (by decide) MI_0, s0_site, if_neg (by decide)]
theorem first_note (S : St fx σ x sl) (a b c : Int32) : lcI cdL_note (f_X9_note σ (some x) a b c) (fun τ => f_X10_note τ (some (x + 15)) a b c) (some x) (some (x + 15)) (some (x + 49)) σ (fun _ => True) := by
  refine lcI_err S 1 (c0 := 1) (v := 0) (ms' := noM ms0) (p := p_X10_note ms0 a b c) ?_ rfl (by decide) ?_ noM_0 (fun τ V => q_X10_note V a b c)
  · unfold f_X9_note
    rw [rcv_s S.hx, h_b1_s, S.site, h_bd_s, if_pos rfl, S.thr]
  · rw [p_note_eq ms0 a b c MI_0.2.2.2.2.2.1, s0_site, if_neg (by decide)]
theorem first_send (S : St fx σ x sl) (a b : Int32) : lcI cdL_send (f_X9_send σ (some x) a b) (fun τ => f_X10_send τ (some (x + 15)) a b) (some x) (some (x + 15)) (some (x + 49)) σ (fun _ => True) := by
  refine lcI_err S 1 (c0 := 2) (v := 0) (ms' := k_pI ms0 0 2) (p := p_X10_send ms0 a b) ?_ rfl (by decide) ?_ pI_s1 (fun τ V => q_X10_send V a b)
  · unfold f_X9_send
    obtain ⟨-, -, N, -⟩ := S.1
    rw [gI_s S.hx, N.1, m0_1 28 (by decide), h_b1_s, if_pos (by decide), rcv_s S.hx, h_b1_s, S.site, h_bd_s, if_pos rfl, S.thr]
  · rw [p_send_eq ms0 a b (n := 0) (np := 0) (m0_1 36 (by decide)) (by decide) (m0_1 28 (by decide)) (by decide) MI_0, s0_site, if_neg (by decide), if_neg (by decide)]
theorem first_message (S : St fx σ x sl) (a b : Int32) : lcI cdL_message (f_X9_message σ (some x) a b) (fun τ => f_X10_message τ (some (x + 15)) a b) (some x) (some (x + 15)) (some (x + 49)) σ (fun _ => True) := by
  refine lcI_err S 3 (c0 := 1) (v := 0) (ms' := noM ms0) (p := p_X10_message ms0 a b) ?_ rfl (by decide) ?_ noM_0 (fun τ V => q_X10_message V a b)
  · unfold f_X9_message
    rw [S.row.1, h_b1_s, S.row.2, h_b1_s, S.has, h_bd_s, if_pos rfl, S.thr]
  · rw [p_message_eq ms0 a b (n := 0) (m0_1 36 (by decide)) (by decide), s0_msg, Bool.false_and, if_neg (by decide)]
theorem first_packet (S : St fx σ x sl) (a b : Int32) : lcI cdL_packet (f_X9_packet σ (some x) a b) (fun τ => f_X10_packet τ (some (x + 15)) a b) (some x) (some (x + 15)) (some (x + 49)) σ (fun _ => True) := by
  have h0 : decide (1 ≤ a ∧ a ≤ (0 : Int32)) = false := decide_eq_false (fun h => absurd (Int32.le_trans h.1 h.2) (by decide))
  refine lcI_err S 1 (c0 := 1) (v := 0) (ms' := noM ms0) (p := p_X10_packet ms0 a b) ?_ rfl (by decide) ?_ noM_0 (fun τ V => q_X10_packet V a b)
  · unfold f_X9_packet
    obtain ⟨-, F, N, -, -, K, -⟩ := S.1
    have e28 : ms0.1 28 = 0 := m0_1 28 (by decide)
    rw [rcv_s S.hx, h_b1_s, c_packetAt F N K, e28, h0, if_neg (by decide), h_bd_s, if_pos rfl, S.thr]
  · rw [p_packet_eq ms0 a b (np := 0) (m0_1 28 (by decide)) (by decide)]
    have e : decide (1 ≤ a ∧ a ≤ nI 0) = false := h0
    rw [e, if_neg (by decide)]
theorem first_move (S : St fx σ x sl) (a b : Int32) : lcV cdL_move (f_X9_move σ (some x) a b) (fun τ => f_X10_move τ (some (x + 15)) a b) (some x) (some (x + 15)) σ (fun _ => True) := by
  refine lcV_err S 1 (c0 := 1) (ms' := noM ms0) (p := p_X10_move ms0 a b) (σ1 := σ) ?_ (Ext.rf S) rfl ?_ noM_0 (fun τ V => q_X10_move V a b)
  · unfold f_X9_move
    rw [rcv_s S.hx, h_b1_s, S.site, h_bd_s, if_pos rfl, S.thr]
  · rw [p_move_eq ms0 a b (i := 0) (p0 := 0) (fun h => by rw [s0_site] at h; cases h), if_neg (f_ne (by unfold moveB; rw [s0_site]; rfl))]
theorem first_carry (S : St fx σ x sl) (a : Int32) : lcV cdL_carry (f_X9_carry σ (some x) a) (fun τ => f_X10_carry τ (some (x + 15)) a) (some x) (some (x + 15)) σ (fun _ => True) := by
  refine lcV_err S 3 (c0 := 1) (ms' := noM ms0) (p := p_X10_carry ms0 a) (σ1 := σ) ?_ (Ext.rf S) rfl ?_ noM_0 (fun τ V => q_X10_carry V a)
  · unfold f_X9_carry
    rw [S.row.1, h_b1_s, S.row.2, h_b1_s, S.has, h_bd_s, if_pos rfl, S.thr]
  · rw [p_carry_eq ms0 a (n := 0) (np := 0) (m0_1 36 (by decide)) (by decide) (m0_1 28 (by decide)) (by decide) (fun i hi => absurd hi (Nat.not_lt_zero i)), s0_msg, if_neg (by decide)]
theorem first_repeat (S : St fx σ x sl) (a : Int32) : lcV cdL_repeat (f_X9_repeat σ (some x) a) (fun τ => f_X10_repeat τ (some (x + 15)) a) (some x) (some (x + 15)) σ (fun _ => True) := by
  refine lcV_err S 3 (c0 := 1) (ms' := noM ms0) (p := p_X10_repeat ms0 a) (σ1 := σ) ?_ (Ext.rf S) rfl ?_ noM_0 (fun τ V => q_X10_repeat V a)
  · unfold f_X9_repeat
    rw [S.row.1, h_b1_s, S.row.2, h_b1_s, S.has, h_bd_s, if_pos rfl, S.thr]
  · rw [p_repeat_eq ms0 a (n := 0) (m0_1 36 (by decide)) (by decide), s0_msg, if_neg (by decide)]
theorem first_drop (S : St fx σ x sl) (a : Int32) : lcV cdL_drop (f_X9_drop σ (some x) a) (fun τ => f_X10_drop τ (some (x + 15)) a) (some x) (some (x + 15)) σ (fun _ => True) := by
  refine lcV_err S 3 (c0 := 1) (ms' := noM ms0) (p := p_X10_drop ms0 a) (σ1 := σ) ?_ (Ext.rf S) rfl ?_ noM_0 (fun τ V => q_X10_drop V a)
  · unfold f_X9_drop
    rw [S.row.1, h_b1_s, S.row.2, h_b1_s, S.has, h_bd_s, if_pos rfl, S.thr]
  · rw [p_drop_eq ms0 a (n := 0) (m0_1 36 (by decide)) (by decide), s0_msg, if_neg (by decide)]
theorem first_forge (S : St fx σ x sl) (a b c : Int32) : lcV cdL_forge (f_X9_forge σ (some x) a b c) (fun τ => f_X10_forge τ (some (x + 15)) a b c) (some x) (some (x + 15)) σ (fun _ => True) := by
  refine lcV_err S 3 (c0 := 1) (ms' := noM ms0) (p := p_X10_forge ms0 a b c) (σ1 := σ) ?_ (Ext.rf S) rfl ?_ noM_0 (fun τ V => q_X10_forge V a b c)
  · unfold f_X9_forge
    rw [S.row.1, h_b1_s, S.row.2, h_b1_s, S.has, h_bd_s, if_pos rfl, S.thr]
  · rw [p_forge_eq ms0 a b c (n := 0) (m0_1 36 (by decide)) (by decide), s0_msg, Bool.false_and, if_neg (by decide)]
theorem p_run_0 {ms : MS} (h : ms.1 36 = 0) (a : Int32) : p_X10_run ms a = some (0, if 0 ≤ a ∧ a ≤ 1000 then okM ms else noM ms) := by
  unfold p_X10_run
  rw [p_in_eq, k_bd_s]
  by_cases hc : 0 ≤ a ∧ a ≤ 1000
  · rw [decide_eq_true hc, if_neg (by decide), if_pos hc]
    show pg_X10_run_22 (1999 + 1) (okM ms) a 0 = _
    rw [pg_X10_run_22, if_pos okM_0]
    by_cases h2 : a ≤ 0
    · rw [if_pos h2]
    · rw [if_neg h2, okM_1 (by decide), h, if_pos (by decide)]
  · rw [decide_eq_false hc, if_pos (by decide), if_neg hc]
    show pg_X10_run_22 (1999 + 1) (noM ms) a 0 = _
    rw [pg_X10_run_22, noM_0, if_neg (by decide)]
theorem first_run (S : St fx σ x sl) (a : Int32) : lcI cdL_run (f_X9_run σ (some x) a) (fun τ => f_X10_run τ (some (x + 15)) a) (some x) (some (x + 15)) (some (x + 49)) σ (fun _ => True) := by
  by_cases h1 : a < 0
  · refine lcI_err S 1 (c0 := 1) (v := 0) (ms' := noM ms0) (p := p_X10_run ms0 a) ?_ rfl (by decide) ?_ noM_0 (fun τ V => q_X10_run V a)
    · unfold f_X9_run
      rw [if_pos h1, S.thr]
    · rw [p_run_0 (m0_1 36 (by decide)), if_neg (fun z => absurd h1 (Int32.not_lt.mpr z.1))]
  · by_cases h2 : a ≤ 1000
    · refine lcI_of S.hx S.2.2.1 St.nA (r := .ok 0) (v := 0) (c0 := 0) (σ1 := σ) (ms' := okM ms0) (p := p_X10_run ms0 a) ?_ (Or.inl ⟨rfl, rfl⟩) S.2.1 ?_ okM_0 (fun τ V => q_X10_run V a) (fun _ _ _ _ _ => trivial)
      · unfold f_X9_run
        rw [if_neg h1, if_pos h2]
        show g_X9_run_23 (1999 + 1) σ (some x) a 0 = _
        rw [g_X9_run_23]
        by_cases h3 : a ≤ 0
        · rw [if_pos h3]
        · obtain ⟨-, ⟨-, -, -, -, -, -, -, ⟨t10, -⟩, -⟩, -, R, -⟩ := S.1
          obtain ⟨f, n, -, hn, -, r2, r3, -⟩ := R
          have e36 : ms0.1 36 = 0 := m0_1 36 (by decide)
          have hv : h_iv σ (x + 10) 2 = 0 := by rw [r2, ← r3, e36]
          rw [if_neg h3, S.row.1, h_b1_s, gI_s t10, hv, h_b1_s, if_pos (by decide)]
      · rw [p_run_0 (m0_1 36 (by decide)), if_pos ⟨Int32.not_lt.mp h1, h2⟩]
    · refine lcI_err S 1 (c0 := 1) (v := 0) (ms' := noM ms0) (p := p_X10_run ms0 a) ?_ rfl (by decide) ?_ noM_0 (fun τ V => q_X10_run V a)
      · unfold f_X9_run
        rw [if_neg h1, if_neg h2, S.thr]
      · rw [p_run_0 (m0_1 36 (by decide)), if_neg (fun z => h2 z.2)]
end FST
section PSS
variable {fx : Bool} {σ : HS} {x : Nat} {G : Nat → Nat → Nat} {ms : MS}
theorem c_pass (F : Fx σ x) (N : Nx σ x ms) (ht : (h_thr 1 σ : Option (Except Nat Unit × HS)) = some (.error 1, σ)) (t : Int32) : f_X9_pass σ (some x) t = some (if passB ms t = true then (.ok (), h_setI σ x 9 (ms.1 1 + t)) else (.error 1, σ)) := by
  unfold f_X9_pass passB
  by_cases h1 : t < 1
  · rw [if_pos h1, ht, decide_eq_false (fun z => absurd h1 (Int32.not_lt.mpr z.1)), Bool.false_and, if_neg (by decide)]
  · rw [if_neg h1]
    by_cases h2 : 1000 < t
    · rw [if_pos h2, ht, decide_eq_false (fun z => absurd h2 (Int32.not_lt.mpr z.2)), Bool.false_and, if_neg (by decide)]
    · rw [if_neg h2, decide_eq_true ⟨Int32.not_lt.mp h1, Int32.not_lt.mp h2⟩, gI_s F.1, N.2.1, h_b1_s, Bool.true_and]
      by_cases h3 : ms.1 1 + t ≤ 1000000
      · rw [if_pos h3, h_b1_s, pI_s F.1, h_b1_s, decide_eq_true h3, if_pos rfl]
      · rw [if_neg h3, ht, decide_eq_false h3, if_neg (by decide)]
end PSS
end
/-! from 73.first2 -/
section
/-! MORE CALLS: pass, count, truth, site, delegate -/
theorem cnt_zero {P : Nat → Bool} : ∀ (c i : Nat), cnt P i c = 0 → ∀ j, i ≤ j → j < i + c → P j = false
  | 0, i, _, j, h1, h2 => by omega
  | c + 1, i, h, j, h1, h2 => by
    have h' : (if P i = true then 1 else 0) + cnt P (i + 1) c = 0 := h
    have ha : (if P i = true then 1 else 0) = 0 := by omega
    have hb : cnt P (i + 1) c = 0 := by omega
    by_cases e : j = i
    · subst e
      cases hp : P j with
      | false => rfl
      | true => rw [hp, if_pos rfl] at ha; omega
    · exact cnt_zero c (i + 1) hb j (by omega) (by omega)
section CLS
variable {fx : Bool} {σ : HS} {x : Nat} {G : Nat → Nat → Nat} {ms : MS}
theorem c_count (R : Rep fx σ x G ms) (hE : f_X8_countEntries σ (some (x + 1)) (ms.1 1) = some (nI (cnt (liveE ms) 0 128), σ)) (hN : f_X9_countNotes σ (some x) = some (nI (cnt (liveN ms) 0 48), σ)) (w : Int32) : f_X9_count σ (some x) w = some (cntV ms w, σ) := by
  obtain ⟨-, F, N, Rr, -⟩ := R
  obtain ⟨t0, ⟨r0, -, -, -, r4, -⟩, ⟨t1, -⟩, -, -, -, -, ⟨t10, -⟩, -⟩ := F
  obtain ⟨n1, n2, n3, n4, n5, n6⟩ := N
  obtain ⟨f, n, -, -, -, q2, q3, q4, -⟩ := Rr
  have e4 : h_gR σ (some x) 10 4 = some (some (x + 10)) := by rw [gR_s t0, r4]
  have e0 : h_gR σ (some x) 10 0 = some (some (x + 1)) := by rw [gR_s t0, r0]
  unfold f_X9_count cntV
  by_cases h0 : w = 0
  · rw [if_pos h0, if_pos h0, e4, h_b1_s, gI_s t10, h_b1_s, q2, q3]
  rw [if_neg h0, if_neg h0]
  by_cases h1 : w = 1
  · rw [if_pos h1, if_pos h1, gI_s t0, h_b1_s, n4]
  rw [if_neg h1, if_neg h1]
  by_cases h2 : w = 2
  · rw [if_pos h2, if_pos h2, gI_s t0, h_b1_s, n5]
  rw [if_neg h2, if_neg h2]
  by_cases h3 : w = 3
  · rw [if_pos h3, if_pos h3, gI_s t0, h_b1_s, n6]
  rw [if_neg h3, if_neg h3]
  by_cases h4 : w = 4
  · rw [if_pos h4, if_pos h4, e4, h_b1_s, gI_s t10, h_b1_s, q4]
  rw [if_neg h4, if_neg h4]
  by_cases h5 : w = 5
  · rw [if_pos h5, if_pos h5, gI_s t0, h_b1_s, n1]
  rw [if_neg h5, if_neg h5]
  by_cases h6 : w = 6
  · rw [if_pos h6, if_pos h6, gI_s t0, h_b1_s, n2]
  rw [if_neg h6, if_neg h6]
  by_cases h7 : w = 7
  · rw [if_pos h7, if_pos h7, e0, h_b1_s, gI_s t0, h_b1_s, n2, rcv_s t1, h_b1_s, hE, h_bd_s]
  rw [if_neg h7, if_neg h7]
  by_cases h8 : w = 8
  · rw [if_pos h8, if_pos h8, rcv_s t0, h_b1_s, hN, h_bd_s]
  rw [if_neg h8, if_neg h8]
/-- a site comes -/
theorem c_site (R : Rep fx σ x G ms) (hz : h_sz σ + 4 ≤ h_cz σ) (hs : h_sl σ + 17 ≤ h_ck σ) (s pl : Int32) : f_X9_site σ (some x) s pl = some (if siteMB ms s pl = true then (.ok (), h_setR (rpl (h_sz σ) (sTx pl) σ) (x + 7) s.toNatClampNeg (some (h_sz σ + 0))) else (.error 1, σ)) := by
  have ht : (h_thr 1 σ : Option (Except Nat Unit × HS)) = some (.error 1, σ) := thr_of (by omega) (by omega)
  have B := R.n0
  have h50 := R.1.1
  obtain ⟨-, F, -, -, -, -, -, T⟩ := R
  have t7 := F.2.2.2.2.1
  have e1 : h_gR σ (some x) 10 1 = some (some (x + 7)) := by rw [gR_s F.1, F.2.1.2.1]
  unfold f_X9_site siteMB
  by_cases h1 : s < 0
  · rw [if_pos h1, ht, decide_eq_false (fun z => absurd h1 (Int32.not_lt.mpr z.1)), Bool.false_and, if_neg (by decide)]
  rw [if_neg h1]
  by_cases h2 : 8 ≤ s
  · rw [if_pos h2, ht, decide_eq_false (fun z => absurd (Int32.le_trans h2 z.2) (by decide)), Bool.false_and, if_neg (by decide)]
  obtain ⟨i, hi, rfl⟩ := b8 h1 (Int32.not_le.mp h2)
  have h07 : 0 ≤ nI i ∧ nI i ≤ 7 := ⟨Int32.not_lt.mp h1, nI_le (a := i) (b := 7) (by omega) (by decide)⟩
  have e2 : h_aR σ (some (x + 7)) 108 (nI i) = some (h_rv σ (x + 7) i) := aR_s t7.1 t7.2 hi (by decide)
  rw [if_neg h2, e1, h_b1_s, e2, h_b1_s, decide_eq_true h07, Bool.true_and, nI_clamp (by omega)]
  by_cases h3 : ms.2.1 14 i = -1
  · rw [(T.2 i hi).1 h3, if_pos rfl, c_isPlace, h_bd_s, decide_eq_true h3, Bool.true_and]
    by_cases h4 : 0 ≤ pl ∧ pl ≤ 15
    · have hne : ¬ pl = -1 := fun z => by rw [z] at h4; exact absurd h4.1 (by decide)
      rw [decide_eq_true h4, b2i_t, if_neg (by decide), rcv_s F.1, h_b1_s, c_hostOf F T hne, h_bd_s, Bool.true_and]
      by_cases h5 : freeB ms pl = true
      · have lo := rpl_lo B (a := x + 7) (by omega) (sTx pl)
        have e3 : h_sR (rpl (h_sz σ) (sTx pl) σ) (some (x + 7)) 108 8 (nI i) (some (h_sz σ + 0)) = some (h_setR (rpl (h_sz σ) (sTx pl) σ) (x + 7) i (some (h_sz σ + 0))) := sR_s (by rw [lo.1]; exact t7.1) (by rw [lo.2.1]; exact t7.2) hi (by decide) (decide_eq_true ((rpl_tg B 0 (sTx pl)).trans rfl))
        rw [if_pos ((o2i_free ms pl).mpr h5), e1, h_b1_s, si_mk (p := pl) B hz hs, h_bd_s, si_rcv B, h_b1_s, si_init B hz hs, h_bd_s, e3, h_b1_s, if_pos h5]
      · rw [if_neg (fun z => h5 ((o2i_free ms pl).mp z)), ht, if_neg h5]
    · rw [decide_eq_false h4, b2i_f, if_pos rfl, ht, Bool.false_and, if_neg (by decide)]
  · rw [((T.2 i hi).2 h3).1, if_neg (fun z => by cases z), ht, decide_eq_false h3, Bool.false_and, if_neg (by decide)]
/-- a part is given away -/
theorem c_delegate (R : Rep fx σ x G ms) (Tt : Tr ms) (hz : h_sz σ + 5 ≤ h_cz σ) (hs : h_sl σ + 40 ≤ h_ck σ) (p c b l : Int32) : ∃ r σ1, f_X9_delegate σ (some x) p c b l = some (r, σ1) ∧ ((delB ms p c b l = true ∧ r = .ok () ∧ σ1 = h_setR (rpl (h_sz σ) (pSx b l c p) σ) (x + 2) c.toNatClampNeg (some (h_sz σ + 1))) ∨ (delB ms p c b l = false ∧ r = .error 1 ∧ (σ1 = σ ∨ σ1 = rpl (h_sz σ) (pSp b l c p) σ))) := by
  have ht : (h_thr 1 σ : Option (Except Nat Unit × HS)) = some (.error 1, σ) := thr_of (by omega) (by omega)
  have B := R.n0
  have h50 := R.1.1
  have R0 := R
  obtain ⟨-, F, -, -, -, -, S, -⟩ := R
  have e0 : h_gR σ (some x) 10 0 = some (some (x + 1)) := by rw [gR_s F.1, F.2.1.1]
  have t1 := F.2.2.1
  unfold f_X9_delegate delB
  rw [e0, h_b1_s, rcv_s t1.1, h_b1_s, c_at F S, h_bd_s]
  by_cases h1 : srvB ms p = true
  · obtain ⟨i, hi, rfl, hpr⟩ := srvB_nI h1
    rw [h1, if_pos rfl, if_neg (fun z => by cases z), Bool.true_and, nI_clamp (by omega)]
    by_cases h2 : c < 0
    · rw [if_pos h2, ht, decide_eq_false (fun z => absurd h2 (Int32.not_lt.mpr z.1))]
      exact ⟨_, _, rfl, Or.inr ⟨rfl, rfl, Or.inl rfl⟩⟩
    rw [if_neg h2]
    by_cases h3 : 8 ≤ c
    · rw [if_pos h3, ht, decide_eq_false (fun z => absurd (Int32.le_trans h3 z.2) (by decide))]
      exact ⟨_, _, rfl, Or.inr ⟨rfl, rfl, Or.inl rfl⟩⟩
    obtain ⟨k, hk, rfl⟩ := b8 h2 (Int32.not_le.mp h3)
    have h07 : 0 ≤ nI k ∧ nI k ≤ 7 := ⟨Int32.not_lt.mp h2, nI_le (a := k) (b := 7) (by omega) (by decide)⟩
    rw [if_neg h3, e0, h_b1_s, rcv_s t1.1, h_b1_s, c_at F S, h_bd_s, decide_eq_true h07, Bool.true_and, srvB_i hk, nI_clamp (n := k) (by omega)]
    by_cases h4 : ms.2.1 3 k = 0
    · rw [decide_eq_false (fun z => z h4), if_neg (show ¬ (false = true) by decide), if_pos rfl, decide_eq_true h4, Bool.true_and]
      cases h5 : vpB b l with
      | false =>
        rw [of_no h5, h_bd_s, if_pos rfl, ht]
        exact ⟨_, _, rfl, Or.inr ⟨rfl, rfl, Or.inl rfl⟩⟩
      | true =>
        rw [of_yes B (by omega) (by omega) h5 (nI k) (nI i), h_bd_s, if_neg (fun z => by cases z), Bool.true_and]
        obtain ⟨n, hn, rfl, hv⟩ := vpB_nI h5
        have E := Ext_rpl B (pSp b (nI n) (nI k) (nI i))
        have hcz := (rpl_c (x := h_sz σ) (σ := σ) (pSp b (nI n) (nI k) (nI i)))
        have hsz : h_sz (rpl (h_sz σ) (pSp b (nI n) (nI k) (nI i)) σ) = h_sz σ + 1 := rpl_sz B _
        have hsl : h_sl (rpl (h_sz σ) (pSp b (nI n) (nI k) (nI i)) σ) = h_sl σ + 2 := rpl_sl _
        have R1 := R0.ext E
        have hP1 : hP (rpl (h_sz σ) (pSp b (nI n) (nI k) (nI i)) σ) (h_sz σ + 0) b n := ⟨rpl_tg B 0 _, rpl_iv B 0 0 _ (Or.inl (show 0 < 1 by decide)), rpl_iv B 0 1 _ (Or.inl (show 0 < 1 by decide)), hn, hv⟩
        show ∃ r σ1, h_b1 (h_gR (rpl (h_sz σ) (pSp b (nI n) (nI k) (nI i)) σ) (some (G 0 i)) 7 2) _ = some (r, σ1) ∧ _
        generalize hτ : rpl (h_sz σ) (pSp b (nI n) (nI k) (nI i)) σ = τ at E hcz hsz hsl R1 hP1 ⊢
        have ht1 : (h_thr 1 τ : Option (Except Nat Unit × HS)) = some (.error 1, τ) := thr_of (by rw [hsz, hcz.1]; omega) (by rw [hsl, hcz.2]; omega)
        obtain ⟨-, F1, -, -, -, -, S1, -⟩ := R1
        obtain ⟨-, q, hq, hPq⟩ := c_sv S1 F1 hi hpr
        have e01 : h_gR τ (some x) 10 0 = some (some (x + 1)) := by rw [gR_s F1.1, F1.2.1.1]
        rw [hq, h_b1_s, rcv_s hP1.1, h_b1_s, same_eq hP1 hPq, h_bd_s]
        have hown : (ownE ms b (ln (nI n)) = some i) ↔ ownB ms b n i = true := by rw [ln_nI hn, ownE_iff Tt hn, ownB_iff Tt hi hpr]
        have hpl : (ms.2.1 5 i = nI n) ↔ n = pL ms i := by
          obtain ⟨g1, g2⟩ := Ln_nI (Tt.2.1 i hi)
          constructor
          · intro z
            have : ln (ms.2.1 5 i) = ln (nI n) := by rw [z]
            rw [ln_nI hn] at this
            exact this.symm
          · intro z
            rw [g1, z]; rfl
        cases hsm : (decide (b = pB ms i) && decide (n = pL ms i)) with
        | true =>
          rw [b2i_t, if_neg (by decide), ht1]
          have := (Bool.and_eq_true _ _).mp hsm
          have hn2 := of_decide_eq_true this.2
          rw [decide_eq_false (show ¬ ¬ ms.2.1 5 i = nI n from fun z => z (hpl.mpr hn2)), Bool.and_false]
          exact ⟨_, _, rfl, Or.inr ⟨rfl, rfl, Or.inr rfl⟩⟩
        | false =>
          rw [b2i_f, if_pos rfl, e01, h_b1_s, rcv_s F1.2.2.1.1, h_b1_s, c_owns F1 S1 Tt hi hpr hP1, h_bd_s]
          cases hob : ownB ms b n i with
          | false =>
            rw [b2i_f, if_pos rfl, ht1, decide_eq_false (fun z => by rw [hown.mp z] at hob; cases hob)]
            exact ⟨_, _, rfl, Or.inr ⟨rfl, rfl, Or.inr rfl⟩⟩
          | true =>
            have how := (ownB_iff Tt hi hpr).mp hob
            have hne : ¬ ms.2.1 5 i = nI n := fun z => by
              have hn2 := hpl.mp z
              have hag : ag (pL ms i) b (pB ms i) = true := how.2.2.1.2
              have hvb := Tt.2.2.1 i hi hpr
              rw [← hn2] at hag hvb
              have hbb := vb_eq hn hv hvb hag
              rw [decide_eq_true hbb, decide_eq_true hn2] at hsm
              cases hsm
            have B' := B
            rw [b2i_t, if_neg (by decide), e01, h_b1_s, ← hτ, sv_mk B (by omega) (by omega), h_bd_s, sv_rcv B, h_b1_s, sv_init B (by omega) (by omega), h_bd_s, decide_eq_true (hown.mpr hob), decide_eq_true hne]
            have R2 := R0.ext (Ext_rpl B (pSx b (nI n) (nI k) (nI i)))
            obtain ⟨-, F2, -, -, -, -, S2, -⟩ := R2
            have g1 : h_gI (rpl (h_sz σ) (pSx b (nI n) (nI k) (nI i)) σ) (some (h_sz σ + 1)) 7 0 = some (nI k) := E_gI B rfl (by decide) rfl
            have g2 : h_gR (rpl (h_sz σ) (pSx b (nI n) (nI k) (nI i)) σ) (some (x + 1)) 9 0 = some (some (x + 2)) := (c_servers F2 S2 hk).1
            have g3 : h_sR (rpl (h_sz σ) (pSx b (nI n) (nI k) (nI i)) σ) (some (x + 2)) 107 7 (nI k) (some (h_sz σ + 1)) = some (h_setR (rpl (h_sz σ) (pSx b (nI n) (nI k) (nI i)) σ) (x + 2) k (some (h_sz σ + 1))) := sR_s F2.2.2.2.1.1 F2.2.2.2.1.2 hk (by decide) (decide_eq_true ((rpl_tg B 1 _).trans rfl))
            have hpl : f_X8_plant (rpl (h_sz σ) (pSx b (nI n) (nI k) (nI i)) σ) (some (x + 1)) (some (h_sz σ + 1)) = some ((), h_setR (rpl (h_sz σ) (pSx b (nI n) (nI k) (nI i)) σ) (x + 2) k (some (h_sz σ + 1))) := by
              unfold f_X8_plant
              rw [g1, h_b1_s, if_neg h2, h_b1_s, if_neg h3, g2, h_b1_s, h_b1_s, g3, h_b1_s]
            rw [rcv_s F2.2.2.1.1, h_b1_s, hpl, h_bd_s]
            exact ⟨_, _, rfl, Or.inl ⟨rfl, rfl, rfl⟩⟩
    · rw [decide_eq_true h4, if_pos rfl, if_neg (fun z => by cases z), ht, decide_eq_false h4]
      exact ⟨_, _, rfl, Or.inr ⟨rfl, rfl, Or.inl rfl⟩⟩
  · have h1' : srvB ms p = false := by cases h : srvB ms p with
      | false => rfl
      | true => exact absurd h h1
    rw [h1', if_neg (show ¬ (false = true) by decide), if_pos rfl, ht]
    exact ⟨_, _, rfl, Or.inr ⟨rfl, rfl, Or.inl rfl⟩⟩
end CLS
section FST
variable {fx : Bool} {σ : HS} {x sl : Nat}
theorem first_pass (S : St fx σ x sl) (t : Int32) : lcV cdL_pass (f_X9_pass σ (some x) t) (fun τ => f_X10_pass τ (some (x + 15)) t) (some x) (some (x + 15)) σ (fun _ => True) := by
  obtain ⟨-, F, N, -⟩ := S.1
  have h9 := c_pass F N (S.thr 1) t
  have hp := p_pass_eq ms0 t
  by_cases h : passB ms0 t = true
  · rw [if_pos h] at h9 hp
    refine lcV_of S.hx h9 (Or.inl ⟨rfl, rfl⟩) (S.2.1.to (Sm_I (by omega)) (fun k hk => Sm_I (by have := kA_lt (m := x + 15) hk; omega))) hp ?_ (fun τ V => q_X10_pass V t) (fun _ _ _ _ _ => trivial)
    rw [pI_n1 (by decide)]
    exact okM_0
  · rw [if_neg h] at h9 hp
    exact lcV_err S 1 h9 (Ext.rf S) rfl hp noM_0 (fun τ V => q_X10_pass V t)
theorem first_site (S : St fx σ x sl) (s pl : Int32) : lcV cdL_site (f_X9_site σ (some x) s pl) (fun τ => f_X10_site τ (some (x + 15)) s pl) (some x) (some (x + 15)) σ (fun _ => True) := by
  have hr := S.room
  have h9 := c_site S.1 (by omega) (by omega) s pl
  have hp := p_site_eq ms0 s pl
  by_cases h : siteMB ms0 s pl = true
  · rw [if_pos h] at h9 hp
    have V1 := S.2.1.ext S.1.1.2.1 (Ext_rpl S.1.n0 (sTx pl))
    exact lcV_of S.hx h9 (Or.inl ⟨rfl, rfl⟩) (V1.to (Sm_R (by omega)) (fun k hk => Sm_R (by have := kA_lt (m := x + 15) hk; omega))) hp (okM_0 (ms := ms0)) (fun τ V => q_X10_site V s pl) (fun _ _ _ _ _ => trivial)
  · rw [if_neg h] at h9 hp
    exact lcV_err S 1 h9 (Ext.rf S) rfl hp noM_0 (fun τ V => q_X10_site V s pl)
theorem first_delegate (S : St fx σ x sl) (p c b l : Int32) : lcV cdL_delegate (f_X9_delegate σ (some x) p c b l) (fun τ => f_X10_delegate τ (some (x + 15)) p c b l) (some x) (some (x + 15)) σ (fun _ => True) := by
  have hr := S.room
  obtain ⟨r, σ1, h9, h⟩ := c_delegate S.1 Tr_0 (by omega) (by omega) p c b l
  have hp := p_delegate_eq ms0 p c b l MI_0.2.2.1
  rcases h with ⟨h1, rfl, rfl⟩ | ⟨h1, rfl, h2⟩
  · rw [if_pos h1] at hp
    have V1 := S.2.1.ext S.1.1.2.1 (Ext_rpl S.1.n0 (pSx b l c p))
    exact lcV_of S.hx h9 (Or.inl ⟨rfl, rfl⟩) (V1.to (Sm_R (by omega)) (fun k hk => Sm_R (by have := kA_lt (m := x + 15) hk; omega))) hp (okM_0 (ms := ms0)) (fun τ V => q_X10_delegate V p c b l) (fun _ _ _ _ _ => trivial)
  · rw [h1, if_neg (by decide)] at hp
    have E : Ext σ σ1 := by
      rcases h2 with rfl | rfl
      · exact Ext.rf S
      · exact Ext_rpl S.1.n0 _
    exact lcV_err S 1 h9 E rfl hp noM_0 (fun τ V => q_X10_delegate V p c b l)
theorem c0_E : cnt (liveE ms0) 0 128 = 0 := by decide +kernel
theorem c0_N : cnt (liveN ms0) 0 48 = 0 := by decide +kernel
theorem c0_Ei : ∀ i, i < 8 → cnt (liveE ms0) (16 * i) 16 = 0 := by decide +kernel
theorem first_count (S : St fx σ x sl) (w : Int32) : lcN (f_X9_count σ (some x) w) (fun τ => f_X10_count τ (some (x + 15)) w) (some x) (some (x + 15)) σ (fun _ => True) := by
  obtain ⟨-, F, -, -, -, -, Sx, T⟩ := S.1
  refine lcN_of S.hx (c_count S.1 (c_countEntries F Sx (fun i hi _ => c0_Ei i hi)) ?_ w) S.2.1 (p_count_eq ms0 w) (q_X10_count S.2.1 w) (fun _ _ _ => trivial)
  rw [c0_N]
  exact c_countNotes_nil F T m0_14
theorem s0_best (ep : Int32) {i : Nat} (hi : i < 8) : bestE ms0 ep i = none := by
  unfold bestE
  refine fo_id 16 (16 * i) (fun j _ hj => ?_)
  unfold bstE
  rw [if_neg]
  refine f_ne ?_
  unfold hitE liveE
  rw [m0_12 j (by omega), m0_1 1 (by decide)]
  rfl
theorem first_truth (S : St fx σ x sl) (ep : Int32) : lcN (f_X9_truth σ (some x) ep) (fun τ => f_X10_truth τ (some (x + 15)) ep) (some x) (some (x + 15)) σ (fun _ => True) := by
  obtain ⟨-, F, N, -, -, -, Sx, -⟩ := S.1
  have hp := p_truth_eq ms0 ep MI_0.2.2.2.1
  have e : fo (trS ms0 ep) 0 8 (-1, -1) = (-1, -1) := fo_id 8 0 (fun j _ hj => by unfold trS; rw [s0_best ep (by omega)])
  rw [e] at hp
  refine lcN_of S.hx (v := -1) (σ1 := σ) ?_ S.2.1 hp (q_X10_truth S.2.1 ep) (fun _ _ _ => trivial)
  unfold f_X9_truth
  rw [gR_s F.1, F.2.1.1, h_b1_s, gI_s F.1, h_b1_s, N.2.1, rcv_s F.2.2.1.1, h_b1_s, c_longest_nil F Sx ep ?_, h_bd_s, if_pos rfl]
  intro i hi hpr j hj
  obtain ⟨-, I⟩ := (Sx.2.2 i hi).2 hpr
  have hl := I.2.2.2.2.2.2.2.2.length_eq
  rw [eM_len, c0_Ei i hi, eL_len] at hl
  exact cnt_zero 16 0 hl j (by omega) (by omega)
end FST
theorem ite_both {c A B : Prop} [Decidable c] (h1 : A) (h2 : B) : if c then A else B := by
  by_cases h : c
  · rw [if_pos h]; exact h1
  · rw [if_neg h]; exact h2
theorem law_ok {xs : Nat → Int32} {L sz sl : Nat} (hL : L ≤ 5) : law_go xs L (h_0 sz sl) := by
  refine law_go_of (fx := true) (fun i σ => i = 0 → St true σ sz sl) (fun σ h _ => h) (fun i σ h hi => ?_)
  have hi0 : i = 0 := by omega
  subst hi0
  have S := h rfl
  have tw : ∀ τ : HS, True → (0 + 5 = 0 → St true τ sz sl) := fun _ _ z => by omega
  have wV : ∀ {cd F9 F10 x mo σ}, lcV cd F9 F10 x mo σ (fun _ => True) → lcV cd F9 F10 x mo σ (fun τ => 0 + 5 = 0 → St true τ sz sl) := by
    intro cd F9 F10 x mo σ ⟨q, r, σ1, a1, a2, a3, a4⟩
    refine ⟨q, r, σ1, a1, a2, a3, fun k σ2 hh => ?_⟩
    obtain ⟨q2, b1, σ3, b2, q3, b3, σ4, b4, b5⟩ := a4 k σ2 hh
    exact ⟨q2, b1, σ3, b2, q3, b3, σ4, b4, tw σ4 b5⟩
  have wI : ∀ {cd F9 F10 x mo o σ}, lcI cd F9 F10 x mo o σ (fun _ => True) → lcI cd F9 F10 x mo o σ (fun τ => 0 + 5 = 0 → St true τ sz sl) := by
    intro cd F9 F10 x mo o σ ⟨q, r, σ1, a1, a2, a3, a5, a4⟩
    refine ⟨q, r, σ1, a1, a2, a3, a5, fun k σ2 hh => ?_⟩
    obtain ⟨q2, b1, v, σ3, b2, q3, b3, σ4, b4, b6, b5⟩ := a4 k σ2 hh
    exact ⟨q2, b1, v, σ3, b2, q3, b3, σ4, b4, b6, tw σ4 b5⟩
  have wN : ∀ {F9 F10 x mo σ}, lcN F9 F10 x mo σ (fun _ => True) → lcN F9 F10 x mo σ (fun τ => 0 + 5 = 0 → St true τ sz sl) := by
    intro F9 F10 x mo σ ⟨q, v, σ1, a1, a2, q2, a3, σ2, a4, a5⟩
    exact ⟨q, v, σ1, a1, a2, q2, a3, σ2, a4, tw σ2 a5⟩
  unfold lc_all
  refine ite_both (wV (first_delegate S _ _ _ _)) ?_
  refine ite_both (wV (first_site S _ _)) ?_
  refine ite_both (wI (first_prefix S _ _ _)) ?_
  refine ite_both (wV (first_move S _ _)) ?_
  refine ite_both (wI (first_register S _)) ?_
  refine ite_both (wI (first_send S _ _)) ?_
  refine ite_both (wV (first_carry S _)) ?_
  refine ite_both (wV (first_repeat S _)) ?_
  refine ite_both (wV (first_drop S _)) ?_
  refine ite_both (wV (first_forge S _ _ _)) ?_
  refine ite_both (wI (first_message S _ _)) ?_
  refine ite_both (wI (first_run S _)) ?_
  refine ite_both (wV (first_pass S _)) ?_
  refine ite_both (wI (first_packet S _ _)) ?_
  refine ite_both (wI (first_note S _ _ _)) ?_
  refine ite_both (wN (first_truth S _)) ?_
  refine ite_both (wN (first_count S _)) ?_
  exact tw σ trivial
end
