/-! from 70.entries -/
section
/-! ENTRIES: which of them haven't lapsed, how many -/
theorem fo_id {S : Type} {step : Nat → S → S} {s : S} : ∀ (c i : Nat), (∀ j, i ≤ j → j < i + c → step j s = s) → fo step i c s = s
  | 0, i, _ => rfl
  | c + 1, i, h => by
    show fo step (i + 1) c (step i s) = s
    rw [h i (Nat.le_refl i) (by omega)]
    exact fo_id c (i + 1) (fun j h1 h2 => h j (by omega) (by omega))
theorem cnt_add {P : Nat → Bool} : ∀ (a b i : Nat), cnt P i (a + b) = cnt P i a + cnt P (i + a) b
  | 0, b, i => by rw [Nat.zero_add]; show _ = 0 + cnt P (i + 0) b; rw [Nat.zero_add, Nat.add_zero]
  | a + 1, b, i => by
    rw [show a + 1 + b = (a + b) + 1 by omega]
    show (if P i = true then 1 else 0) + cnt P (i + 1) (a + b) = ((if P i = true then 1 else 0) + cnt P (i + 1) a) + cnt P (i + (a + 1)) b
    rw [cnt_add a b (i + 1), show i + 1 + a = i + (a + 1) by omega]
    omega
theorem fo_cnt16 {P : Nat → Bool} : ∀ (c i a : Nat), fo (fun i a => a + cnt P (16 * i) 16) i c a = a + cnt P (16 * i) (16 * c)
  | 0, i, a => rfl
  | c + 1, i, a => by
    show fo (fun i a => a + cnt P (16 * i) 16) (i + 1) c (a + cnt P (16 * i) 16) = _
    rw [fo_cnt16 c (i + 1) (a + cnt P (16 * i) 16), show 16 * (c + 1) = 16 + 16 * c by omega, cnt_add, show 16 * (i + 1) = 16 * i + 16 by omega]
    omega
theorem fo_congr {S : Type} {step step' : Nat → S → S} : ∀ (c i : Nat) (s : S), (∀ j s, i ≤ j → j < i + c → step j s = step' j s) → fo step i c s = fo step' i c s
  | 0, i, s, _ => rfl
  | c + 1, i, s, h => by
    show fo step (i + 1) c (step i s) = fo step' (i + 1) c (step' i s)
    rw [h i s (Nat.le_refl i) (by omega)]
    exact fo_congr c (i + 1) _ (fun j s h1 h2 => h j s (by omega) (by omega))
/-- an entry that is there and hasn't lapsed -/
def lvE (now : Int32) (o : Option E6) : Bool := match o with
  | none => false
  | some q => decide (now < q.2.2.2.2.2)
theorem eL_len {now : Int32} {f : Nat → Option E6} : ∀ (c i : Nat), (eL now f i c).length = cnt (fun j => lvE now (f j)) i c
  | 0, i => rfl
  | c + 1, i => by
    have ih := eL_len (now := now) (f := f) c (i + 1)
    show (eL now f i (c + 1)).length = (if lvE now (f i) = true then 1 else 0) + cnt (fun j => lvE now (f j)) (i + 1) c
    unfold eL
    cases hf : f i with
    | none =>
      show (eL now f (i + 1) c).length = (if false = true then 1 else 0) + _
      rw [ih, if_neg (by decide), Nat.zero_add]
    | some q =>
      show (if now < q.2.2.2.2.2 then q :: eL now f (i + 1) c else eL now f (i + 1) c).length = (if decide (now < q.2.2.2.2.2) = true then 1 else 0) + _
      by_cases h : now < q.2.2.2.2.2
      · rw [if_pos h, if_pos (decide_eq_true h), List.length_cons, ih]; omega
      · rw [if_neg h, if_neg (fun z => h (of_decide_eq_true z)), ih]; omega
theorem cnt_congr {P P' : Nat → Bool} : ∀ (c i : Nat), (∀ j, i ≤ j → j < i + c → P j = P' j) → cnt P i c = cnt P' i c
  | 0, i, _ => rfl
  | c + 1, i, h => by
    show (if P i = true then 1 else 0) + cnt P (i + 1) c = (if P' i = true then 1 else 0) + cnt P' (i + 1) c
    rw [h i (Nat.le_refl i) (by omega), cnt_congr c (i + 1) (fun j h1 h2 => h j (by omega) (by omega))]
theorem eM_len (ms : MS) (i c : Nat) : (eL (ms.1 1) (eM ms) i c).length = cnt (liveE ms) i c := by
  rw [eL_len]
  exact cnt_congr c i (fun j _ _ => rfl)
section ENT
variable {fx : Bool} {σ : HS} {x : Nat} {G : Nat → Nat → Nat} {ms : MS}
theorem c_isLive {i j : Nat} (I : SvR σ G ms i) (hj : j < 16) (now : Int32) : f_X6_isLive σ (some (G 0 i)) (nI j) now = some (b2i (lvE now (eC σ (G 1 i) j)), σ) := by
  obtain ⟨a1, a2, a3, -, ⟨a6, a7, a8⟩, -, -, b4, -⟩ := I
  have e0 : h_gR σ (some (G 0 i)) 7 3 = some (some (G 1 i)) := by rw [gR_s a1, a6]
  have e1 : h_aR σ (some (G 1 i)) 103 (nI j) = some (h_rv σ (G 1 i) j) := aR_s a7 a8 hj (by decide)
  unfold f_X6_isLive
  rw [e0, h_b1_s, e1, h_b1_s]
  unfold eC
  cases hr : h_rv σ (G 1 i) j with
  | none => rw [if_pos rfl]; rfl
  | some a =>
    have ok := b4 j hj a hr
    rw [if_neg (fun z => by cases z), h_b1_s, e1, hr, h_b1_s, rcv_s ok.1, h_b1_s]
    unfold f_X0_holdsAt
    rw [gI_s ok.1, h_b1_s]
    show h_bd (if h_iv σ a 4 ≤ now then some (0, σ) else some (1, σ)) _ = some (b2i (decide (now < h_iv σ a 4)), σ)
    by_cases h : h_iv σ a 4 ≤ now
    · rw [if_pos h, h_bd_s, if_pos rfl, decide_eq_false (Int32.not_lt.mpr h)]; rfl
    · rw [if_neg h, h_bd_s, if_neg (by decide), decide_eq_true (Int32.not_le.mp h)]; rfl
theorem c_countE {i : Nat} (I : SvR σ G ms i) (now : Int32) : f_X6_countEntries σ (some (G 0 i)) now = some (nI (cnt (fun j => lvE now (eC σ (G 1 i) j)) 0 16), σ) := by
  unfold f_X6_countEntries
  have key := lp_fold (S := Nat) (fun n a k => g_X6_countEntries_4 n σ (some (G 0 i)) now (nI a) k) 16 (fun j a => if lvE now (eC σ (G 1 i) j) = true then a + 1 else a) (fun a => some (nI a, σ)) (fun _ _ => True) (fun _ _ _ _ => trivial)
    (fun n a _ => by
      show g_X6_countEntries_4 (n + 1) σ (some (G 0 i)) now (nI a) (nI 16) = _
      rw [g_X6_countEntries_4, if_pos (show (16 : Int32) ≤ nI 16 by decide)])
    (fun n j a hj _ => by
      show g_X6_countEntries_4 (n + 1) σ (some (G 0 i)) now (nI a) (nI j) = g_X6_countEntries_4 n σ (some (G 0 i)) now (nI (if lvE now (eC σ (G 1 i) j) = true then a + 1 else a)) (nI (j + 1))
      rw [g_X6_countEntries_4, if_neg (show ¬ (16 : Int32) ≤ nI j from fun z => absurd (nI_lt (a := j) (b := 16) hj (by decide)) (Int32.not_lt.mpr z)), rcv_s I.1, h_b1_s, c_isLive I hj now, h_bd_s, nI_c1]
      cases lvE now (eC σ (G 1 i) j) with
      | false => rw [if_pos (by rfl), if_neg (by decide)]
      | true => rw [if_neg (by decide), if_pos rfl, nI_c1]) 16 h_hN 0 0 trivial rfl (h_hN_lt (by decide))
  refine Eq.trans key ?_
  show some (nI (fo _ 0 16 0), σ) = _
  rw [fo_cnt (fun j => lvE now (eC σ (G 1 i) j)) 16 0 0, Nat.zero_add]
theorem c_servers (F : Fx σ x) (S : Sx σ x G ms) {i : Nat} (hi : i < 8) : h_gR σ (some (x + 1)) 9 0 = some (some (x + 2)) ∧ h_aR σ (some (x + 2)) 107 (nI i) = some (h_rv σ (x + 2) i) := by
  obtain ⟨-, -, ⟨t1, r1⟩, ⟨t2, l2⟩, -⟩ := F
  exact ⟨by rw [gR_s t1, r1], aR_s t2 l2 hi (by decide)⟩
/-- all entries that haven't lapsed, counted; a server that isn't there has none -/
theorem c_countEntries (F : Fx σ x) (S : Sx σ x G ms) (habs : ∀ i, i < 8 → ms.2.1 3 i = 0 → cnt (liveE ms) (16 * i) 16 = 0) : f_X8_countEntries σ (some (x + 1)) (ms.1 1) = some (nI (cnt (liveE ms) 0 128), σ) := by
  unfold f_X8_countEntries
  have key := lp_fold (S := Nat) (fun n a k => g_X8_countEntries_4 n σ (some (x + 1)) (ms.1 1) (nI a) k) 8 (fun j a => a + cnt (liveE ms) (16 * j) 16) (fun a => some (nI a, σ)) (fun _ _ => True) (fun _ _ _ _ => trivial)
    (fun n a _ => by
      show g_X8_countEntries_4 (n + 1) σ (some (x + 1)) (ms.1 1) (nI a) (nI 8) = _
      rw [g_X8_countEntries_4, if_pos (show (8 : Int32) ≤ nI 8 by decide)])
    (fun n j a hj _ => by
      show g_X8_countEntries_4 (n + 1) σ (some (x + 1)) (ms.1 1) (nI a) (nI j) = g_X8_countEntries_4 n σ (some (x + 1)) (ms.1 1) (nI (a + cnt (liveE ms) (16 * j) 16)) (nI (j + 1))
      obtain ⟨e1, e2⟩ := c_servers F S hj
      rw [g_X8_countEntries_4, if_neg (show ¬ (8 : Int32) ≤ nI j from fun z => absurd (nI_lt (a := j) (b := 8) hj (by decide)) (Int32.not_lt.mpr z)), e1, h_b1_s, e2, h_b1_s, nI_c1]
      by_cases hp : ms.2.1 3 j = 0
      · rw [(S.2.2 j hj).1 hp, if_pos rfl, habs j hj hp]; rfl
      · obtain ⟨r1, I⟩ := (S.2.2 j hj).2 hp
        rw [r1, if_neg (fun z => by cases z), h_b1_s, e2, h_b1_s, r1, rcv_s I.1, h_b1_s, c_countE I, h_bd_s, ← eL_len, I.2.2.2.2.2.2.2.2.length_eq, eM_len, nI_add]) 8 h_hN 0 0 trivial rfl (h_hN_lt (by decide))
  refine Eq.trans key ?_
  show some (nI (fo (fun i a => a + cnt (liveE ms) (16 * i) 16) 0 8 0), σ) = _
  rw [fo_cnt16 8 0 0, Nat.zero_add]
theorem c_best_nil {i : Nat} (I : SvR σ G ms i) {now : Int32} (ep : Int32) (h : ∀ j, j < 16 → lvE now (eC σ (G 1 i) j) = false) : f_X6_best σ (some (G 0 i)) ep now = some (none, σ) := by
  unfold f_X6_best
  have key := lp_find (fun n k => g_X6_best_5 n σ (some (G 0 i)) ep now none k) 16 (fun _ => false) (fun _ => none) (some (none, σ))
    (fun n => by
      show g_X6_best_5 (n + 1) σ (some (G 0 i)) ep now none (nI 16) = _
      rw [g_X6_best_5, if_pos (show (16 : Int32) ≤ nI 16 by decide)])
    (fun n j hj => by
      show g_X6_best_5 (n + 1) σ (some (G 0 i)) ep now none (nI j) = if false = true then none else g_X6_best_5 n σ (some (G 0 i)) ep now none (nI (j + 1))
      rw [g_X6_best_5, if_neg (show ¬ (16 : Int32) ≤ nI j from fun z => absurd (nI_lt (a := j) (b := 16) hj (by decide)) (Int32.not_lt.mpr z)), rcv_s I.1, h_b1_s, c_isLive I hj now, h_bd_s, h j hj, if_pos (by rfl), nI_c1, if_neg (by decide)]) 16 h_hN 0 rfl (h_hN_lt (by decide))
  exact key
theorem c_longest_nil (F : Fx σ x) (S : Sx σ x G ms) {now : Int32} (ep : Int32) (h : ∀ i, i < 8 → pr ms i → ∀ j, j < 16 → lvE now (eC σ (G 1 i) j) = false) : f_X8_longestEntry σ (some (x + 1)) ep now = some (none, σ) := by
  unfold f_X8_longestEntry
  have key := lp_find (fun n k => g_X8_longestEntry_5 n σ (some (x + 1)) ep now none k) 8 (fun _ => false) (fun _ => none) (some (none, σ))
    (fun n => by
      show g_X8_longestEntry_5 (n + 1) σ (some (x + 1)) ep now none (nI 8) = _
      rw [g_X8_longestEntry_5, if_pos (show (8 : Int32) ≤ nI 8 by decide)])
    (fun n j hj => by
      show g_X8_longestEntry_5 (n + 1) σ (some (x + 1)) ep now none (nI j) = if false = true then none else g_X8_longestEntry_5 n σ (some (x + 1)) ep now none (nI (j + 1))
      obtain ⟨e1, e2⟩ := c_servers F S hj
      rw [g_X8_longestEntry_5, if_neg (show ¬ (8 : Int32) ≤ nI j from fun z => absurd (nI_lt (a := j) (b := 8) hj (by decide)) (Int32.not_lt.mpr z)), e1, h_b1_s, e2, h_b1_s, nI_c1]
      by_cases hp : ms.2.1 3 j = 0
      · rw [(S.2.2 j hj).1 hp, if_pos rfl, if_pos rfl, if_neg (by decide)]
      · obtain ⟨r1, I⟩ := (S.2.2 j hj).2 hp
        rw [r1, if_neg (fun z => by cases z), h_b1_s, e2, h_b1_s, r1, rcv_s I.1, h_b1_s, c_best_nil I ep (h j hj hp), h_bd_s, if_pos rfl, if_neg (by decide)]) 8 h_hN 0 rfl (h_hN_lt (by decide))
  exact key
theorem c_countNotes_nil (F : Fx σ x) (T : Tx fx σ x G ms) (h : ∀ s, s < 8 → ms.2.1 14 s = -1) : f_X9_countNotes σ (some x) = some (0, σ) := by
  unfold f_X9_countNotes
  have key := lp_find (fun n k => g_X9_countNotes_4 n σ (some x) 0 k) 8 (fun _ => false) (fun _ => none) (some (0, σ))
    (fun n => by
      show g_X9_countNotes_4 (n + 1) σ (some x) 0 (nI 8) = _
      rw [g_X9_countNotes_4, if_pos (show (8 : Int32) ≤ nI 8 by decide)])
    (fun n j hj => by
      show g_X9_countNotes_4 (n + 1) σ (some x) 0 (nI j) = if false = true then none else g_X9_countNotes_4 n σ (some x) 0 (nI (j + 1))
      obtain ⟨t0, ⟨-, r1, -⟩, -, -, ⟨t7, l7⟩, -⟩ := F
      have e2 : h_aR σ (some (x + 7)) 108 (nI j) = some (h_rv σ (x + 7) j) := aR_s t7 l7 hj (by decide)
      rw [g_X9_countNotes_4, if_neg (show ¬ (8 : Int32) ≤ nI j from fun z => absurd (nI_lt (a := j) (b := 8) hj (by decide)) (Int32.not_lt.mpr z)), gR_s t0, r1, h_b1_s, e2, h_b1_s, nI_c1, (T.2 j hj).1 (h j hj), if_pos rfl, if_neg (by decide)]) 8 h_hN 0 rfl (h_hN_lt (by decide))
  exact key
end ENT
end
/-! from 71.alloc -/
section
/-! WHAT A CALL MAKES: new cells behind the heap's end -/
def Ext (σ σ' : HS) : Prop := h_sz σ ≤ h_sz σ' ∧ (∀ b, b < h_sz σ → Sm σ σ' b) ∧ ∀ a, h_sz σ' ≤ a → h_tg σ' a = 0
theorem Ext_rpl {σ : HS} {a : Nat} (B : N0 σ a) (l : List Op) : Ext σ (rpl a l σ) := by
  refine ⟨by rw [rpl_sz B, B.1]; omega, fun b hb => rpl_lo B (by rw [← B.1]; exact hb) l, fun c hc => ?_⟩
  rw [rpl_sz B] at hc
  obtain ⟨d, rfl⟩ : ∃ d, c = a + d := ⟨c - a, by omega⟩
  rw [rpl_tg B]
  exact tgL_far l (by omega)
section ALC
variable {fx : Bool} {σ σ' : HS} {x a : Nat} {G : Nat → Nat → Nat} {ms : MS}
theorem Rep.lt (R : Rep fx σ x G ms) {b : Nat} (h : h_tg σ b ≠ 0) : b < h_sz σ := Nat.lt_of_not_le (fun z => h (R.1.2.1 b z))
theorem Rep.n0 (R : Rep fx σ x G ms) : N0 σ (h_sz σ) := ⟨rfl, R.1.2.1⟩
theorem Rep.ext (R : Rep fx σ x G ms) (E : Ext σ σ') : Rep fx σ' x G ms := by
  have hs : ∀ b, h_tg σ b ≠ 0 → Sm σ σ' b := fun b h => E.2.1 b (R.lt h)
  have h50 := R.1.1
  have hlo : ∀ k, k ≤ 49 → Sm σ σ' (x + k) := fun k hk => E.2.1 _ (by omega)
  obtain ⟨Z, F, N, Rr, W, K, S, T⟩ := R
  have h0 : Sm σ σ' x := hlo 0 (by omega)
  refine ⟨⟨by have := E.1; omega, E.2.2, fun b h1 h2 => ?_⟩, F.to ⟨fun b hb => ?_, h0.2.2.2.1, (hlo 1 (by omega)).2.2.2.1, (hlo 10 (by omega)).2.2.2.1⟩, N.to h0 rfl rfl rfl rfl rfl rfl, Rr.to (hlo 10 (by omega)) (hlo 11 (by omega)) rfl rfl (fun _ => rfl), W.to (hlo 8 (by omega)) (hlo 9 (by omega)) rfl (fun _ => rfl) (fun _ => rfl), K.to (hlo 14 (by omega)) (fun b hb => hs b (by rw [hb]; decide)) rfl (fun _ _ _ _ => rfl), S.to (hlo 2 (by omega)) (fun b hb => hs b (by rcases hb with h | h | h | h <;> rw [h] <;> decide)) (fun i hi hp => ?_) rfl (fun _ _ _ _ => rfl) rfl, T.to (hlo 7 (by omega)) (fun b hb => hs b (by rcases hb with h | h | h | h | h | h <;> rw [h] <;> decide)) rfl (fun _ _ _ _ => rfl)⟩
  · rw [(E.2.1 b (by omega)).1]
    exact Z.2.2 b h1 h2
  · exact ⟨(E.2.1 b (by omega)).1, (E.2.1 b (by omega)).2.1⟩
  · obtain ⟨-, -, -, -, -, -, ⟨-, b1, -⟩, -⟩ := (S.2.2 i hi).2 hp
    exact hs _ (by rw [b1]; decide)
theorem MV.ext {m : Nat} {A : Nat → Nat} (V : MV σ m A ms) (hz : ∀ b, h_sz σ ≤ b → h_tg σ b = 0) (E : Ext σ σ') : MV σ' m A ms := by
  have hs : ∀ b, h_tg σ b ≠ 0 → Sm σ σ' b := fun b h => E.2.1 b (Nat.lt_of_not_le (fun z => h (hz b z)))
  exact V.to (hs m (by rw [V.1]; decide)) (fun k hk => hs _ (by rw [(V.2.1 k hk).2.1]; exact hk))
theorem E_gI (B : N0 σ a) {l : List Op} {t off k : Nat} {v : Int32} (h : tgL off l = t) (ht : t ≠ 0) (h2 : ivL off k l = v) : h_gI (rpl a l σ) (some (a + off)) t k = some v := by
  rw [gI_s ((rpl_tg B off l).trans h), rpl_iv B _ _ _ (Or.inl (tg_lt h ht)), h2]
end ALC
def pS1 (b l c p : Int32) : List Op := (0, 5, 0, 2, 0) :: ([] : List Op)
def pS2 (b l c p : Int32) : List Op := (2, 0, 0, 0, b) :: (pS1 b l c p)
def pS3 (b l c p : Int32) : List Op := (2, 0, 1, 0, l) :: (pS2 b l c p)
def pS4 (b l c p : Int32) : List Op := (0, 7, 0, 5, 0) :: (pS3 b l c p)
def pS5 (b l c p : Int32) : List Op := (2, 1, 0, 0, c) :: (pS4 b l c p)
def pS6 (b l c p : Int32) : List Op := (2, 1, 1, 0, p) :: (pS5 b l c p)
def pS7 (b l c p : Int32) : List Op := (1, 1, 2, 0, 0) :: (pS6 b l c p)
def pS8 (b l c p : Int32) : List Op := (0, 103, 16, 16, 0) :: (pS7 b l c p)
def pS9 (b l c p : Int32) : List Op := (1, 1, 3, 2, 0) :: (pS8 b l c p)
def pS10 (b l c p : Int32) : List Op := (0, 101, 8, 8, 0) :: (pS9 b l c p)
def pS11 (b l c p : Int32) : List Op := (1, 1, 4, 3, 0) :: (pS10 b l c p)
def pS12 (b l c p : Int32) : List Op := lm6 3 0 8 (pS11 b l c p)
section ALP
variable {σ : HS} {a : Nat} {b l c p : Int32}
theorem of_no (h : vpB b l = false) : f_X4_of σ b l = some (none, σ) := by
  unfold f_X4_of
  by_cases h1 : l < 0
  · rw [if_pos h1]
  · rw [if_neg h1]
    by_cases h2 : 32 < l
    · rw [if_pos h2]
    · rw [if_neg h2]
      obtain ⟨n, hn, rfl⟩ := i32 ⟨Int32.not_lt.mp h1, Int32.not_lt.mp h2⟩
      rw [mask_eq σ hn, h_bd_s, if_neg]
      intro z
      have hv : vb n b = true := by unfold vb; exact decide_eq_true z
      unfold vpB at h
      rw [decide_eq_true ⟨Int32.not_lt.mp h1, Int32.not_lt.mp h2⟩, nI_clamp (by omega), hv] at h
      cases h
theorem of_yes (B : N0 σ a) (hz : a + 1 ≤ h_cz σ) (hs : h_sl σ + 2 ≤ h_ck σ) (h : vpB b l = true) (c p : Int32) : f_X4_of σ b l = some (some (a + 0), rpl a (pS3 b l c p) σ) := by
  obtain ⟨n, hn, rfl, hv⟩ := vpB_nI h
  have hv' : b &&& (mk n ^^^ (-1)) = 0 := of_decide_eq_true hv
  unfold f_X4_of
  rw [if_neg (nI_pos (by omega)), if_neg (show ¬ (32 : Int32) < nI n from Int32.not_lt.mpr (nI_le (a := n) (b := 32) hn (by decide))), mask_eq σ hn, h_bd_s, if_pos hv']
  have e : h_mk σ 5 2 = some (some (a + 0), rpl a (pS1 b (nI n) c p) σ) := E_mk B (l := ([] : List Op)) (l' := (pS1 b (nI n) c p)) (t := 5) (n := 2) (c := 0) (w := 0) rfl rfl rfl (by omega) (by omega)
  rw [e, h_bd_s, E_rcv B (l := (pS1 b (nI n) c p)) (off := 0) (t := 5) rfl, h_b1_s]
  unfold f_X4_init
  rw [h_b1_s, E_pI B (l := (pS1 b (nI n) c p)) (l' := (pS2 b (nI n) c p)) (off := 0) (t := 5) (k := 0) (v := b) rfl rfl, h_b1_s, E_pI B (l := (pS2 b (nI n) c p)) (l' := (pS3 b (nI n) c p)) (off := 0) (t := 5) (k := 1) (v := nI n) rfl rfl, h_b1_s, h_bd_s]
theorem sv_init (B : N0 σ a) (hz : a + 4 ≤ h_cz σ) (hs : h_sl σ + 31 ≤ h_ck σ) : f_X6_init (rpl a (pS4 b l c p) σ) (some (a + 1)) c p (some (a + 0)) = some ((), rpl a (pS12 b l c p) σ) := by
  unfold f_X6_init
  rw [h_b1_s, E_pI B (l := (pS4 b l c p)) (l' := (pS5 b l c p)) (off := 1) (t := 7) (k := 0) (v := c) rfl rfl, h_b1_s, E_pI B (l := (pS5 b l c p)) (l' := (pS6 b l c p)) (off := 1) (t := 7) (k := 1) (v := p) rfl rfl, h_b1_s, E_pR B (l := (pS6 b l c p)) (l' := (pS7 b l c p)) (off := 1) (t := 7) (k := 2) (r := 0) rfl rfl, h_b1_s, E_mkA B (l := (pS7 b l c p)) (l' := (pS8 b l c p)) (t := 103) (n := 16) (len := 16) (c := 2) (w := 7) rfl rfl (by decide) rfl rfl (by omega) (by omega), h_bd_s, E_pR B (l := (pS8 b l c p)) (l' := (pS9 b l c p)) (off := 1) (t := 7) (k := 3) (r := 2) rfl rfl, h_b1_s, E_mkA B (l := (pS9 b l c p)) (l' := (pS10 b l c p)) (t := 101) (n := 8) (len := 8) (c := 3) (w := 23) rfl rfl (by decide) rfl rfl (by omega) (by omega), h_bd_s, E_pR B (l := (pS10 b l c p)) (l' := (pS11 b l c p)) (off := 1) (t := 7) (k := 4) (r := 3) rfl rfl, h_b1_s]
  exact lq6 B 8 h_hN 0 (pS11 b l c p) rfl (by decide) rfl rfl rfl rfl
theorem sv_mk (B : N0 σ a) (hz : a + 4 ≤ h_cz σ) (hs : h_sl σ + 31 ≤ h_ck σ) : h_mk (rpl a (pS3 b l c p) σ) 7 5 = some (some (a + 1), rpl a (pS4 b l c p) σ) := E_mk B (l := (pS3 b l c p)) (l' := (pS4 b l c p)) (t := 7) (n := 5) (c := 1) (w := 2) rfl rfl rfl (by omega) (by omega)
theorem sv_rcv (B : N0 σ a) : h_rcv (rpl a (pS4 b l c p) σ) (some (a + 1)) 7 = some (a + 1) := E_rcv B (l := (pS4 b l c p)) (off := 1) (t := 7) rfl
end ALP
-- server: list pS12, 4 cells, 31 places
abbrev pSp (b l c p : Int32) : List Op := pS3 b l c p
abbrev pSs (b l c p : Int32) : List Op := pS4 b l c p
abbrev pSx (b l c p : Int32) : List Op := pS12 b l c p
def sT1 (p : Int32) : List Op := (0, 8, 0, 5, 0) :: ([] : List Op)
def sT2 (p : Int32) : List Op := (2, 0, 0, 0, p) :: (sT1 p)
def sT3 (p : Int32) : List Op := (0, 106, 4, 4, 0) :: (sT2 p)
def sT4 (p : Int32) : List Op := (1, 0, 2, 1, 0) :: (sT3 p)
def sT5 (p : Int32) : List Op := (0, 3, 0, 2, 0) :: (sT4 p)
def sT6 (p : Int32) : List Op := (0, 104, 6, 6, 0) :: (sT5 p)
def sT7 (p : Int32) : List Op := (1, 2, 0, 3, 0) :: (sT6 p)
def sT8 (p : Int32) : List Op := (1, 0, 4, 2, 0) :: (sT7 p)
section ALT
variable {σ : HS} {a : Nat} {p : Int32}
theorem si_mk (B : N0 σ a) (hz : a + 4 ≤ h_cz σ) (hs : h_sl σ + 17 ≤ h_ck σ) : h_mk σ 8 5 = some (some (a + 0), rpl a (sT1 p) σ) := E_mk B (l := ([] : List Op)) (l' := (sT1 p)) (t := 8) (n := 5) (c := 0) (w := 0) rfl rfl rfl (by omega) (by omega)
theorem si_rcv (B : N0 σ a) : h_rcv (rpl a (sT1 p) σ) (some (a + 0)) 8 = some (a + 0) := E_rcv B (l := (sT1 p)) (off := 0) (t := 8) rfl
theorem si_X2 (B : N0 σ a) (hz : a + 4 ≤ h_cz σ) (hs : h_sl σ + 17 ≤ h_ck σ) : f_X2_init (rpl a (sT5 p) σ) (some (a + 2)) = some ((), rpl a (sT7 p) σ) := by
  unfold f_X2_init
  rw [h_b1_s, E_mkA B (l := (sT5 p)) (l' := (sT6 p)) (t := 104) (n := 6) (len := 6) (c := 3) (w := 11) rfl rfl (by decide) rfl rfl (by omega) (by omega), h_bd_s, E_pR B (l := (sT6 p)) (l' := (sT7 p)) (off := 2) (t := 3) (k := 0) (r := 3) rfl rfl, h_b1_s]
theorem si_init (B : N0 σ a) (hz : a + 4 ≤ h_cz σ) (hs : h_sl σ + 17 ≤ h_ck σ) : f_X7_init (rpl a (sT1 p) σ) (some (a + 0)) p = some ((), rpl a (sT8 p) σ) := by
  unfold f_X7_init
  rw [h_b1_s, E_pI B (l := (sT1 p)) (l' := (sT2 p)) (off := 0) (t := 8) (k := 0) (v := p) rfl rfl, h_b1_s, E_mkA B (l := (sT2 p)) (l' := (sT3 p)) (t := 106) (n := 4) (len := 4) (c := 1) (w := 5) rfl rfl (by decide) rfl rfl (by omega) (by omega), h_bd_s, E_pR B (l := (sT3 p)) (l' := (sT4 p)) (off := 0) (t := 8) (k := 2) (r := 1) rfl rfl, h_b1_s, E_mk B (l := (sT4 p)) (l' := (sT5 p)) (t := 3) (n := 2) (c := 2) (w := 9) rfl rfl rfl (by omega) (by omega), h_bd_s, E_rcv B (l := (sT5 p)) (off := 2) (t := 3) rfl, h_b1_s, si_X2 B hz hs, h_bd_s, E_pR B (l := (sT7 p)) (l' := (sT8 p)) (off := 0) (t := 8) (k := 4) (r := 2) rfl rfl, h_b1_s]
end ALT
abbrev sTo (p : Int32) : List Op := sT1 p
abbrev sTx (p : Int32) : List Op := sT8 p
-- site: 4 cells, 17 places
end
/-! from 72.sides -/
section
/-! ONE CALL: object and reference side by side -/
def lcV (cd : Nat → Option Int32) (F9 : Option (Except Nat Unit × HS)) (F10 : HS → Option (Unit × HS)) (x mo : Option Nat) (σ : HS) (K : HS → Prop) : Prop := ∃ q r σ1, h_rcv σ x 10 = some q ∧ F9 = some (r, σ1) ∧ (∀ k, r = .error k → (cd k).isSome = true) ∧ ∀ k σ2, h_hp cd (fun _ τ => some τ) r σ1 k σ2 → ∃ q2, h_rcv σ2 mo 11 = some q2 ∧ ∃ σ3, F10 σ2 = some ((), σ3) ∧ ∃ q3, h_rcv σ3 mo 11 = some q3 ∧ ∃ σ4, f_X10_thrown σ3 mo = some (k, σ4) ∧ K σ4
/-- what a caught exception may have left -/
def Bmp (σ1 σ2 : HS) : Prop := ∃ z w, h_sz σ1 ≤ z ∧ z ≤ h_sz σ1 + 1 ∧ w ≤ h_sl σ1 + 6 ∧ σ2 = h_bump σ1 z w
theorem lcV_of {cd : Nat → Option Int32} {F9 : Option (Except Nat Unit × HS)} {F10 : HS → Option (Unit × HS)} {x m : Nat} {A : Nat → Nat} {ms ms' : MS} {σ σ1 : HS} {r : Except Nat Unit} {c0 : Int32} {p : Option (Unit × MS)} {K : HS → Prop} (hx : h_tg σ x = 10) (h9 : F9 = some (r, σ1)) (hr : (r = .ok () ∧ c0 = 0) ∨ ∃ k, r = .error k ∧ cd k = some c0) (V : MV σ1 m A ms) (hp : p = some ((), ms')) (hc : ms'.1 0 = c0) (lift : ∀ τ, MV τ m A ms → Rl τ m A (F10 τ) p)
    (hK : ∀ σ2 σ4, (σ2 = σ1 ∧ r = .ok ()) ∨ Bmp σ1 σ2 → MF σ2 σ4 m A → MV σ4 m A ms' → K σ4) : lcV cd F9 F10 (some x) (some m) σ K := by
  refine ⟨x, r, σ1, rcv_s hx, h9, fun k hk => ?_, fun k σ2 h => ?_⟩
  · rcases hr with ⟨h, -⟩ | ⟨k', h, h2⟩
    · rw [h] at hk; cases hk
    · rw [h] at hk; cases hk; rw [h2]; rfl
  · have key : ((σ2 = σ1 ∧ r = .ok ()) ∨ Bmp σ1 σ2) ∧ k = c0 ∧ MV σ2 m A ms := by
      rcases hr with ⟨h1, h2⟩ | ⟨k', h1, h2⟩
      · subst h1
        have h' : k = 0 ∧ some σ1 = some σ2 := h
        obtain ⟨g1, g2⟩ := h'
        cases g2
        exact ⟨Or.inl ⟨rfl, rfl⟩, g1.trans h2.symm, V⟩
      · subst h1
        have h' : cd k' = some k ∧ ∃ z w, h_sz σ1 ≤ z ∧ z ≤ h_sz σ1 + 1 ∧ w ≤ h_sl σ1 + 6 ∧ σ2 = h_bump σ1 z w := h
        obtain ⟨g1, z, w, g2, g3, g4, g5⟩ := h'
        rw [h2] at g1
        refine ⟨Or.inr ⟨z, w, g2, g3, g4, g5⟩, (Option.some.inj g1).symm, ?_⟩
        rw [g5]; exact V
    obtain ⟨k1, k2, k3⟩ := key
    obtain ⟨σ3, l1, l2, l3⟩ := lift σ2 k3 _ _ hp
    obtain ⟨σ4, t1, t2, t3⟩ := q_X10_thrown l2 _ _ rfl
    refine ⟨m, rcv_s k3.1, σ3, l1, m, rcv_s l2.1, σ4, ?_, hK σ2 σ4 k1 (l3.tr t3) t2⟩
    rw [t1, hc, k2]
def lcI (cd : Nat → Option Int32) (F9 : Option (Except Nat Int32 × HS)) (F10 : HS → Option (Int32 × HS)) (x mo o : Option Nat) (σ : HS) (K : HS → Prop) : Prop := ∃ q r σ1, h_rcv σ x 10 = some q ∧ F9 = some (r, σ1) ∧ (∀ k, r = .error k → (cd k).isSome = true) ∧ (∀ v, r = .ok v → (h_sL σ1 o 101 0 (Int32.toInt64 v)).isSome = true) ∧ ∀ k σ2, h_hp cd (fun v τ => h_sL τ o 101 0 (Int32.toInt64 v)) r σ1 k σ2 → ∃ q2, h_rcv σ2 mo 11 = some q2 ∧ ∃ v σ3, F10 σ2 = some (v, σ3) ∧ ∃ q3, h_rcv σ3 mo 11 = some q3 ∧ ∃ σ4, f_X10_thrown σ3 mo = some (k, σ4) ∧ (k = 0 → h_aL σ4 o 101 0 = some (Int32.toInt64 v)) ∧ K σ4
theorem lcI_of {cd : Nat → Option Int32} {F9 : Option (Except Nat Int32 × HS)} {F10 : HS → Option (Int32 × HS)} {x m o : Nat} {A : Nat → Nat} {ms ms' : MS} {σ σ1 : HS} {r : Except Nat Int32} {v c0 : Int32} {p : Option (Int32 × MS)} {K : HS → Prop} (hx : h_tg σ x = 10) (ho : h_tg σ1 o = 101 ∧ h_ln σ1 o = 1) (hoA : o ≠ m ∧ ∀ k, k_tag k ≠ 0 → o ≠ A k) (h9 : F9 = some (r, σ1)) (hr : (r = .ok v ∧ c0 = 0) ∨ ∃ k, r = .error k ∧ cd k = some c0 ∧ ¬ c0 = 0) (V : MV σ1 m A ms) (hp : p = some (v, ms')) (hc : ms'.1 0 = c0) (lift : ∀ τ, MV τ m A ms → Rl τ m A (F10 τ) p)
    (hK : ∀ σ2 σ4, (σ2 = h_setL σ1 o 0 (Int32.toInt64 v) ∧ r = .ok v) ∨ Bmp σ1 σ2 → MF σ2 σ4 m A → MV σ4 m A ms' → K σ4) : lcI cd F9 F10 (some x) (some m) (some o) σ K := by
  have hsL : ∀ w : Int64, h_sL σ1 (some o) 101 0 w = some (h_setL σ1 o 0 w) := fun w => sL_s (i := 0) (n := 1) ho.1 ho.2 (by decide) (by decide)
  refine ⟨x, r, σ1, rcv_s hx, h9, fun k hk => ?_, fun w _ => by rw [hsL]; rfl, fun k σ2 h => ?_⟩
  · rcases hr with ⟨h, -⟩ | ⟨k', h, h2, -⟩
    · rw [h] at hk; cases hk
    · rw [h] at hk; cases hk; rw [h2]; rfl
  · have key : ((σ2 = h_setL σ1 o 0 (Int32.toInt64 v) ∧ r = .ok v) ∨ Bmp σ1 σ2) ∧ k = c0 ∧ MV σ2 m A ms ∧ (k = 0 → σ2 = h_setL σ1 o 0 (Int32.toInt64 v)) := by
      rcases hr with ⟨h1, h2⟩ | ⟨k', h1, h2, h3⟩
      · subst h1
        have h' : k = 0 ∧ h_sL σ1 (some o) 101 0 (Int32.toInt64 v) = some σ2 := h
        obtain ⟨g1, g2⟩ := h'
        rw [hsL] at g2
        have g3 := Option.some.inj g2
        refine ⟨Or.inl ⟨g3.symm, rfl⟩, g1.trans h2.symm, ?_, fun _ => g3.symm⟩
        rw [← g3]
        exact V.to (Sm_L (Ne.symm hoA.1)) (fun k hk => Sm_L (Ne.symm (hoA.2 k hk)))
      · subst h1
        have h' : cd k' = some k ∧ ∃ z w, h_sz σ1 ≤ z ∧ z ≤ h_sz σ1 + 1 ∧ w ≤ h_sl σ1 + 6 ∧ σ2 = h_bump σ1 z w := h
        obtain ⟨g1, z, w, g2, g3, g4, g5⟩ := h'
        rw [h2] at g1
        have hk := (Option.some.inj g1).symm
        refine ⟨Or.inr ⟨z, w, g2, g3, g4, g5⟩, hk, ?_, fun z => absurd (hk.symm.trans z) h3⟩
        rw [g5]; exact V
    obtain ⟨k1, k2, k3, k4⟩ := key
    obtain ⟨σ3, l1, l2, l3⟩ := lift σ2 k3 _ _ hp
    obtain ⟨σ4, t1, t2, t3⟩ := q_X10_thrown l2 _ _ rfl
    refine ⟨m, rcv_s k3.1, v, σ3, l1, m, rcv_s l2.1, σ4, ?_, fun hk0 => ?_, hK σ2 σ4 k1 (l3.tr t3) t2⟩
    · rw [t1, hc, k2]
    · have F := l3.tr t3
      obtain ⟨f1, f2, f3, f4, f5, f6, f7, f8⟩ := F
      have e2 := k4 hk0
      have g1 : h_tg σ4 o = 101 := by rw [f1, e2]; exact ho.1
      have g2 : h_ln σ4 o = 1 := by rw [f2, e2]; exact ho.2
      have g3 : h_lv σ4 o 0 = Int32.toInt64 v := by rw [(f8 o hoA.1 hoA.2 0).2, e2]; exact lv_sL
      have g4 := aL_s (i := 0) (n := 1) g1 g2 (by decide) (by decide)
      rw [g3] at g4
      exact g4
def lcN (F9 : Option (Int32 × HS)) (F10 : HS → Option (Int32 × HS)) (x mo : Option Nat) (σ : HS) (K : HS → Prop) : Prop := ∃ q v σ1, h_rcv σ x 10 = some q ∧ F9 = some (v, σ1) ∧ ∃ q2, h_rcv σ1 mo 11 = some q2 ∧ ∃ σ2, F10 σ1 = some (v, σ2) ∧ K σ2
theorem lcN_of {F9 : Option (Int32 × HS)} {F10 : HS → Option (Int32 × HS)} {x m : Nat} {A : Nat → Nat} {ms ms' : MS} {σ σ1 : HS} {v : Int32} {p : Option (Int32 × MS)} {K : HS → Prop} (hx : h_tg σ x = 10) (h9 : F9 = some (v, σ1)) (V : MV σ1 m A ms) (hp : p = some (v, ms')) (lift : Rl σ1 m A (F10 σ1) p) (hK : ∀ σ4, MF σ1 σ4 m A → MV σ4 m A ms' → K σ4) : lcN F9 F10 (some x) (some m) σ K := by
  obtain ⟨σ3, l1, l2, l3⟩ := lift _ _ hp
  exact ⟨x, v, σ1, rcv_s hx, h9, m, rcv_s V.1, σ3, l1, hK σ3 l3 l2⟩
theorem thr_of {α : Type} {k : Nat} {σ : HS} (h1 : h_sz σ + 1 ≤ h_cz σ) (h2 : h_sl σ + 6 ≤ h_ck σ) : (h_thr k σ : Option (Except Nat α × HS)) = some (.error k, σ) := if_pos ⟨h1, h2⟩
theorem f_ne {b : Bool} (h : b = false) : ¬ b = true := by rw [h]; decide
section PSS
variable {fx : Bool} {σ : HS} {x : Nat} {G : Nat → Nat → Nat} {ms : MS}
theorem c_pass (F : Fx σ x) (N : Nx σ x ms) (ht : (h_thr 1 σ : Option (Except Nat Unit × HS)) = some (.error 1, σ)) (t : Int32) : f_X9_pass σ (some x) t = some (if passB ms t = true then (.ok (), h_setI σ x 9 (ms.1 1 + t)) else (.error 1, σ)) := by
  unfold f_X9_pass passB
  by_cases h1 : t < 1
  · rw [if_pos h1, ht, decide_eq_false (fun z => absurd h1 (Int32.not_lt.mpr z.1)), Bool.false_and, if_neg (by decide)]
  · rw [if_neg h1]
    by_cases h2 : 1000 < t
    · rw [if_pos h2, ht, decide_eq_false (fun z => absurd h2 (Int32.not_lt.mpr z.2)), Bool.false_and, if_neg (by decide)]
    · rw [if_neg h2, decide_eq_true ⟨Int32.not_lt.mp h1, Int32.not_lt.mp h2⟩, gI_s F.1, N.2.1, h_b1_s, Bool.true_and]
      by_cases h3 : ms.1 1 + t ≤ 1000000
      · rw [if_pos h3, h_b1_s, pI_s F.1, h_b1_s, decide_eq_true h3, if_pos rfl]
      · rw [if_neg h3, ht, decide_eq_false h3, if_neg (by decide)]
end PSS
theorem p_run_0 {ms : MS} (h : ms.1 36 = 0) (a : Int32) : p_X10_run ms a = some (0, if 0 ≤ a ∧ a ≤ 1000 then okM ms else noM ms) := by
  unfold p_X10_run
  rw [p_in_eq, k_bd_s]
  by_cases hc : 0 ≤ a ∧ a ≤ 1000
  · rw [decide_eq_true hc, if_neg (by decide), if_pos hc]
    show pg_X10_run_22 (1999 + 1) (okM ms) a 0 = _
    rw [pg_X10_run_22, if_pos okM_0]
    by_cases h2 : a ≤ 0
    · rw [if_pos h2]
    · rw [if_neg h2, okM_1 (by decide), h, if_pos (by decide)]
  · rw [decide_eq_false hc, if_pos (by decide), if_neg hc]
    show pg_X10_run_22 (1999 + 1) (noM ms) a 0 = _
    rw [pg_X10_run_22, noM_0, if_neg (by decide)]
end
/-! from 73.calls -/
section
/-! MORE CALLS: pass, count, truth, site, delegate -/
theorem cnt_zero {P : Nat → Bool} : ∀ (c i : Nat), cnt P i c = 0 → ∀ j, i ≤ j → j < i + c → P j = false
  | 0, i, _, j, h1, h2 => by omega
  | c + 1, i, h, j, h1, h2 => by
    have h' : (if P i = true then 1 else 0) + cnt P (i + 1) c = 0 := h
    have ha : (if P i = true then 1 else 0) = 0 := by omega
    have hb : cnt P (i + 1) c = 0 := by omega
    by_cases e : j = i
    · subst e
      cases hp : P j with
      | false => rfl
      | true => rw [hp, if_pos rfl] at ha; omega
    · exact cnt_zero c (i + 1) hb j (by omega) (by omega)
section CLS
variable {fx : Bool} {σ : HS} {x : Nat} {G : Nat → Nat → Nat} {ms : MS}
theorem c_count (R : Rep fx σ x G ms) (hE : f_X8_countEntries σ (some (x + 1)) (ms.1 1) = some (nI (cnt (liveE ms) 0 128), σ)) (hN : f_X9_countNotes σ (some x) = some (nI (cnt (liveN ms) 0 48), σ)) (w : Int32) : f_X9_count σ (some x) w = some (cntV ms w, σ) := by
  obtain ⟨-, F, N, Rr, -⟩ := R
  obtain ⟨t0, ⟨r0, -, -, -, r4, -⟩, ⟨t1, -⟩, -, -, -, -, ⟨t10, -⟩, -⟩ := F
  obtain ⟨n1, n2, n3, n4, n5, n6⟩ := N
  obtain ⟨f, n, -, -, -, q2, q3, q4, -⟩ := Rr
  have e4 : h_gR σ (some x) 10 4 = some (some (x + 10)) := by rw [gR_s t0, r4]
  have e0 : h_gR σ (some x) 10 0 = some (some (x + 1)) := by rw [gR_s t0, r0]
  unfold f_X9_count cntV
  by_cases h0 : w = 0
  · rw [if_pos h0, if_pos h0, e4, h_b1_s, gI_s t10, h_b1_s, q2, q3]
  rw [if_neg h0, if_neg h0]
  by_cases h1 : w = 1
  · rw [if_pos h1, if_pos h1, gI_s t0, h_b1_s, n4]
  rw [if_neg h1, if_neg h1]
  by_cases h2 : w = 2
  · rw [if_pos h2, if_pos h2, gI_s t0, h_b1_s, n5]
  rw [if_neg h2, if_neg h2]
  by_cases h3 : w = 3
  · rw [if_pos h3, if_pos h3, gI_s t0, h_b1_s, n6]
  rw [if_neg h3, if_neg h3]
  by_cases h4 : w = 4
  · rw [if_pos h4, if_pos h4, e4, h_b1_s, gI_s t10, h_b1_s, q4]
  rw [if_neg h4, if_neg h4]
  by_cases h5 : w = 5
  · rw [if_pos h5, if_pos h5, gI_s t0, h_b1_s, n1]
  rw [if_neg h5, if_neg h5]
  by_cases h6 : w = 6
  · rw [if_pos h6, if_pos h6, gI_s t0, h_b1_s, n2]
  rw [if_neg h6, if_neg h6]
  by_cases h7 : w = 7
  · rw [if_pos h7, if_pos h7, e0, h_b1_s, gI_s t0, h_b1_s, n2, rcv_s t1, h_b1_s, hE, h_bd_s]
  rw [if_neg h7, if_neg h7]
  by_cases h8 : w = 8
  · rw [if_pos h8, if_pos h8, rcv_s t0, h_b1_s, hN, h_bd_s]
  rw [if_neg h8, if_neg h8]
/-- a site comes -/
theorem c_site (R : Rep fx σ x G ms) (hz : h_sz σ + 4 ≤ h_cz σ) (hs : h_sl σ + 17 ≤ h_ck σ) (s pl : Int32) : f_X9_site σ (some x) s pl = some (if siteMB ms s pl = true then (.ok (), h_setR (rpl (h_sz σ) (sTx pl) σ) (x + 7) s.toNatClampNeg (some (h_sz σ + 0))) else (.error 1, σ)) := by
  have ht : (h_thr 1 σ : Option (Except Nat Unit × HS)) = some (.error 1, σ) := thr_of (by omega) (by omega)
  have B := R.n0
  have h50 := R.1.1
  obtain ⟨-, F, -, -, -, -, -, T⟩ := R
  have t7 := F.2.2.2.2.1
  have e1 : h_gR σ (some x) 10 1 = some (some (x + 7)) := by rw [gR_s F.1, F.2.1.2.1]
  unfold f_X9_site siteMB
  by_cases h1 : s < 0
  · rw [if_pos h1, ht, decide_eq_false (fun z => absurd h1 (Int32.not_lt.mpr z.1)), Bool.false_and, if_neg (by decide)]
  rw [if_neg h1]
  by_cases h2 : 8 ≤ s
  · rw [if_pos h2, ht, decide_eq_false (fun z => absurd (Int32.le_trans h2 z.2) (by decide)), Bool.false_and, if_neg (by decide)]
  obtain ⟨i, hi, rfl⟩ := b8 h1 (Int32.not_le.mp h2)
  have h07 : 0 ≤ nI i ∧ nI i ≤ 7 := ⟨Int32.not_lt.mp h1, nI_le (a := i) (b := 7) (by omega) (by decide)⟩
  have e2 : h_aR σ (some (x + 7)) 108 (nI i) = some (h_rv σ (x + 7) i) := aR_s t7.1 t7.2 hi (by decide)
  rw [if_neg h2, e1, h_b1_s, e2, h_b1_s, decide_eq_true h07, Bool.true_and, nI_clamp (by omega)]
  by_cases h3 : ms.2.1 14 i = -1
  · rw [(T.2 i hi).1 h3, if_pos rfl, c_isPlace, h_bd_s, decide_eq_true h3, Bool.true_and]
    by_cases h4 : 0 ≤ pl ∧ pl ≤ 15
    · have hne : ¬ pl = -1 := fun z => by rw [z] at h4; exact absurd h4.1 (by decide)
      rw [decide_eq_true h4, b2i_t, if_neg (by decide), rcv_s F.1, h_b1_s, c_hostOf F T hne, h_bd_s, Bool.true_and]
      by_cases h5 : freeB ms pl = true
      · have lo := rpl_lo B (a := x + 7) (by omega) (sTx pl)
        have e3 : h_sR (rpl (h_sz σ) (sTx pl) σ) (some (x + 7)) 108 8 (nI i) (some (h_sz σ + 0)) = some (h_setR (rpl (h_sz σ) (sTx pl) σ) (x + 7) i (some (h_sz σ + 0))) := sR_s (by rw [lo.1]; exact t7.1) (by rw [lo.2.1]; exact t7.2) hi (by decide) (decide_eq_true ((rpl_tg B 0 (sTx pl)).trans rfl))
        rw [if_pos ((o2i_free ms pl).mpr h5), e1, h_b1_s, si_mk (p := pl) B hz hs, h_bd_s, si_rcv B, h_b1_s, si_init B hz hs, h_bd_s, e3, h_b1_s, if_pos h5]
      · rw [if_neg (fun z => h5 ((o2i_free ms pl).mp z)), ht, if_neg h5]
    · rw [decide_eq_false h4, b2i_f, if_pos rfl, ht, Bool.false_and, if_neg (by decide)]
  · rw [((T.2 i hi).2 h3).1, if_neg (fun z => by cases z), ht, decide_eq_false h3, Bool.false_and, if_neg (by decide)]
/-- a part is given away -/
theorem c_delegate (R : Rep fx σ x G ms) (Tt : Tr ms) (hz : h_sz σ + 5 ≤ h_cz σ) (hs : h_sl σ + 40 ≤ h_ck σ) (p c b l : Int32) : ∃ r σ1, f_X9_delegate σ (some x) p c b l = some (r, σ1) ∧ ((delB ms p c b l = true ∧ r = .ok () ∧ σ1 = h_setR (rpl (h_sz σ) (pSx b l c p) σ) (x + 2) c.toNatClampNeg (some (h_sz σ + 1))) ∨ (delB ms p c b l = false ∧ r = .error 1 ∧ (σ1 = σ ∨ σ1 = rpl (h_sz σ) (pSp b l c p) σ))) := by
  have ht : (h_thr 1 σ : Option (Except Nat Unit × HS)) = some (.error 1, σ) := thr_of (by omega) (by omega)
  have B := R.n0
  have h50 := R.1.1
  have R0 := R
  obtain ⟨-, F, -, -, -, -, S, -⟩ := R
  have e0 : h_gR σ (some x) 10 0 = some (some (x + 1)) := by rw [gR_s F.1, F.2.1.1]
  have t1 := F.2.2.1
  unfold f_X9_delegate delB
  rw [e0, h_b1_s, rcv_s t1.1, h_b1_s, c_at F S, h_bd_s]
  by_cases h1 : srvB ms p = true
  · obtain ⟨i, hi, rfl, hpr⟩ := srvB_nI h1
    rw [h1, if_pos rfl, if_neg (fun z => by cases z), Bool.true_and, nI_clamp (by omega)]
    by_cases h2 : c < 0
    · rw [if_pos h2, ht, decide_eq_false (fun z => absurd h2 (Int32.not_lt.mpr z.1))]
      exact ⟨_, _, rfl, Or.inr ⟨rfl, rfl, Or.inl rfl⟩⟩
    rw [if_neg h2]
    by_cases h3 : 8 ≤ c
    · rw [if_pos h3, ht, decide_eq_false (fun z => absurd (Int32.le_trans h3 z.2) (by decide))]
      exact ⟨_, _, rfl, Or.inr ⟨rfl, rfl, Or.inl rfl⟩⟩
    obtain ⟨k, hk, rfl⟩ := b8 h2 (Int32.not_le.mp h3)
    have h07 : 0 ≤ nI k ∧ nI k ≤ 7 := ⟨Int32.not_lt.mp h2, nI_le (a := k) (b := 7) (by omega) (by decide)⟩
    rw [if_neg h3, e0, h_b1_s, rcv_s t1.1, h_b1_s, c_at F S, h_bd_s, decide_eq_true h07, Bool.true_and, srvB_i hk, nI_clamp (n := k) (by omega)]
    by_cases h4 : ms.2.1 3 k = 0
    · rw [decide_eq_false (fun z => z h4), if_neg (show ¬ (false = true) by decide), if_pos rfl, decide_eq_true h4, Bool.true_and]
      cases h5 : vpB b l with
      | false =>
        rw [of_no h5, h_bd_s, if_pos rfl, ht]
        exact ⟨_, _, rfl, Or.inr ⟨rfl, rfl, Or.inl rfl⟩⟩
      | true =>
        rw [of_yes B (by omega) (by omega) h5 (nI k) (nI i), h_bd_s, if_neg (fun z => by cases z), Bool.true_and]
        obtain ⟨n, hn, rfl, hv⟩ := vpB_nI h5
        have E := Ext_rpl B (pSp b (nI n) (nI k) (nI i))
        have hcz := (rpl_c (x := h_sz σ) (σ := σ) (pSp b (nI n) (nI k) (nI i)))
        have hsz : h_sz (rpl (h_sz σ) (pSp b (nI n) (nI k) (nI i)) σ) = h_sz σ + 1 := rpl_sz B _
        have hsl : h_sl (rpl (h_sz σ) (pSp b (nI n) (nI k) (nI i)) σ) = h_sl σ + 2 := rpl_sl _
        have R1 := R0.ext E
        have hP1 : hP (rpl (h_sz σ) (pSp b (nI n) (nI k) (nI i)) σ) (h_sz σ + 0) b n := ⟨rpl_tg B 0 _, rpl_iv B 0 0 _ (Or.inl (show 0 < 1 by decide)), rpl_iv B 0 1 _ (Or.inl (show 0 < 1 by decide)), hn, hv⟩
        show ∃ r σ1, h_b1 (h_gR (rpl (h_sz σ) (pSp b (nI n) (nI k) (nI i)) σ) (some (G 0 i)) 7 2) _ = some (r, σ1) ∧ _
        generalize hτ : rpl (h_sz σ) (pSp b (nI n) (nI k) (nI i)) σ = τ at E hcz hsz hsl R1 hP1 ⊢
        have ht1 : (h_thr 1 τ : Option (Except Nat Unit × HS)) = some (.error 1, τ) := thr_of (by rw [hsz, hcz.1]; omega) (by rw [hsl, hcz.2]; omega)
        obtain ⟨-, F1, -, -, -, -, S1, -⟩ := R1
        obtain ⟨-, q, hq, hPq⟩ := c_sv S1 F1 hi hpr
        have e01 : h_gR τ (some x) 10 0 = some (some (x + 1)) := by rw [gR_s F1.1, F1.2.1.1]
        rw [hq, h_b1_s, rcv_s hP1.1, h_b1_s, same_eq hP1 hPq, h_bd_s]
        have hown : (ownE ms b (ln (nI n)) = some i) ↔ ownB ms b n i = true := by rw [ln_nI hn, ownE_iff Tt hn, ownB_iff Tt hi hpr]
        have hpl : (ms.2.1 5 i = nI n) ↔ n = pL ms i := by
          obtain ⟨g1, g2⟩ := Ln_nI (Tt.2.1 i hi)
          constructor
          · intro z
            have : ln (ms.2.1 5 i) = ln (nI n) := by rw [z]
            rw [ln_nI hn] at this
            exact this.symm
          · intro z
            rw [g1, z]; rfl
        cases hsm : (decide (b = pB ms i) && decide (n = pL ms i)) with
        | true =>
          rw [b2i_t, if_neg (by decide), ht1]
          have := (Bool.and_eq_true _ _).mp hsm
          have hn2 := of_decide_eq_true this.2
          rw [decide_eq_false (show ¬ ¬ ms.2.1 5 i = nI n from fun z => z (hpl.mpr hn2)), Bool.and_false]
          exact ⟨_, _, rfl, Or.inr ⟨rfl, rfl, Or.inr rfl⟩⟩
        | false =>
          rw [b2i_f, if_pos rfl, e01, h_b1_s, rcv_s F1.2.2.1.1, h_b1_s, c_owns F1 S1 Tt hi hpr hP1, h_bd_s]
          cases hob : ownB ms b n i with
          | false =>
            rw [b2i_f, if_pos rfl, ht1, decide_eq_false (fun z => by rw [hown.mp z] at hob; cases hob)]
            exact ⟨_, _, rfl, Or.inr ⟨rfl, rfl, Or.inr rfl⟩⟩
          | true =>
            have how := (ownB_iff Tt hi hpr).mp hob
            have hne : ¬ ms.2.1 5 i = nI n := fun z => by
              have hn2 := hpl.mp z
              have hag : ag (pL ms i) b (pB ms i) = true := how.2.2.1.2
              have hvb := Tt.2.2.1 i hi hpr
              rw [← hn2] at hag hvb
              have hbb := vb_eq hn hv hvb hag
              rw [decide_eq_true hbb, decide_eq_true hn2] at hsm
              cases hsm
            have B' := B
            rw [b2i_t, if_neg (by decide), e01, h_b1_s, ← hτ, sv_mk B (by omega) (by omega), h_bd_s, sv_rcv B, h_b1_s, sv_init B (by omega) (by omega), h_bd_s, decide_eq_true (hown.mpr hob), decide_eq_true hne]
            have R2 := R0.ext (Ext_rpl B (pSx b (nI n) (nI k) (nI i)))
            obtain ⟨-, F2, -, -, -, -, S2, -⟩ := R2
            have g1 : h_gI (rpl (h_sz σ) (pSx b (nI n) (nI k) (nI i)) σ) (some (h_sz σ + 1)) 7 0 = some (nI k) := E_gI B rfl (by decide) rfl
            have g2 : h_gR (rpl (h_sz σ) (pSx b (nI n) (nI k) (nI i)) σ) (some (x + 1)) 9 0 = some (some (x + 2)) := (c_servers F2 S2 hk).1
            have g3 : h_sR (rpl (h_sz σ) (pSx b (nI n) (nI k) (nI i)) σ) (some (x + 2)) 107 7 (nI k) (some (h_sz σ + 1)) = some (h_setR (rpl (h_sz σ) (pSx b (nI n) (nI k) (nI i)) σ) (x + 2) k (some (h_sz σ + 1))) := sR_s F2.2.2.2.1.1 F2.2.2.2.1.2 hk (by decide) (decide_eq_true ((rpl_tg B 1 _).trans rfl))
            have hpl : f_X8_plant (rpl (h_sz σ) (pSx b (nI n) (nI k) (nI i)) σ) (some (x + 1)) (some (h_sz σ + 1)) = some ((), h_setR (rpl (h_sz σ) (pSx b (nI n) (nI k) (nI i)) σ) (x + 2) k (some (h_sz σ + 1))) := by
              unfold f_X8_plant
              rw [g1, h_b1_s, if_neg h2, h_b1_s, if_neg h3, g2, h_b1_s, h_b1_s, g3, h_b1_s]
            rw [rcv_s F2.2.2.1.1, h_b1_s, hpl, h_bd_s]
            exact ⟨_, _, rfl, Or.inl ⟨rfl, rfl, rfl⟩⟩
    · rw [decide_eq_true h4, if_pos rfl, if_neg (fun z => by cases z), ht, decide_eq_false h4]
      exact ⟨_, _, rfl, Or.inr ⟨rfl, rfl, Or.inl rfl⟩⟩
  · have h1' : srvB ms p = false := by cases h : srvB ms p with
      | false => rfl
      | true => exact absurd h h1
    rw [h1', if_neg (show ¬ (false = true) by decide), if_pos rfl, ht]
    exact ⟨_, _, rfl, Or.inr ⟨rfl, rfl, Or.inl rfl⟩⟩
end CLS
theorem ite_both {c A B : Prop} [Decidable c] (h1 : A) (h2 : B) : if c then A else B := by
  by_cases h : c
  · rw [if_pos h]; exact h1
  · rw [if_neg h]; exact h2
end
/-! from 74.later -/
section
/-! TIME GOES ON: what has lapsed is gone on both sides -/
def eP (now : Int32) (q : E6) : Bool := decide (now < q.2.2.2.2.2)
theorem eL_later {now now' : Int32} (h : now ≤ now') {f : Nat → Option E6} : ∀ (c i : Nat), eL now' f i c = (eL now f i c).filter (eP now')
  | 0, i => rfl
  | c + 1, i => by
    have ih := eL_later h (f := f) c (i + 1)
    unfold eL
    cases hf : f i with
    | none => exact ih
    | some q =>
      show (if now' < q.2.2.2.2.2 then q :: eL now' f (i + 1) c else eL now' f (i + 1) c) = (if now < q.2.2.2.2.2 then q :: eL now f (i + 1) c else eL now f (i + 1) c).filter (eP now')
      by_cases h1 : now' < q.2.2.2.2.2
      · rw [if_pos h1, if_pos (Int32.lt_of_le_of_lt h h1), List.filter_cons_of_pos (p := eP now') (a := q) (decide_eq_true h1), ih]
      · rw [if_neg h1]
        by_cases h2 : now < q.2.2.2.2.2
        · rw [if_pos h2, List.filter_cons_of_neg (p := eP now') (a := q) (fun z => h1 (of_decide_eq_true z)), ih]
        · rw [if_neg h2, ih]
theorem lL_later {α : Type} {P P' : α → Bool} (h : ∀ q, P' q = true → P q = true) {f : Nat → Option α} : ∀ (c i : Nat), lL P' f i c = (lL P f i c).filter P'
  | 0, i => rfl
  | c + 1, i => by
    have ih := lL_later h (f := f) c (i + 1)
    unfold lL
    cases hf : f i with
    | none => exact ih
    | some q =>
      show (if P' q = true then q :: lL P' f (i + 1) c else lL P' f (i + 1) c) = (if P q = true then q :: lL P f (i + 1) c else lL P f (i + 1) c).filter P'
      by_cases h1 : P' q = true
      · rw [if_pos h1, if_pos (h q h1), List.filter_cons_of_pos h1, ih]
      · rw [if_neg h1]
        by_cases h2 : P q = true
        · rw [if_pos h2, List.filter_cons_of_neg h1, ih]
        · rw [if_neg h2, ih]
theorem fa2_filter {α β : Type} {R : α → β → Prop} {P : α → Bool} {P' : β → Bool} (h : ∀ a b, R a b → P a = P' b) : ∀ (l : List α) (r : List β), fa2 R l r → fa2 R (l.filter P) (r.filter P')
  | [], [], _ => trivial
  | a :: l, b :: r, hh => by
    have ih := fa2_filter h l r hh.2
    have e := h a b hh.1
    cases hp : P a with
    | true => rw [List.filter_cons_of_pos hp, List.filter_cons_of_pos (by rw [← e]; exact hp)]; exact ⟨hh.1, ih⟩
    | false => rw [List.filter_cons_of_neg (by rw [hp]; decide), List.filter_cons_of_neg (by rw [← e, hp]; decide)]; exact ih
  | [], _ :: _, hh => absurd hh (by intro z; exact z)
  | _ :: _, [], hh => absurd hh (by intro z; exact z)
theorem nP_le {now now' : Int32} (h : now ≤ now') (q : N5) (h1 : nP now' q = true) : nP now q = true := decide_eq_true (Int32.lt_of_le_of_lt h (of_decide_eq_true h1))
theorem NtR_filter {fx : Bool} {cl : List N5} {rl : List (N5 × Int32)} (N : NtR fx cl rl) (now : Int32) : NtR fx (cl.filter (nP now)) (rl.filter (fun q => nP now q.1)) := by
  obtain ⟨L, h1, h2, h3⟩ := N
  refine ⟨L.filter (fun q => nP now q.1), h1.filter _, h2.filter _, fa2_filter (fun a b hab => ?_) cl L h3⟩
  unfold nP
  rw [hab.2.2.2.1]
section LTR
variable {fx : Bool} {σ σ' : HS} {x : Nat} {G : Nat → Nat → Nat} {ms ms' : MS}
/-- the same cells, a later time -/
theorem SvR.later {i : Nat} (I : SvR σ G ms i) (h : ms.1 1 ≤ ms'.1 1) (e : ∀ k j, ms'.2.1 k j = ms.2.1 k j) (e3 : ms'.2.2 = ms.2.2) : SvR σ G ms' i := by
  obtain ⟨a1, a2, a3, a4, a5, a6, b3, b4, b5⟩ := I
  have epB : pB ms' i = pB ms i := e 4 i
  have epL : pL ms' i = pL ms i := by unfold pL; rw [e 5 i]
  refine ⟨a1, a2, by rw [e 6 i]; exact a3, by rw [epB, epL]; exact a4, a5, a6, by rw [e3]; exact b3, b4, ?_⟩
  have em : ∀ j, eM ms' j = eM ms j := fun j => by unfold eM; rw [e, e, e, e, e, e]
  have e1 : eL (ms'.1 1) (eM ms') (16 * i) 16 = (eL (ms.1 1) (eM ms) (16 * i) 16).filter (eP (ms'.1 1)) := (eL_congr 16 (16 * i) (fun j _ _ => em j)).trans (eL_later h 16 (16 * i))
  rw [eL_later h (f := eC σ (G 1 i)) 16 0, e1]
  exact b5.filter _
theorem SiR.later {s : Nat} (I : SiR fx σ G ms s) (h : ms.1 1 ≤ ms'.1 1) (e : ∀ k j, ms'.2.1 k j = ms.2.1 k j) : SiR fx σ G ms' s := by
  obtain ⟨a1, a2, a3, a4, a5, a6, a7, a8, z, z1, z2, z3, z4⟩ := I
  refine ⟨a1, by rw [e]; exact a2, by rw [e]; exact a3, by rw [e]; exact a4, a5, ?_, a7, a8, z, z1, z2, z3, ?_⟩
  · obtain ⟨c, c1, c2, c3⟩ := a6
    exact ⟨c, c1, by rw [e]; exact c2, fun k hk => by rw [e, e]; exact c3 k hk⟩
  · have em : ∀ j, nM ms' j = nM ms j := fun j => by unfold nM; rw [e, e, e, e, e, e]
    have e1 : lL (nP (ms'.1 1)) (nC σ (G 6 s)) 0 z = (lL (nP (ms.1 1)) (nC σ (G 6 s)) 0 z).filter (nP (ms'.1 1)) := lL_later (nP_le h) z 0
    have e2 : lL (fun q => nP (ms'.1 1) q.1) (nM ms') (6 * s) 6 = (lL (fun q => nP (ms.1 1) q.1) (nM ms) (6 * s) 6).filter (fun q => nP (ms'.1 1) q.1) := (lL_congr 6 (6 * s) (fun j _ _ => em j)).trans (lL_later (P := fun q : N5 × Int32 => nP (ms.1 1) q.1) (P' := fun q : N5 × Int32 => nP (ms'.1 1) q.1) (fun q hq => nP_le h q.1 hq) 6 (6 * s))
    rw [e1, e2]
    exact NtR_filter z4 _
/-- time goes on -/
theorem Rep_pass (P : Rep fx σ x G ms) {t t' : Nat} (ht : ms.1 1 = nI t) (hle : t ≤ t') (hb : t' ≤ 1000000) : Rep fx (h_setI σ x 9 (nI t')) x G (k_pI ms 1 (nI t')) := by
  have hW : WI [x] σ (h_setI σ x 9 (nI t')) := WI_I (by simp)
  have h50 := P.1.1
  obtain ⟨Z, F, N, R, W, K, S, T⟩ := P
  have hn : ∀ k, k ≠ 0 → Sm σ (h_setI σ x 9 (nI t')) (x + k) := fun k hk => Sm_I (by omega)
  have hsm : ∀ b, h_tg σ b ≠ 10 → Sm σ (h_setI σ x 9 (nI t')) b := fun b hb => Sm_I (fun z => hb (by rw [z]; exact F.1))
  have hle' : ms.1 1 ≤ (k_pI ms 1 (nI t')).1 1 := by rw [pI_s1, ht]; exact nI_le hle (by omega)
  have e1 : ∀ k, k ≠ 1 → (k_pI ms 1 (nI t')).1 k = ms.1 k := fun k hk => pI_n1 hk
  refine ⟨Zx_WI hW Z, hW.fx F, ?_, R.to (hn 10 (by omega)) (hn 11 (by omega)) (e1 36 (by omega)) (e1 42 (by omega)) (fun _ => rfl), ?_, K.to (hn 14 (by omega)) (fun b hb => hsm b (by rw [hb]; decide)) (e1 28 (by omega)) (fun _ _ _ _ => rfl), ?_, ?_⟩
  · obtain ⟨n1, n2, n3, n4, n5, n6⟩ := N
    refine ⟨by rw [iv_sIk (by omega), e1 28 (by omega)]; exact n1, by rw [iv_sI, pI_s1], by rw [iv_sIk (by omega), e1 2 (by omega)]; exact n3, by rw [iv_sIk (by omega), e1 39 (by omega)]; exact n4, by rw [iv_sIk (by omega), e1 40 (by omega)]; exact n5, by rw [iv_sIk (by omega), e1 41 (by omega)]; exact n6⟩
  · intro p hp
    obtain ⟨w1, w2⟩ := W p hp
    refine ⟨by rw [(hn 8 (by omega)).2.2.1]; exact w1, fun h => ?_⟩
    obtain ⟨u, tn, u1, u2, u3, u4, u5⟩ := w2 h
    rw [(hn 9 (by omega)).2.2.1]
    have : tn = t := (nI_eq (by omega) (by omega)).mp (u3.symm.trans ht)
    exact ⟨u, t', u1, u2, pI_s1, by omega, hb⟩
  · have S' := S.to (σ' := h_setI σ x 9 (nI t')) (ms' := ms) (hn 2 (by omega)) (fun b hb => hsm b (by rcases hb with h | h | h | h <;> rw [h] <;> decide)) (fun i hi hp => hsm _ (by obtain ⟨-, -, -, -, -, -, ⟨-, b1, -⟩, -⟩ := (S.2.2 i hi).2 hp; rw [b1]; decide)) rfl (fun _ _ _ _ => rfl) rfl
    obtain ⟨s1, s2, s3⟩ := S'
    exact ⟨s1, s2, fun i hi => ⟨(s3 i hi).1, fun hp => ⟨((s3 i hi).2 hp).1, ((s3 i hi).2 hp).2.later hle' (fun _ _ => rfl) rfl⟩⟩⟩
  · have T' := T.to (σ' := h_setI σ x 9 (nI t')) (ms' := ms) (hn 7 (by omega)) (fun b hb => hsm b (by rcases hb with h | h | h | h | h | h <;> rw [h] <;> decide)) rfl (fun _ _ _ _ => rfl)
    obtain ⟨t1, t2⟩ := T'
    exact ⟨t1, fun s hs => ⟨(t2 s hs).1, fun hp => ⟨((t2 s hs).2 hp).1, ((t2 s hs).2 hp).2.later hle' (fun _ _ => rfl)⟩⟩⟩
end LTR
end
/-! from 75.newsite -/
section
/-! A SITE COMES, A SERVER COMES: the two sides with new cells -/
section NSV
variable {fx : Bool} {σ σ' : HS} {x : Nat} {G G' : Nat → Nat → Nat} {ms ms' : MS}
theorem SiR.num {s : Nat} (I : SiR fx σ G ms s) (e1 : ms'.1 1 = ms.1 1) (e14 : ms'.2.1 14 s = ms.2.1 14 s) (e15 : ms'.2.1 15 s = ms.2.1 15 s) (e18 : ms'.2.1 18 s = ms.2.1 18 s) (e16 : ∀ k, k < 4 → ms'.2.1 16 (4 * s + k) = ms.2.1 16 (4 * s + k)) (e17 : ∀ k, k < 4 → ms'.2.1 17 (4 * s + k) = ms.2.1 17 (4 * s + k)) (en : ∀ k j, 19 ≤ k → k ≤ 24 → 6 * s ≤ j → j < 6 * s + 6 → ms'.2.1 k j = ms.2.1 k j) : SiR fx σ G ms' s := by
  obtain ⟨a1, a2, a3, a4, a5, ⟨c, c1, c2, c3⟩, a7, a8, z, z1, z2, z3, z4⟩ := I
  refine ⟨a1, by rw [e14]; exact a2, by rw [e18]; exact a3, by rw [e15]; exact a4, a5, ⟨c, c1, by rw [e15]; exact c2, fun k hk => by rw [e16 k (by omega), e17 k (by omega)]; exact c3 k hk⟩, a7, a8, z, z1, z2, z3, ?_⟩
  have em : lL (fun q => nP (ms'.1 1) q.1) (nM ms') (6 * s) 6 = lL (fun q => nP (ms.1 1) q.1) (nM ms) (6 * s) 6 := by
    rw [e1]
    refine lL_congr 6 (6 * s) (fun j hj1 hj2 => ?_)
    unfold nM
    rw [en 19 j (by omega) (by omega) hj1 hj2, en 20 j (by omega) (by omega) hj1 hj2, en 21 j (by omega) (by omega) hj1 hj2, en 22 j (by omega) (by omega) hj1 hj2, en 23 j (by omega) (by omega) hj1 hj2, en 24 j (by omega) (by omega) hj1 hj2]
  rw [em, e1]
  exact z4
theorem SiR.g {s : Nat} (I : SiR fx σ G ms s) (h3 : G' 3 s = G 3 s) (h4 : G' 4 s = G 4 s) (h5 : G' 5 s = G 5 s) (h6 : G' 6 s = G 6 s) : SiR fx σ G' ms s := by
  unfold SiR at *
  rw [h3, h4, h5, h6]
  exact I
theorem SvR.num {i : Nat} (I : SvR σ G ms i) (e1 : ms'.1 1 = ms.1 1) (e4 : ms'.2.1 4 i = ms.2.1 4 i) (e5 : ms'.2.1 5 i = ms.2.1 5 i) (e6 : ms'.2.1 6 i = ms.2.1 6 i) (en : ∀ k j, 7 ≤ k → k ≤ 12 → 16 * i ≤ j → j < 16 * i + 16 → ms'.2.1 k j = ms.2.1 k j) (e3 : ∀ s, s < 8 → ms'.2.2 (8 * i + s) = ms.2.2 (8 * i + s)) : SvR σ G ms' i := by
  obtain ⟨a1, a2, a3, a4, a5, a6, b3, b4, b5⟩ := I
  have epB : pB ms' i = pB ms i := e4
  have epL : pL ms' i = pL ms i := by unfold pL; rw [e5]
  refine ⟨a1, a2, by rw [e6]; exact a3, by rw [epB, epL]; exact a4, a5, a6, fun s hs => by rw [e3 s hs]; exact b3 s hs, b4, ?_⟩
  have em : eL (ms'.1 1) (eM ms') (16 * i) 16 = eL (ms.1 1) (eM ms) (16 * i) 16 := by
    rw [e1]
    refine eL_congr 16 (16 * i) (fun j h1 h2 => ?_)
    unfold eM
    rw [en 7 j (by omega) (by omega) h1 h2, en 8 j (by omega) (by omega) h1 h2, en 9 j (by omega) (by omega) h1 h2, en 10 j (by omega) (by omega) h1 h2, en 11 j (by omega) (by omega) h1 h2, en 12 j (by omega) (by omega) h1 h2]
  rw [em, e1]
  exact b5
theorem SvR.g {i : Nat} (I : SvR σ G ms i) (h0 : G' 0 i = G 0 i) (h1 : G' 1 i = G 1 i) (h2 : G' 2 i = G 2 i) : SvR σ G' ms i := by
  unfold SvR at *
  rw [h0, h1, h2]
  exact I
/-- where the new site's parts lie -/
def gSite (G : Nat → Nat → Nat) (s a : Nat) : Nat → Nat → Nat := fun k j => if 3 ≤ k ∧ k ≤ 6 ∧ j = s then a + (k - 3) else G k j
theorem gSite_n {s a k j : Nat} (h : j ≠ s) : gSite G s a k j = G k j := if_neg (fun z => h z.2.2)
theorem gSite_k {s a k j : Nat} (h : k < 3 ∨ 6 < k) : gSite G s a k j = G k j := if_neg (fun z => by omega)
theorem gSite_s {s a k : Nat} (h : 3 ≤ k ∧ k ≤ 6) : gSite G s a k s = a + (k - 3) := if_pos ⟨h.1, h.2, rfl⟩
theorem Kx.g (K : Kx σ x G ms) (h : ∀ i, G' 7 i = G 7 i) : Kx σ x G' ms := by
  obtain ⟨np, a1, a2, a3, a4⟩ := K
  exact ⟨np, a1, a2, fun i j hi hj e => a3 i j hi hj (by rw [← h, ← h]; exact e), fun i hi => by rw [h i]; exact a4 i hi⟩
theorem Sx.g (S : Sx σ x G ms) (h : ∀ k i, k ≤ 2 → G' k i = G k i) : Sx σ x G' ms := by
  obtain ⟨s1, s2, s3⟩ := S
  refine ⟨fun i j hi hj p1 p2 e => s1 i j hi hj p1 p2 (by rw [← h 1 i (by omega), ← h 1 j (by omega), ← h 2 i (by omega), ← h 2 j (by omega), ← h 0 i (by omega), ← h 0 j (by omega)]; exact e), fun i hi p => by rw [h 2 i (by omega)]; exact s2 i hi p, fun i hi => ⟨(s3 i hi).1, fun p => ?_⟩⟩
  obtain ⟨r1, I⟩ := (s3 i hi).2 p
  exact ⟨by rw [h 0 i (by omega)]; exact r1, I.g (h 0 i (by omega)) (h 1 i (by omega)) (h 2 i (by omega))⟩
theorem Tx.g (T : Tx fx σ x G ms) (h : ∀ k i, 3 ≤ k → k ≤ 6 → G' k i = G k i) : Tx fx σ x G' ms := by
  obtain ⟨t1, t2⟩ := T
  refine ⟨fun i j hi hj p1 p2 e => t1 i j hi hj p1 p2 (by rw [← h 3 i (by omega) (by omega), ← h 3 j (by omega) (by omega), ← h 4 i (by omega) (by omega), ← h 4 j (by omega) (by omega), ← h 5 i (by omega) (by omega), ← h 5 j (by omega) (by omega), ← h 6 i (by omega) (by omega), ← h 6 j (by omega) (by omega)]; exact e), fun i hi => ⟨(t2 i hi).1, fun p => ?_⟩⟩
  obtain ⟨r1, I⟩ := (t2 i hi).2 p
  exact ⟨by rw [h 3 i (by omega) (by omega)]; exact r1, I.g (h 3 i (by omega) (by omega)) (h 4 i (by omega) (by omega)) (h 5 i (by omega) (by omega)) (h 6 i (by omega) (by omega))⟩
theorem Tx.to' (T : Tx fx σ x G ms) (ht : ∀ b, h_tg σ b = 2 ∨ h_tg σ b = 3 ∨ h_tg σ b = 5 ∨ h_tg σ b = 8 ∨ h_tg σ b = 104 ∨ h_tg σ b = 106 → Sm σ σ' b) : ∀ s, s < 8 → ¬ ms.2.1 14 s = -1 → SiR fx σ' G ms s := fun s hs h => ((T.2 s hs).2 h).2.to ht rfl (fun _ _ _ _ => rfl)
set_option maxRecDepth 100000 in
theorem Rep_site (P : Rep fx σ x G ms) {s : Nat} (hs : s < 8) (h14 : ms.2.1 14 s = -1) (h15 : ms.2.1 15 s = 0) (h18 : ms.2.1 18 s = 0) (hnt : lL (fun q => nP (ms.1 1) q.1) (nM ms) (6 * s) 6 = []) {pl : Int32} (hpl : ¬ pl = -1) : Rep fx (h_setR (rpl (h_sz σ) (sTx pl) σ) (x + 7) s (some (h_sz σ + 0))) x (gSite G s (h_sz σ)) (aS ms 14 s pl) := by
  have B := P.n0
  have h50 := P.1.1
  have P0 := P
  have P1 := P.ext (Ext_rpl B (sTx pl))
  have tg : ∀ k t, tgL k (sTx pl) = t → h_tg (rpl (h_sz σ) (sTx pl) σ) (h_sz σ + k) = t := fun k t e => (rpl_tg B k _).trans e
  have rv : ∀ k j r, k < 4 → rvL k j (sTx pl) = some r → h_rv (rpl (h_sz σ) (sTx pl) σ) (h_sz σ + k) j = some (h_sz σ + r) := fun k j r hk e => by rw [rpl_rv B k j (sTx pl) (Or.inl hk), e]; rfl
  have iv : ∀ k j r, k < 4 → ivL k j (sTx pl) = r → h_iv (rpl (h_sz σ) (sTx pl) σ) (h_sz σ + k) j = r := fun k j r hk e => (rpl_iv B k j (sTx pl) (Or.inl hk)).trans e
  have ln : ∀ k r, k < 4 → lnL k (sTx pl) = r → h_ln (rpl (h_sz σ) (sTx pl) σ) (h_sz σ + k) = r := fun k r hk e => (rpl_ln B k (sTx pl) (Or.inl hk)).trans e
  have lt0 : ∀ t k, t < 8 → ¬ ms.2.1 14 t = -1 → 3 ≤ k → k ≤ 6 → G k t < h_sz σ := by
    intro t k ht hp hk1 hk2
    obtain ⟨-, a1, -, -, -, ⟨-, a6, -⟩, -, ⟨-, a9⟩, ⟨-, b2, -⟩, -⟩ := (P0.2.2.2.2.2.2.2.2 t ht).2 hp
    rcases (show k = 3 ∨ k = 4 ∨ k = 5 ∨ k = 6 by omega) with e | e | e | e <;> rw [e]
    · exact P0.lt (by rw [a1]; decide)
    · exact P0.lt (by rw [a6]; decide)
    · exact P0.lt (by rw [a9]; decide)
    · exact P0.lt (by rw [b2]; decide)
  generalize hτ : rpl (h_sz σ) (sTx pl) σ = τ at P1 tg rv iv ln ⊢
  have hn : ∀ b, b ≠ x + 7 → Sm τ (h_setR τ (x + 7) s (some (h_sz σ + 0))) b := fun b hb => Sm_R hb
  obtain ⟨Z, F, N, R, W, K, S, T⟩ := P1
  have ht : ∀ b, h_tg τ b ≠ 108 → Sm τ (h_setR τ (x + 7) s (some (h_sz σ + 0))) b := fun b hb => hn b (fun z => hb (by rw [z]; exact F.2.2.2.2.1.1))
  refine ⟨Z, F.to (Fs_R (by omega) (by omega) (by omega)), N.to (hn x (by omega)) rfl rfl rfl rfl rfl rfl, R.to (hn _ (by omega)) (hn _ (by omega)) rfl rfl (fun _ => aS_k (by decide)), W.to (hn _ (by omega)) (hn _ (by omega)) rfl (fun _ => aS_k (by decide)) (fun _ => aS_k (by decide)), ?_, ?_, ?_⟩
  · exact (K.to (ms' := aS ms 14 s pl) (hn _ (by omega)) (fun b hb => ht b (by rw [hb]; decide)) rfl (fun k j h1 h2 => aS_k (by omega))).g (fun i => gSite_k (by omega))
  · exact (S.to (ms' := aS ms 14 s pl) (hn _ (by omega)) (fun b hb => ht b (by rcases hb with h | h | h | h <;> rw [h] <;> decide)) (fun i hi hp => ht _ (by obtain ⟨-, -, -, -, -, -, ⟨-, b1, -⟩, -⟩ := (S.2.2 i hi).2 hp; rw [b1]; decide)) rfl (fun k j h1 h2 => aS_k (by omega)) rfl).g (fun k i hk => gSite_k (by omega))
  · have T' := T.to' (σ' := h_setR τ (x + 7) s (some (h_sz σ + 0))) (fun b hb => ht b (by rcases hb with h | h | h | h | h | h <;> rw [h] <;> decide))
    have e14 : ∀ t, t ≠ s → (aS ms 14 s pl).2.1 14 t = ms.2.1 14 t := fun t h => aS_j h
    have es : (aS ms 14 s pl).2.1 14 s = pl := aS_s
    have ek : ∀ k j, k ≠ 14 → (aS ms 14 s pl).2.1 k j = ms.2.1 k j := fun k j h => aS_k h
    refine ⟨fun i j hi hj p1 p2 h => ?_, fun t htt => ?_⟩
    · by_cases e1 : i = s
      · by_cases e2 : j = s
        · rw [e1, e2]
        · exfalso
          rw [e14 j e2] at p2
          have l3 := lt0 j 3 hj p2 (by omega) (by omega)
          have l4 := lt0 j 4 hj p2 (by omega) (by omega)
          have l5 := lt0 j 5 hj p2 (by omega) (by omega)
          have l6 := lt0 j 6 hj p2 (by omega) (by omega)
          rw [e1, gSite_s (by omega), gSite_s (by omega), gSite_s (by omega), gSite_s (by omega), gSite_n e2, gSite_n e2, gSite_n e2, gSite_n e2] at h
          omega
      · rw [e14 i e1] at p1
        by_cases e2 : j = s
        · exfalso
          have l3 := lt0 i 3 hi p1 (by omega) (by omega)
          have l4 := lt0 i 4 hi p1 (by omega) (by omega)
          have l5 := lt0 i 5 hi p1 (by omega) (by omega)
          have l6 := lt0 i 6 hi p1 (by omega) (by omega)
          rw [e2, gSite_s (by omega), gSite_s (by omega), gSite_s (by omega), gSite_s (by omega), gSite_n e1, gSite_n e1, gSite_n e1, gSite_n e1] at h
          omega
        · rw [e14 j e2] at p2
          rw [gSite_n e1, gSite_n e1, gSite_n e1, gSite_n e1, gSite_n e2, gSite_n e2, gSite_n e2, gSite_n e2] at h
          exact T.1 i j hi hj p1 p2 h
    · by_cases e : t = s
      · subst e
        refine ⟨fun z => absurd (es.symm.trans z) hpl, fun _ => ⟨?_, ?_⟩⟩
        · rw [gSite_s (by omega)]
          exact rv_sR
        · have q3 : gSite G t (h_sz σ) 3 t = h_sz σ + 0 := gSite_s (by omega)
          have q4 : gSite G t (h_sz σ) 4 t = h_sz σ + 1 := gSite_s (by omega)
          have q5 : gSite G t (h_sz σ) 5 t = h_sz σ + 2 := gSite_s (by omega)
          have q6 : gSite G t (h_sz σ) 6 t = h_sz σ + 3 := gSite_s (by omega)
          have n0 := hn (h_sz σ + 0) (by omega)
          have n1 := hn (h_sz σ + 1) (by omega)
          have n2 := hn (h_sz σ + 2) (by omega)
          have n3 := hn (h_sz σ + 3) (by omega)
          unfold SiR
          rw [q3, q4, q5, q6, es, ek 18 t (by omega), ek 15 t (by omega), h15, h18, n0.1, n1.1, n1.2.1, n2.1, n3.1, n3.2.1, n0.2.2.1, n0.2.2.1, n0.2.2.1, n0.2.2.2.1, n0.2.2.2.1, n2.2.2.2.1, n2.2.2.1]
          refine ⟨tg 0 8 rfl, iv 0 0 pl (by omega) rfl, iv 0 1 0 (by omega) rfl, iv 0 3 0 (by omega) rfl, ⟨rv 0 2 1 (by omega) rfl, tg 1 106 rfl, ln 1 4 (by omega) rfl⟩, ⟨0, by omega, rfl, fun k hk => absurd hk (Nat.not_lt_zero k)⟩, ⟨rv 0 4 2 (by omega) rfl, tg 2 3 rfl⟩, ⟨rv 2 0 3 (by omega) rfl, tg 3 104 rfl, ln 3 6 (by omega) rfl⟩, 0, by omega, iv 2 1 0 (by omega) rfl, fun j hj => absurd hj (Nat.not_lt_zero j), ?_⟩
          have em : lL (fun q => nP ((aS ms 14 t pl).1 1) q.1) (nM (aS ms 14 t pl)) (6 * t) 6 = [] := by
            rw [← hnt]
            refine lL_congr 6 (6 * t) (fun j _ _ => ?_)
            unfold nM
            rw [ek 19 j (by omega), ek 20 j (by omega), ek 21 j (by omega), ek 22 j (by omega), ek 23 j (by omega), ek 24 j (by omega)]
          rw [em]
          exact ⟨[], List.Perm.refl _, List.Pairwise.nil, trivial⟩
      · refine ⟨fun z => ?_, fun z => ?_⟩
        · rw [e14 t e] at z
          rw [rv_sRk e]
          exact (T.2 t htt).1 z
        · rw [e14 t e] at z
          obtain ⟨r1, I⟩ := (T.2 t htt).2 z
          refine ⟨by rw [rv_sRk e, gSite_n e]; exact r1, ?_⟩
          exact ((T' t htt z).num (ms' := aS ms 14 s pl) rfl (e14 t e) (ek 15 _ (by omega)) (ek 18 _ (by omega)) (fun k _ => ek 16 _ (by omega)) (fun k _ => ek 17 _ (by omega)) (fun k j h1 _ _ _ => ek k j (by omega))).g (gSite_n e) (gSite_n e) (gSite_n e) (gSite_n e)
end NSV
end
/-! from 76.newserver -/
section
/-! A SERVER COMES -/
section NSR
variable {fx : Bool} {σ σ' : HS} {x : Nat} {G G' : Nat → Nat → Nat} {ms ms' : MS}
def gServ (G : Nat → Nat → Nat) (s a : Nat) : Nat → Nat → Nat := fun k j => if k ≤ 2 ∧ j = s then a + (k + 1) else G k j
theorem gServ_n {s a k j : Nat} (h : j ≠ s) : gServ G s a k j = G k j := if_neg (fun z => h z.2)
theorem gServ_k {s a k j : Nat} (h : 2 < k) : gServ G s a k j = G k j := if_neg (fun z => by omega)
theorem gServ_s {s a k : Nat} (h : k ≤ 2) : gServ G s a k s = a + (k + 1) := if_pos ⟨h, rfl⟩
theorem Sx.to' (S : Sx σ x G ms) (ht : ∀ b, h_tg σ b = 1 ∨ h_tg σ b = 5 ∨ h_tg σ b = 7 ∨ h_tg σ b = 103 ∨ h_tg σ b = 101 → Sm σ σ' b) : ∀ i, i < 8 → pr ms i → SvR σ' G ms i := fun i hi h => by
  obtain ⟨-, I⟩ := (S.2.2 i hi).2 h
  obtain ⟨-, -, -, -, -, ⟨-, b1, -⟩, -⟩ := id I
  exact I.to (fun b hb => ht b (by rcases hb with h | h | h | h <;> rw [h] <;> decide)) (ht _ (by rw [b1]; decide)) rfl (fun _ _ _ _ => rfl) rfl
def dlgM (ms : MS) (k : Nat) (b l p : Int32) : MS := aS (aS (aS (aS ms 3 k 1) 4 k b) 5 k l) 6 k p
theorem dlg_k {k : Nat} {b l p : Int32} {q j : Nat} (h : q < 3 ∨ 6 < q) : (dlgM ms k b l p).2.1 q j = ms.2.1 q j := by
  unfold dlgM
  rw [aS_k (by omega), aS_k (by omega), aS_k (by omega), aS_k (by omega)]
theorem dlg_j {k : Nat} {b l p : Int32} {q j : Nat} (h : j ≠ k) : (dlgM ms k b l p).2.1 q j = ms.2.1 q j := by
  unfold dlgM
  rw [aS_j h, aS_j h, aS_j h, aS_j h]
theorem dlg_3 {k : Nat} {b l p : Int32} : (dlgM ms k b l p).2.1 3 k = 1 := by
  unfold dlgM
  rw [aS_k (by omega), aS_k (by omega), aS_k (by omega), aS_s]
theorem dlg_4 {k : Nat} {b l p : Int32} : (dlgM ms k b l p).2.1 4 k = b := by
  unfold dlgM
  rw [aS_k (by omega), aS_k (by omega), aS_s]
theorem dlg_5 {k : Nat} {b l p : Int32} : (dlgM ms k b l p).2.1 5 k = l := by
  unfold dlgM
  rw [aS_k (by omega), aS_s]
theorem dlg_6 {k : Nat} {b l p : Int32} : (dlgM ms k b l p).2.1 6 k = p := by
  unfold dlgM
  rw [aS_s]
set_option maxRecDepth 100000 in
theorem Rep_server (P : Rep fx σ x G ms) {k n : Nat} {b p : Int32} (hk : k < 8) (h3 : ms.2.1 3 k = 0) (hn : n ≤ 32) (hv : vb n b = true) (hEn : eL (ms.1 1) (eM ms) (16 * k) 16 = []) (hHi : ∀ s, s < 8 → ms.2.2 (8 * k + s) = -3000000000) : Rep fx (h_setR (rpl (h_sz σ) (pSx b (nI n) (nI k) p) σ) (x + 2) k (some (h_sz σ + 1))) x (gServ G k (h_sz σ)) (dlgM ms k b (nI n) p) := by
  have B := P.n0
  have h50 := P.1.1
  have P0 := P
  have P1 := P.ext (Ext_rpl B (pSx b (nI n) (nI k) p))
  have tg : ∀ q t, tgL q (pSx b (nI n) (nI k) p) = t → h_tg (rpl (h_sz σ) (pSx b (nI n) (nI k) p) σ) (h_sz σ + q) = t := fun q t e => (rpl_tg B q _).trans e
  have rv : ∀ q j r, q < 4 → rvL q j (pSx b (nI n) (nI k) p) = some r → h_rv (rpl (h_sz σ) (pSx b (nI n) (nI k) p) σ) (h_sz σ + q) j = some (h_sz σ + r) := fun q j r hq e => by rw [rpl_rv B q j (pSx b (nI n) (nI k) p) (Or.inl hq), e]; rfl
  have rv0 : ∀ q j, q < 4 → rvL q j (pSx b (nI n) (nI k) p) = none → h_rv (rpl (h_sz σ) (pSx b (nI n) (nI k) p) σ) (h_sz σ + q) j = none := fun q j hq e => by rw [rpl_rv B q j (pSx b (nI n) (nI k) p) (Or.inl hq), e]; rfl
  have iv : ∀ q j r, q < 4 → ivL q j (pSx b (nI n) (nI k) p) = r → h_iv (rpl (h_sz σ) (pSx b (nI n) (nI k) p) σ) (h_sz σ + q) j = r := fun q j r hq e => (rpl_iv B q j (pSx b (nI n) (nI k) p) (Or.inl hq)).trans e
  have lv : ∀ q j r, q < 4 → lvL q j (pSx b (nI n) (nI k) p) = r → h_lv (rpl (h_sz σ) (pSx b (nI n) (nI k) p) σ) (h_sz σ + q) j = r := fun q j r hq e => (rpl_lv B q j (pSx b (nI n) (nI k) p) (Or.inl hq)).trans e
  have ln' : ∀ q r, q < 4 → lnL q (pSx b (nI n) (nI k) p) = r → h_ln (rpl (h_sz σ) (pSx b (nI n) (nI k) p) σ) (h_sz σ + q) = r := fun q r hq e => (rpl_ln B q (pSx b (nI n) (nI k) p) (Or.inl hq)).trans e
  have lt0 : ∀ t q, t < 8 → pr ms t → q ≤ 2 → G q t < h_sz σ := by
    intro t q ht hp hq
    obtain ⟨-, a1, -, -, -, ⟨-, a7, -⟩, ⟨-, b1, -⟩, -⟩ := (P0.2.2.2.2.2.2.1.2.2 t ht).2 hp
    rcases (show q = 0 ∨ q = 1 ∨ q = 2 by omega) with e | e | e <;> rw [e]
    · exact P0.lt (by rw [a1]; decide)
    · exact P0.lt (by rw [a7]; decide)
    · exact P0.lt (by rw [b1]; decide)
  generalize hτ : rpl (h_sz σ) (pSx b (nI n) (nI k) p) σ = τ at P1 tg rv rv0 iv lv ln' ⊢
  have hN : ∀ b, b ≠ x + 2 → Sm τ (h_setR τ (x + 2) k (some (h_sz σ + 1))) b := fun b hb => Sm_R hb
  obtain ⟨Z, F, N, R, W, K, S, T⟩ := P1
  have ht : ∀ b, h_tg τ b ≠ 107 → Sm τ (h_setR τ (x + 2) k (some (h_sz σ + 1))) b := fun b hb => hN b (fun z => hb (by rw [z]; exact F.2.2.2.1.1))
  refine ⟨Z, F.to (Fs_R (by omega) (by omega) (by omega)), N.to (hN x (by omega)) rfl rfl rfl rfl rfl rfl, R.to (hN _ (by omega)) (hN _ (by omega)) rfl rfl (fun _ => dlg_k (by omega)), W.to (hN _ (by omega)) (hN _ (by omega)) rfl (fun _ => dlg_k (by omega)) (fun _ => dlg_k (by omega)), ?_, ?_, ?_⟩
  · exact (K.to (ms' := dlgM ms k b (nI n) p) (hN _ (by omega)) (fun b hb => ht b (by rw [hb]; decide)) rfl (fun k j h1 h2 => dlg_k (by omega))).g (fun i => gServ_k (by omega))
  · have S' := S.to' (σ' := h_setR τ (x + 2) k (some (h_sz σ + 1))) (fun b hb => ht b (by rcases hb with h | h | h | h | h <;> rw [h] <;> decide))
    have ep : ∀ t, t ≠ k → (pr (dlgM ms k b (nI n) p) t ↔ pr ms t) := fun t h => by unfold pr; rw [dlg_j h]
    have epk : pr (dlgM ms k b (nI n) p) k := by unfold pr; rw [dlg_3]; decide
    refine ⟨fun i j hi hj p1 p2 h => ?_, fun i hi p1 => ?_, fun t htt => ?_⟩
    · by_cases e1 : i = k
      · by_cases e2 : j = k
        · rw [e1, e2]
        · exfalso
          have p2' := (ep j e2).mp p2
          have l0 := lt0 j 0 hj p2' (by omega)
          have l1 := lt0 j 1 hj p2' (by omega)
          have l2 := lt0 j 2 hj p2' (by omega)
          rw [e1, gServ_s (by omega), gServ_s (by omega), gServ_s (by omega), gServ_n e2, gServ_n e2, gServ_n e2] at h
          omega
      · have p1' := (ep i e1).mp p1
        by_cases e2 : j = k
        · exfalso
          have l0 := lt0 i 0 hi p1' (by omega)
          have l1 := lt0 i 1 hi p1' (by omega)
          have l2 := lt0 i 2 hi p1' (by omega)
          rw [e2, gServ_s (by omega), gServ_s (by omega), gServ_s (by omega), gServ_n e1, gServ_n e1, gServ_n e1] at h
          omega
        · rw [gServ_n e1, gServ_n e1, gServ_n e1, gServ_n e2, gServ_n e2, gServ_n e2] at h
          exact S.1 i j hi hj p1' ((ep j e2).mp p2) h
    · by_cases e1 : i = k
      · rw [e1, gServ_s (by omega)]
        omega
      · rw [gServ_n e1]
        exact S.2.1 i hi ((ep i e1).mp p1)
    · by_cases e : t = k
      · subst e
        refine ⟨fun z => absurd z epk, fun _ => ⟨?_, ?_⟩⟩
        · rw [gServ_s (by omega)]
          exact rv_sR
        · have q0 : gServ G t (h_sz σ) 0 t = h_sz σ + 1 := gServ_s (by omega)
          have q1 : gServ G t (h_sz σ) 1 t = h_sz σ + 2 := gServ_s (by omega)
          have q2 : gServ G t (h_sz σ) 2 t = h_sz σ + 3 := gServ_s (by omega)
          have n0 := hN (h_sz σ + 0) (by omega)
          have n1 := hN (h_sz σ + 1) (by omega)
          have n2 := hN (h_sz σ + 2) (by omega)
          have n3 := hN (h_sz σ + 3) (by omega)
          have epB : pB (dlgM ms t b (nI n) p) t = b := dlg_4
          have epL : pL (dlgM ms t b (nI n) p) t = n := by unfold pL; rw [dlg_5, ln_nI hn]
          unfold SvR
          rw [q0, q1, q2, dlg_6, epB, epL, n1.1, n1.2.2.1, n1.2.2.1, n1.2.2.2.1, n1.2.2.2.1, n1.2.2.2.1, n2.1, n2.2.1, n3.1, n3.2.1]
          have hno : ∀ j, h_rv (h_setR τ (x + 2) t (some (h_sz σ + 1))) (h_sz σ + 2) j = none := fun j => by rw [n2.2.2.2.1]; exact rv0 2 j (by omega) rfl
          refine ⟨tg 1 7 rfl, iv 1 0 (nI t) (by omega) rfl, iv 1 1 p (by omega) rfl, ⟨h_sz σ + 0, rv 1 2 0 (by omega) rfl, ?_⟩, ⟨rv 1 3 2 (by omega) rfl, tg 2 103 rfl, ln' 2 16 (by omega) rfl⟩, ⟨rv 1 4 3 (by omega) rfl, tg 3 101 rfl, ln' 3 8 (by omega) rfl⟩, fun s hs => ?_, fun j _ a ha => (by rw [hno j] at ha; cases ha), ?_⟩
          · unfold hP
            rw [n0.1, n0.2.2.1, n0.2.2.1]
            exact ⟨tg 0 5 rfl, iv 0 0 b (by omega) rfl, iv 0 1 (nI n) (by omega) rfl, hn, hv⟩
          · refine Or.inl ⟨?_, hHi s hs⟩
            rw [n3.2.2.2.2]
            rcases (show s = 0 ∨ s = 1 ∨ s = 2 ∨ s = 3 ∨ s = 4 ∨ s = 5 ∨ s = 6 ∨ s = 7 by omega) with e | e | e | e | e | e | e | e <;> rw [e]
            · exact lv 3 0 _ (by omega) rfl
            · exact lv 3 1 _ (by omega) rfl
            · exact lv 3 2 _ (by omega) rfl
            · exact lv 3 3 _ (by omega) rfl
            · exact lv 3 4 _ (by omega) rfl
            · exact lv 3 5 _ (by omega) rfl
            · exact lv 3 6 _ (by omega) rfl
            · exact lv 3 7 _ (by omega) rfl
          · have e1 : eL ((dlgM ms t b (nI n) p).1 1) (eM (dlgM ms t b (nI n) p)) (16 * t) 16 = [] := by
              rw [← hEn]
              refine eL_congr 16 (16 * t) (fun j _ _ => ?_)
              unfold eM
              rw [dlg_k (by omega), dlg_k (by omega), dlg_k (by omega), dlg_k (by omega), dlg_k (by omega), dlg_k (by omega)]
            rw [e1, eL_nil 16 0 (fun j _ _ q hq => by
              have hq' : (h_rv (h_setR τ (x + 2) t (some (h_sz σ + 1))) (h_sz σ + 2) j).map (eV _) = some q := hq
              rw [hno j] at hq'
              cases hq')]
      · refine ⟨fun z => ?_, fun z => ?_⟩
        · rw [dlg_j e] at z
          rw [rv_sRk e]
          exact (S.2.2 t htt).1 z
        · have z' := (ep t e).mp z
          obtain ⟨r1, -⟩ := (S.2.2 t htt).2 z'
          refine ⟨by rw [rv_sRk e, gServ_n e]; exact r1, ?_⟩
          exact ((S' t htt z').num (ms' := dlgM ms k b (nI n) p) rfl (dlg_j e) (dlg_j e) (dlg_j e) (fun q j h1 _ _ _ => dlg_k (by omega)) (fun _ _ => rfl)).g (gServ_n e) (gServ_n e) (gServ_n e)
  · exact (T.to (ms' := dlgM ms k b (nI n) p) (hN _ (by omega)) (fun b hb => ht b (by rcases hb with h | h | h | h | h | h <;> rw [h] <;> decide)) rfl (fun k j h1 h2 => dlg_k (by omega))).g (fun k i h1 h2 => gServ_k (by omega))
end NSR
end
