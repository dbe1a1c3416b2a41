/-! WRITING THE ROW -/
/-- ints alone were written, at cells of L -/
def WI (L : List Nat) (σ σ' : HS) : Prop := h_tg σ' = h_tg σ ∧ h_ln σ' = h_ln σ ∧ h_rv σ' = h_rv σ ∧ h_lv σ' = h_lv σ ∧ (h_sz σ' = h_sz σ ∧ h_sl σ' = h_sl σ ∧ h_cz σ' = h_cz σ ∧ h_ck σ' = h_ck σ) ∧ ∀ b, b ∉ L → ∀ k, h_iv σ' b k = h_iv σ b k
theorem WI.rf {L : List Nat} {σ : HS} : WI L σ σ := ⟨rfl, rfl, rfl, rfl, ⟨rfl, rfl, rfl, rfl⟩, fun _ _ _ => rfl⟩
theorem WI_I {σ : HS} {a k : Nat} {v : Int32} {L : List Nat} (h : a ∈ L) : WI L σ (h_setI σ a k v) := ⟨rfl, rfl, rfl, rfl, ⟨rfl, rfl, rfl, rfl⟩, fun b hb _ => up2_ne (fun z => hb (by rw [z]; exact h))⟩
theorem WI_A {σ : HS} {a : Nat} {g : Nat → Int32} {L : List Nat} (h : a ∈ L) : WI L σ (h_setA σ a g) := ⟨rfl, rfl, rfl, rfl, ⟨rfl, rfl, rfl, rfl⟩, fun b hb _ => upA_ne (fun z => hb (by rw [z]; exact h))⟩
theorem WI.tr {L : List Nat} {σ σ1 σ2 : HS} (h : WI L σ σ1) (h' : WI L σ1 σ2) : WI L σ σ2 := by
  obtain ⟨a1, a2, a3, a4, ⟨a5, a6, a7, a8⟩, a9⟩ := h
  obtain ⟨b1, b2, b3, b4, ⟨b5, b6, b7, b8⟩, b9⟩ := h'
  exact ⟨b1.trans a1, b2.trans a2, b3.trans a3, b4.trans a4, ⟨b5.trans a5, b6.trans a6, b7.trans a7, b8.trans a8⟩, fun b hb k => (b9 b hb k).trans (a9 b hb k)⟩
theorem WI.up {L M : List Nat} {σ σ' : HS} (h : WI L σ σ') (hs : ∀ b, b ∈ L → b ∈ M) : WI M σ σ' := ⟨h.1, h.2.1, h.2.2.1, h.2.2.2.1, h.2.2.2.2.1, fun b hb => h.2.2.2.2.2 b (fun z => hb (hs b z))⟩
theorem WI.sm {L : List Nat} {σ σ' : HS} (h : WI L σ σ') {b : Nat} (hb : b ∉ L) : Sm σ σ' b := ⟨by rw [h.1], by rw [h.2.1], h.2.2.2.2.2 b hb, fun k => by rw [h.2.2.1], fun k => by rw [h.2.2.2.1]⟩
theorem WI.fs {L : List Nat} {σ σ' : HS} (h : WI L σ σ') {x : Nat} : Fs σ σ' x := ⟨fun b _ => ⟨by rw [h.1], by rw [h.2.1]⟩, fun k => by rw [h.2.2.1], fun k => by rw [h.2.2.1], fun k => by rw [h.2.2.1]⟩
theorem WI.fx {L : List Nat} {σ σ' : HS} (h : WI L σ σ') {x : Nat} (F : Fx σ x) : Fx σ' x := F.to h.fs
theorem iv_sIa {σ : HS} {a k b j : Nat} {v : Int32} (h : b ≠ a) : h_iv (h_setI σ a k v) b j = h_iv σ b j := up2_ne h
section ROW
variable {fx : Bool} {σ : HS} {x : Nat} {G : Nat → Nat → Nat} {ms : MS}
theorem Fx.rw6 (F : Fx σ x) : h_tg σ (x + 10) = 6 := F.2.2.2.2.2.2.2.1.1
theorem Fx.rwc (F : Fx σ x) : h_rv σ (x + 10) 0 = some (x + 11) := F.2.2.2.2.2.2.2.1.2
theorem Fx.c100 (F : Fx σ x) : h_tg σ (x + 11) = 100 := F.2.2.2.2.2.2.2.2.1.1
theorem Fx.cln (F : Fx σ x) : h_ln σ (x + 11) = 1600 := F.2.2.2.2.2.2.2.2.1.2
theorem Fx.h100 (F : Fx σ x) : h_tg σ (x + 12) = 100 := F.2.2.2.2.2.2.2.2.2.1.1
theorem Fx.hln (F : Fx σ x) : h_ln σ (x + 12) = 8 := F.2.2.2.2.2.2.2.2.2.1.2
theorem Fx.d100 (F : Fx σ x) : h_tg σ (x + 13) = 100 := F.2.2.2.2.2.2.2.2.2.2.1.1
theorem Fx.dln (F : Fx σ x) : h_ln σ (x + 13) = 6 := F.2.2.2.2.2.2.2.2.2.2.1.2
theorem Fx.rRow (F : Fx σ x) : h_rv σ x 4 = some (x + 10) := F.2.1.2.2.2.2.1
theorem Fx.rHand (F : Fx σ x) : h_rv σ x 5 = some (x + 12) := F.2.1.2.2.2.2.2.1
theorem Fx.rDraft (F : Fx σ x) : h_rv σ x 6 = some (x + 13) := F.2.1.2.2.2.2.2.2.1
theorem ring_lt (f q : Nat) : ring f q < 200 := Nat.mod_lt _ (by omega)
theorem ring_inj {f q q' : Nat} (hq : q < 200) (hq' : q' < 200) (h : ring f q = ring f q') : q = q' := by
  unfold ring at h
  omega
theorem c_cell (F : Fx σ x) {f q : Nat} (hf : h_iv σ (x + 10) 1 = nI f) (hf2 : f < 200) (hq : q ≤ 200) : f_X5_cell σ (some (x + 10)) (nI q) = some (nI (8 * ring f q), σ) := by
  unfold f_X5_cell
  rw [gI_s F.rw6, hf, h_b1_s, r200 hf2 hq, show (8 : Int32) = nI 8 from rfl, pk_mul, Nat.mul_comm]
theorem c_get (F : Fx σ x) {f q j : Nat} (hf : h_iv σ (x + 10) 1 = nI f) (hf2 : f < 200) (hq : q ≤ 200) (hj : j < 8) : f_X5_get σ (some (x + 10)) (nI q) (nI j) = some (cel σ x f q j, σ) := by
  have := ring_lt f q
  unfold f_X5_get cel
  rw [gR_s F.rw6, F.rwc, h_b1_s, rcv_s F.rw6, h_b1_s, c_cell F hf hf2 hq, h_bd_s, nI_add, aI_s F.c100 F.cln (by omega) (by omega), h_b1_s]
theorem c_set (F : Fx σ x) {f q j : Nat} {v : Int32} (hf : h_iv σ (x + 10) 1 = nI f) (hf2 : f < 200) (hq : q ≤ 200) (hj : j < 8) : f_X5_set σ (some (x + 10)) (nI q) (nI j) v = some ((), h_setI σ (x + 11) (8 * ring f q + j) v) := by
  have := ring_lt f q
  unfold f_X5_set
  rw [gR_s F.rw6, F.rwc, h_b1_s, rcv_s F.rw6, h_b1_s, c_cell F hf hf2 hq, h_bd_s, nI_add, sI_s F.c100 F.cln (by omega) (by omega), h_b1_s]
theorem cp_s {a b sp dp n la lb : Nat} (ha : h_tg σ a = 100) (hb : h_tg σ b = 100) (la' : h_ln σ a = la) (lb' : h_ln σ b = lb) (h1 : sp + n ≤ la) (h2 : dp + n ≤ lb) (hla : la < 2 ^ 31) (hlb : lb < 2 ^ 31) : h_cpI σ (some a) (nI sp) (some b) (nI dp) (nI n) = some (h_setA σ b (va_cpy (h_iv σ a) (h_iv σ b) sp dp n)) := by
  show (if _ then _ else _) = _
  rw [nI_clamp (by omega), nI_clamp (by omega), nI_clamp (by omega), if_pos ⟨ha, hb, nI_pos (by omega), nI_pos (by omega), nI_pos (by omega), by omega, by omega⟩]
/-- hand := the q-th message -/
theorem c_copy (F : Fx σ x) {f q : Nat} (hf : h_iv σ (x + 10) 1 = nI f) (hf2 : f < 200) (hq : q ≤ 200) : f_X5_copy σ (some (x + 10)) (nI q) (some (x + 12)) = some ((), h_setA σ (x + 12) (va_cpy (h_iv σ (x + 11)) (h_iv σ (x + 12)) (8 * ring f q) 0 8)) := by
  have := ring_lt f q
  unfold f_X5_copy
  rw [gR_s F.rw6, F.rwc, h_b1_s, rcv_s F.rw6, h_b1_s, c_cell F hf hf2 hq, h_bd_s, show (0 : Int32) = nI 0 from rfl, show (8 : Int32) = nI 8 from rfl, cp_s F.c100 F.h100 F.cln F.hln (by omega) (by omega) (by omega) (by omega), h_b1_s]
/-- a message comes to the row's end -/
theorem Rx_post {fx : Bool} {σ σ' : HS} {x : Nat} {ms : MS} (R : Rx fx σ x ms) {n f : Nat} (hn : ms.1 36 = nI n) (hf : h_iv σ (x + 10) 1 = nI f) (hf2 : f < 200) (hlt : n < 200) {g : Nat → Int32} (e1 : h_iv σ' (x + 10) 1 = nI f) (e2 : h_iv σ' (x + 10) 2 = nI (n + 1)) (e3 : h_iv σ' (x + 10) 3 = h_iv σ (x + 10) 3)
    (e4 : ∀ q j, q < n → j < 8 → cel σ' x f q j = cel σ x f q j) (e5 : ∀ j, j < 8 → loose fx (g 6) j ∨ cel σ' x f n j = g j) : Rx fx σ' x (postM ms n g) := by
  obtain ⟨f', n', a1, a2, a3, a4, a5, a6, a7⟩ := R
  have en : n' = n := (nI_eq (by omega) (by omega)).mp (a5.symm.trans hn)
  have ef : f' = f := (nI_eq (by omega) (by omega)).mp (a3.symm.trans hf)
  subst en; subst ef
  have hne : n' ≠ 200 := by omega
  refine ⟨f', n' + 1, hf2, by omega, e1, e2, ?_, ?_, fun q j hq hj => ?_⟩
  · rw [postM_36 hn]; unfold postN; rw [if_neg hne]
  · rw [e3, a6]
    unfold postM
    rw [if_neg hne, pI_n1 (by decide)]; rfl
  · rw [postM_37 (show 6 < 8 by omega), postM_37 hj]
    by_cases h : q = n'
    · subst h
      rw [if_pos ⟨hne, rfl⟩, if_pos ⟨hne, rfl⟩]
      exact e5 j hj
    · rw [if_neg (fun z => h z.2), if_neg (fun z => h z.2), e4 q j (by omega) hj]
      exact a7 q j (by omega) hj
theorem Rx_lost {fx : Bool} {σ σ' : HS} {x : Nat} {ms : MS} (R : Rx fx σ x ms) (hn : ms.1 36 = nI 200) {g : Nat → Int32} (e1 : h_iv σ' (x + 10) 1 = h_iv σ (x + 10) 1) (e2 : h_iv σ' (x + 10) 2 = h_iv σ (x + 10) 2) (e3 : h_iv σ' (x + 10) 3 = h_iv σ (x + 10) 3 + 1) (e4 : ∀ k, h_iv σ' (x + 11) k = h_iv σ (x + 11) k) : Rx fx σ' x (postM ms 200 g) := by
  obtain ⟨f', n', a1, a2, a3, a4, a5, a6, a7⟩ := R
  have en : n' = 200 := (nI_eq (by omega) (by omega)).mp (a5.symm.trans hn)
  subst en
  refine ⟨f', 200, a1, a2, by rw [e1]; exact a3, by rw [e2]; exact a4, ?_, ?_, fun q j hq hj => ?_⟩
  · rw [postM_36 hn]; rfl
  · rw [e3, a6]
    unfold postM
    rw [if_pos rfl, pI_s1]
  · rw [postM_37 (show 6 < 8 by omega), postM_37 hj, if_neg (fun z => z.1 rfl), if_neg (fun z => z.1 rfl)]
    unfold cel
    rw [e4]
    exact a7 q j hq hj
theorem c_add (F : Fx σ x) (R : Rx fx σ x ms) {n : Nat} (hn : ms.1 36 = nI n) (h : n ≤ 200) {kd to : Int32} {g : Nat → Int32} (hg : ∀ j, j < 6 → loose fx kd j ∨ h_iv σ (x + 13) j = g j) (h6 : g 6 = kd) (h7 : g 7 = to) : ∃ σ', f_X5_add σ (some (x + 10)) kd to (some (x + 13)) = some ((), σ') ∧ WI [x + 10, x + 11] σ σ' ∧ Rx fx σ' x (postM ms n g) := by
  have R0 := R
  obtain ⟨f, n', a1, a2, a3, a4, a5, a6, a7⟩ := R
  have en : n' = n := (nI_eq (by omega) (by omega)).mp (a5.symm.trans hn)
  subst en
  unfold f_X5_add
  rw [gI_s F.rw6, a4, h_b1_s]
  by_cases h200 : n' = 200
  · subst h200
    rw [if_neg (by decide), gI_s F.rw6, h_b1_s, pI_s F.rw6, h_b1_s]
    refine ⟨_, rfl, WI_I (by simp), Rx_lost R0 hn (iv_sIk (by decide)) (iv_sIk (by decide)) iv_sI (fun k => up2_ne (by omega))⟩
  · have hr := ring_lt f n'
    rw [if_pos (show nI n' < (200 : Int32) from nI_lt (a := n') (b := 200) (by omega) (by omega))]
    rw [h_b1_s, rcv_s F.rw6, h_b1_s, c_cell F a3 a1 (by omega), h_bd_s, gR_s F.rw6, F.rwc, h_b1_s, show (0 : Int32) = nI 0 from rfl, show (6 : Int32) = nI 6 from rfl, cp_s F.d100 F.c100 F.dln F.cln (by omega) (by omega) (by omega) (by omega), h_b1_s]
    have W1 : WI [x + 10, x + 11] σ (h_setA σ (x + 11) (va_cpy (h_iv σ (x + 13)) (h_iv σ (x + 11)) 0 (8 * ring f n') 6)) := WI_A (by simp)
    generalize hs1 : h_setA σ (x + 11) (va_cpy (h_iv σ (x + 13)) (h_iv σ (x + 11)) 0 (8 * ring f n') 6) = s1 at W1
    have F1 := W1.fx F
    have i1 : ∀ k, h_iv s1 (x + 10) k = h_iv σ (x + 10) k := fun k => by rw [← hs1]; exact upA_ne (by omega)
    have c1 : ∀ k, h_iv s1 (x + 11) k = va_cpy (h_iv σ (x + 13)) (h_iv σ (x + 11)) 0 (8 * ring f n') 6 k := fun k => by
      rw [← hs1]
      show h_upA _ _ _ _ _ = _
      unfold h_upA
      rw [if_pos rfl]
    rw [gR_s F1.rw6, F1.rwc, h_b1_s, nI_add, sI_s F1.c100 F1.cln (by omega) (by omega), h_b1_s]
    have W2 : WI [x + 10, x + 11] s1 (h_setI s1 (x + 11) (8 * ring f n' + 6) kd) := WI_I (by simp)
    generalize hs2 : h_setI s1 (x + 11) (8 * ring f n' + 6) kd = s2 at W2
    have F2 := W2.fx F1
    have i2 : ∀ k, h_iv s2 (x + 10) k = h_iv σ (x + 10) k := fun k => by rw [← hs2, ← i1]; exact up2_ne (by omega)
    have c2 : ∀ k, h_iv s2 (x + 11) k = if k = 8 * ring f n' + 6 then kd else h_iv s1 (x + 11) k := fun k => by
      rw [← hs2]
      show h_up2 _ _ _ _ _ _ = _
      unfold h_up2
      by_cases e : k = 8 * ring f n' + 6
      · rw [if_pos ⟨rfl, e⟩, if_pos e]
      · rw [if_neg (fun z => e z.2), if_neg e]; rfl
    rw [gR_s F2.rw6, F2.rwc, h_b1_s, show (7 : Int32) = nI 7 from rfl, nI_add, sI_s F2.c100 F2.cln (by omega) (by omega), h_b1_s]
    have W3 : WI [x + 10, x + 11] s2 (h_setI s2 (x + 11) (8 * ring f n' + 7) to) := WI_I (by simp)
    generalize hs3 : h_setI s2 (x + 11) (8 * ring f n' + 7) to = s3 at W3
    have F3 := W3.fx F2
    have i3 : ∀ k, h_iv s3 (x + 10) k = h_iv σ (x + 10) k := fun k => by rw [← hs3, ← i2]; exact up2_ne (by omega)
    have c3 : ∀ k, h_iv s3 (x + 11) k = if k = 8 * ring f n' + 7 then to else h_iv s2 (x + 11) k := fun k => by
      rw [← hs3]
      show h_up2 _ _ _ _ _ _ = _
      unfold h_up2
      by_cases e : k = 8 * ring f n' + 7
      · rw [if_pos ⟨rfl, e⟩, if_pos e]
      · rw [if_neg (fun z => e z.2), if_neg e]; rfl
    rw [gI_s F3.rw6, i3, a4, h_b1_s, pI_s F3.rw6, h_b1_s, nI_c1]
    refine ⟨_, rfl, ((W1.tr W2).tr W3).tr (WI_I (by simp)), ?_⟩
    refine Rx_post R0 hn a3 a1 (by omega) (by rw [iv_sIk (by decide), i3]; exact a3) iv_sI (by rw [iv_sIk (by decide), i3]) (fun q j hq hj => ?_) (fun j hj => ?_)
    · have hrq := ring_lt f q
      have hne : ring f q ≠ ring f n' := fun e => by have := ring_inj (by omega) (by omega) e; omega
      unfold cel
      rw [iv_sIa (show x + 11 ≠ x + 10 by omega), c3, if_neg (by omega), c2, if_neg (by omega), c1, pk_cpy_out (by omega)]
    · unfold cel
      rw [iv_sIa (show x + 11 ≠ x + 10 by omega), c3]
      by_cases j7 : j = 7
      · rw [if_pos (by omega), j7, h7]; exact Or.inr rfl
      · rw [if_neg (by omega), c2]
        by_cases j6 : j = 6
        · rw [if_pos (by omega), j6, h6]; exact Or.inr rfl
        · rw [if_neg (by omega), c1, pk_cpy_in (by omega) (by omega), show 0 + (8 * ring f n' + j - 8 * ring f n') = j by omega, h6]
          exact hg j (by omega)
end ROW
