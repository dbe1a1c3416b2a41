/-! A REGISTER comes: where its entry goes -/
section RGT
variable {fx : Bool} {σ σ' : HS} {x : Nat} {G : Nat → Nat → Nat} {ms ms' : MS}
theorem c_slot {i p n : Nat} {b : Int32} (I : SvR σ G ms i) (hp : hP σ p b n) : ∃ r, f_X6_slotFor σ (some (G 0 i)) (some p) (ms.1 1) = some (r, σ) ∧ ((∃ j a, at_ σ (G 1 i) (ms.1 1) j a ∧ ((eV σ a).1 = b ∧ (eV σ a).2.1 = nI n) ∧ r = nI j) ∨ ((∀ j a, at_ σ (G 1 i) (ms.1 1) j a → ¬ ((eV σ a).1 = b ∧ (eV σ a).2.1 = nI n)) ∧ ((r = -1 ∧ ∀ j, j < 16 → ∃ a, at_ σ (G 1 i) (ms.1 1) j a) ∨ ∃ j, j < 16 ∧ r = nI j ∧ ∀ a, ¬ at_ σ (G 1 i) (ms.1 1) j a))) := by
  have key : ∀ (c m j : Nat) (fr : Int32), j + c = 16 → c < m → (∀ j' a, j' < j → at_ σ (G 1 i) (ms.1 1) j' a → ¬ ((eV σ a).1 = b ∧ (eV σ a).2.1 = nI n)) → ((fr = -1 ∧ ∀ j', j' < j → ∃ a, at_ σ (G 1 i) (ms.1 1) j' a) ∨ ∃ j', j' < 16 ∧ fr = nI j' ∧ ∀ a, ¬ at_ σ (G 1 i) (ms.1 1) j' a) → ∃ r, g_X6_slotFor_5 m σ (some (G 0 i)) (some p) (ms.1 1) fr (nI j) = some (r, σ) ∧ ((∃ j a, at_ σ (G 1 i) (ms.1 1) j a ∧ ((eV σ a).1 = b ∧ (eV σ a).2.1 = nI n) ∧ r = nI j) ∨ ((∀ j a, at_ σ (G 1 i) (ms.1 1) j a → ¬ ((eV σ a).1 = b ∧ (eV σ a).2.1 = nI n)) ∧ ((r = -1 ∧ ∀ j, j < 16 → ∃ a, at_ σ (G 1 i) (ms.1 1) j a) ∨ ∃ j, j < 16 ∧ r = nI j ∧ ∀ a, ¬ at_ σ (G 1 i) (ms.1 1) j a))) := by
    intro c
    induction c with
    | zero =>
      intro m j fr hj hm h1 h2
      obtain ⟨m', rfl⟩ : ∃ m', m = m' + 1 := ⟨m - 1, by omega⟩
      have : j = 16 := by omega
      subst this
      exact ⟨fr, by rw [g_X6_slotFor_5, if_pos (show (16 : Int32) ≤ nI 16 by decide)], Or.inr ⟨fun j a h => h1 j a h.1 h, h2⟩⟩
    | succ c ih =>
      intro m j fr hj hm h1 h2
      obtain ⟨m', rfl⟩ : ∃ m', m = m' + 1 := ⟨m - 1, by omega⟩
      have hlt : ¬ (16 : Int32) ≤ nI j := fun z => absurd (nI_lt (a := j) (b := 16) (by omega) (by decide)) (Int32.not_lt.mpr z)
      rcases live_at I (show j < 16 by omega) (ms.1 1) with ⟨l1, l2⟩ | ⟨l1, a, l2⟩
      · obtain ⟨r, r1, r2⟩ := ih m' (j + 1) (nI j) (by omega) (by omega) (fun j' a g1 g2 => by
          by_cases e : j' = j
          · rw [e] at g2; exact absurd g2 (l2 a)
          · exact h1 j' a (by omega) g2) (Or.inr ⟨j, by omega, rfl, l2⟩)
        exact ⟨r, by rw [g_X6_slotFor_5, if_neg hlt, rcv_s I.1, h_b1_s, l1, h_bd_s, if_pos rfl, nI_c1, r1], r2⟩
      · obtain ⟨t1, p', b', n', q1, q2, q3, q4, q5, q6⟩ := ent_px I l2
        have uq : ∀ a', at_ σ (G 1 i) (ms.1 1) j a' → a' = a := fun a' z => Option.some.inj (z.2.1.symm.trans l2.2.1)
        have hsame := same_eq q2 hp
        cases hc : (decide (b' = b) && decide (n' = n)) with
        | false =>
          rw [hc] at hsame
          have hno : ¬ ((eV σ a).1 = b ∧ (eV σ a).2.1 = nI n) := fun z => by
            rw [q3, q4] at z
            have en : n' = n := (nI_eq (by have := q2.2.2.2.1; omega) (by have := hp.2.2.2.1; omega)).mp z.2
            rw [decide_eq_true z.1, decide_eq_true en] at hc
            cases hc
          obtain ⟨r, r1, r2⟩ := ih m' (j + 1) fr (by omega) (by omega) (fun j' a' g1 g2 => by
            by_cases e : j' = j
            · rw [e] at g2; rw [uq a' g2]; exact hno
            · exact h1 j' a' (by omega) g2) (by
              rcases h2 with ⟨g1, g2⟩ | g
              · refine Or.inl ⟨g1, fun j' hj' => ?_⟩
                by_cases e : j' = j
                · rw [e]; exact ⟨a, l2⟩
                · exact g2 j' (by omega)
              · exact Or.inr g)
          exact ⟨r, by rw [g_X6_slotFor_5, if_neg hlt, rcv_s I.1, h_b1_s, l1, h_bd_s, if_neg (by decide), q5, h_b1_s, q6, h_b1_s, q1, h_b1_s, rcv_s q2.1, h_b1_s, hsame, h_bd_s, if_pos (by rfl), nI_c1, r1], r2⟩
        | true =>
          rw [hc] at hsame
          obtain ⟨g1, g2⟩ := (Bool.and_eq_true _ _).mp hc
          refine ⟨nI j, by rw [g_X6_slotFor_5, if_neg hlt, rcv_s I.1, h_b1_s, l1, h_bd_s, if_neg (by decide), q5, h_b1_s, q6, h_b1_s, q1, h_b1_s, rcv_s q2.1, h_b1_s, hsame, h_bd_s, if_neg (by decide)], Or.inl ⟨j, a, l2, ⟨by rw [q3]; exact of_decide_eq_true g1, by rw [q4, of_decide_eq_true g2]⟩, rfl⟩⟩
  exact key 16 h_hN 0 (-1) rfl (h_hN_lt (by decide)) (fun j' a h _ => absurd h (Nat.not_lt_zero _)) (Or.inl ⟨rfl, fun j' h => absurd h (Nat.not_lt_zero _)⟩)
/-- the nonce is above all those that were taken -/
theorem c_fresh {i s : Nat} (hs : s < 8) (I : SvR σ G ms i) (no : Int32) : f_X6_isFresh σ (some (G 0 i)) (nI s) no = some (b2i (decide (ms.2.2 (8 * i + s) < no.toInt64)), σ) := by
  obtain ⟨a1, -, -, -, -, ⟨a9, b1, b2⟩, b3, -⟩ := I
  have e1 : h_aL σ (some (G 2 i)) 101 (nI s) = some (h_lv σ (G 2 i) s) := aL_s b1 b2 hs (by decide)
  unfold f_X6_isFresh
  rw [if_neg (nI_pos (by omega)), if_neg (show ¬ (8 : Int32) ≤ nI s from fun z => absurd (nI_lt (a := s) (b := 8) hs (by decide)) (Int32.not_lt.mpr z)), gR_s a1, a9, h_b1_s, e1, h_b1_s]
  have hb := Int32.le_toInt no
  have hb2 := Int32.toInt_lt no
  have hcmp : ∀ y : Int64, (lg_cmp no.toInt64 y ≤ 0) ↔ ¬ y < no.toInt64 := by
    intro y
    unfold lg_cmp
    by_cases h : y < no.toInt64
    · rw [if_pos (show no.toInt64 > y from h)]
      exact ⟨fun z => absurd z (by decide), fun z => absurd h z⟩
    · rw [if_neg (show ¬ no.toInt64 > y from h)]
      refine ⟨fun _ => h, fun _ => ?_⟩
      split <;> decide
  have iff2 : h_lv σ (G 2 i) s < no.toInt64 ↔ ms.2.2 (8 * i + s) < no.toInt64 := by
    rcases b3 s hs with ⟨h1, h2⟩ | ⟨h1, -⟩
    · rw [h1, h2, Int64.lt_iff_toInt_lt, Int64.lt_iff_toInt_lt, Int32.toInt_toInt64]
      rw [show (-9223372036854775808 : Int64).toInt = -9223372036854775808 by decide, show (-3000000000 : Int64).toInt = -3000000000 by decide]
      constructor <;> intro _ <;> omega
    · rw [h1]
  by_cases h : ms.2.2 (8 * i + s) < no.toInt64
  · rw [if_neg (fun z => (hcmp _).mp z (iff2.mpr h)), decide_eq_true h]; rfl
  · rw [if_pos ((hcmp _).mpr (fun z => h (iff2.mp z))), decide_eq_false h]; rfl
/-- one server alone has changed -/
theorem Rep_srv (P : Rep fx σ x G ms) {i : Nat} (hi : i < 8) (hpr : pr ms i) (Z' : Zx σ' x) (hsm : ∀ b, b ≠ G 1 i → b ≠ G 2 i → Sm σ σ' b) (I' : SvR σ' G ms' i) (e1 : ∀ k, k ≠ 0 → ms'.1 k = ms.1 k) (e2 : ∀ k j, k < 7 ∨ 12 < k → ms'.2.1 k j = ms.2.1 k j) (en : ∀ t k j, t < 8 → t ≠ i → 7 ≤ k → k ≤ 12 → 16 * t ≤ j → j < 16 * t + 16 → ms'.2.1 k j = ms.2.1 k j) (e3 : ∀ t s, t < 8 → t ≠ i → s < 8 → ms'.2.2 (8 * t + s) = ms.2.2 (8 * t + s)) : Rep fx σ' x G ms' := by
  obtain ⟨Z, F, N, R, W, K, S, T⟩ := P
  obtain ⟨-, -, -, -, ⟨-, c7, -⟩, ⟨-, d1, -⟩, -⟩ := ((S.2.2 i hi).2 hpr).2
  have ht : ∀ b, h_tg σ b ≠ 103 → h_tg σ b ≠ 101 → Sm σ σ' b := fun b g1 g2 => hsm b (fun z => g1 (by rw [z]; exact c7)) (fun z => g2 (by rw [z]; exact d1))
  obtain ⟨f0, f1, f2, f3, f4, f5, f6, f7, f8, f9, f10, f11⟩ := id F
  have x0 : Sm σ σ' x := ht _ (by rw [f0]; decide) (by rw [f0]; decide)
  have x1 : Sm σ σ' (x + 1) := ht _ (by rw [f2.1]; decide) (by rw [f2.1]; decide)
  have x2 : Sm σ σ' (x + 2) := ht _ (by rw [f3.1]; decide) (by rw [f3.1]; decide)
  have x7 : Sm σ σ' (x + 7) := ht _ (by rw [f4.1]; decide) (by rw [f4.1]; decide)
  have x8 : Sm σ σ' (x + 8) := ht _ (by rw [f5.1]; decide) (by rw [f5.1]; decide)
  have x9 : Sm σ σ' (x + 9) := ht _ (by rw [f6.1]; decide) (by rw [f6.1]; decide)
  have x10 : Sm σ σ' (x + 10) := ht _ (by rw [f7.1]; decide) (by rw [f7.1]; decide)
  have x11 : Sm σ σ' (x + 11) := ht _ (by rw [f8.1]; decide) (by rw [f8.1]; decide)
  have x12 : Sm σ σ' (x + 12) := ht _ (by rw [f9.1]; decide) (by rw [f9.1]; decide)
  have x13 : Sm σ σ' (x + 13) := ht _ (by rw [f10.1]; decide) (by rw [f10.1]; decide)
  have x14 : Sm σ σ' (x + 14) := ht _ (by rw [f11.1]; decide) (by rw [f11.1]; decide)
  have F' : Fx σ' x := by
    unfold Fx
    rw [x0.1, x0.2.2.2.1, x0.2.2.2.1, x0.2.2.2.1, x0.2.2.2.1, x0.2.2.2.1, x0.2.2.2.1, x0.2.2.2.1, x0.2.2.2.1, x1.1, x1.2.2.2.1, x2.1, x2.2.1, x7.1, x7.2.1, x8.1, x8.2.1, x9.1, x9.2.1, x10.1, x10.2.2.2.1, x11.1, x11.2.1, x12.1, x12.2.1, x13.1, x13.2.1, x14.1, x14.2.1]
    exact F
  have ep : ∀ t, pr ms' t ↔ pr ms t := fun t => by unfold pr; rw [e2 3 t (by omega)]
  refine ⟨Z', F', N.to x0 (e1 _ (by decide)) (e1 _ (by decide)) (e1 _ (by decide)) (e1 _ (by decide)) (e1 _ (by decide)) (e1 _ (by decide)), R.to x10 x11 (e1 _ (by decide)) (e1 _ (by decide)) (fun _ => e2 _ _ (by omega)), W.to x8 x9 (e1 _ (by decide)) (fun _ => e2 _ _ (by omega)) (fun _ => e2 _ _ (by omega)), K.to x14 (fun b hb => ht b (by rw [hb]; decide) (by rw [hb]; decide)) (e1 _ (by decide)) (fun k j h1 h2 => e2 _ _ (by omega)), ⟨fun t u ht hu p1 p2 h => S.1 t u ht hu ((ep t).mp p1) ((ep u).mp p2) h, fun t ht p => S.2.1 t ht ((ep t).mp p), fun t htt => ⟨fun h => ?_, fun h => ?_⟩⟩, T.to x7 (fun b hb => ?_) (e1 _ (by decide)) (fun k j h1 h2 => e2 _ _ (by omega))⟩
  · rw [x2.2.2.2.1]
    rw [e2 3 t (by omega)] at h
    exact (S.2.2 t htt).1 h
  · have hp := (ep t).mp h
    obtain ⟨r1, I⟩ := (S.2.2 t htt).2 hp
    refine ⟨by rw [x2.2.2.2.1]; exact r1, ?_⟩
    by_cases e : t = i
    · rw [e]; exact I'
    · have hsm' : ∀ b, b ≠ G 1 i → b ≠ G 2 i → Sm σ σ' b := hsm
      obtain ⟨a1, a2, a3, ⟨p, a4, a5⟩, ⟨a6, a7, a8⟩, ⟨a9, b1, b2⟩, b3, b4, b5⟩ := id I
      have n1 : G 1 t ≠ G 1 i := fun z => e (S.1 t i htt hi hp hpr (Or.inl z))
      have n2 : G 2 t ≠ G 2 i := fun z => e (S.1 t i htt hi hp hpr (Or.inr (Or.inl z)))
      have s0 := ht (G 0 t) (by rw [a1]; decide) (by rw [a1]; decide)
      have s1 := hsm (G 1 t) n1 (fun z => by rw [z, d1] at a7; omega)
      have s2 := hsm (G 2 t) (fun z => by rw [z, c7] at b1; omega) n2
      have h15 : ∀ b, h_tg σ b = 1 ∨ h_tg σ b = 5 → Sm σ σ' b := fun b hb => ht b (by omega) (by omega)
      have I1 : SvR σ' G ms t := by
        refine ⟨by rw [s0.1]; exact a1, by rw [s0.2.2.1]; exact a2, by rw [s0.2.2.1]; exact a3, ⟨p, by rw [s0.2.2.2.1]; exact a4, a5.to (h15 p (Or.inr a5.1))⟩, ⟨by rw [s0.2.2.2.1]; exact a6, by rw [s1.1]; exact a7, by rw [s1.2.1]; exact a8⟩, ⟨by rw [s0.2.2.2.1]; exact a9, by rw [s2.1]; exact b1, by rw [s2.2.1]; exact b2⟩, fun s hs => by rw [s2.2.2.2.2]; exact b3 s hs, fun j hj a ha => ?_, ?_⟩
        · rw [s1.2.2.2.1] at ha
          exact ((b4 j hj a ha).to h15).1
        · have ec : eL (ms.1 1) (eC σ' (G 1 t)) 0 16 = eL (ms.1 1) (eC σ (G 1 t)) 0 16 := by
            refine eL_congr 16 0 (fun j _ hj => ?_)
            unfold eC
            rw [s1.2.2.2.1]
            cases hr : h_rv σ (G 1 t) j with
            | none => rfl
            | some a => exact congrArg some ((b4 j (by omega) a hr).to h15).2
          rw [ec]
          exact b5
      exact I1.num (e1 _ (by decide)) (e2 _ _ (by omega)) (e2 _ _ (by omega)) (e2 _ _ (by omega)) (fun k j h1 h2 h3 h4 => en t k j htt e h1 h2 h3 h4) (fun s hs => e3 t s htt e hs)
  · rcases hb with h | h | h | h | h | h <;> exact ht b (by rw [h]; decide) (by rw [h]; decide)
end RGT
