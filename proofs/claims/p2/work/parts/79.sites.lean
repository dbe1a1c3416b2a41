/-! ONE SITE CHANGES: the others stay; a prefix comes, a site moves -/
theorem ff_isSome {P : Nat → Bool} {i c : Nat} : (ff P i c).isSome = true ↔ ∃ j, i ≤ j ∧ j < i + c ∧ P j = true := by
  constructor
  · intro h
    cases hf : ff P i c with
    | none => rw [hf] at h; cases h
    | some j =>
      obtain ⟨h1, h2, h3, -⟩ := ff_some.mp hf
      exact ⟨j, h1, h2, h3⟩
  · intro ⟨j, h1, h2, h3⟩
    cases hf : ff P i c with
    | none =>
      have := ff_none.mp hf j h1 h2
      rw [h3] at this
      cases this
    | some j => rfl
theorem ff_isSome_f {P : Nat → Bool} {i c : Nat} (h : ¬ ∃ j, i ≤ j ∧ j < i + c ∧ P j = true) : ff P i c = none := by
  cases hf : ff P i c with
  | none => rfl
  | some j => exact absurd (ff_isSome.mp (by rw [hf]; rfl)) h
section SIT
variable {fx : Bool} {σ σ' : HS} {x : Nat} {G : Nat → Nat → Nat} {ms ms' : MS}
/-- a site's cells are the same -/
theorem SiR.pt {s : Nat} (h : SiR fx σ G ms s) (s3 : Sm σ σ' (G 3 s)) (s4 : Sm σ σ' (G 4 s)) (s5 : Sm σ σ' (G 5 s)) (s6 : Sm σ σ' (G 6 s)) (h25 : ∀ b, h_tg σ b = 2 ∨ h_tg σ b = 5 → Sm σ σ' b) : SiR fx σ' G ms s := by
  obtain ⟨a1, a2, a3, a4, ⟨a5, a6, a7⟩, ⟨c, c1, c2, c3⟩, ⟨a8, a9⟩, ⟨b1, b2, b3⟩, z, z1, z2, z3, z4⟩ := h
  refine ⟨by rw [s3.1]; exact a1, by rw [s3.2.2.1]; exact a2, by rw [s3.2.2.1]; exact a3, by rw [s3.2.2.1]; exact a4, ⟨by rw [s3.2.2.2.1]; exact a5, by rw [s4.1]; exact a6, by rw [s4.2.1]; exact a7⟩, ⟨c, c1, c2, fun k hk => ?_⟩, ⟨by rw [s3.2.2.2.1]; exact a8, by rw [s5.1]; exact a9⟩, ⟨by rw [s5.2.2.2.1]; exact b1, by rw [s6.1]; exact b2, by rw [s6.2.1]; exact b3⟩, z, z1, by rw [s5.2.2.1]; exact z2, fun j hj => ?_, ?_⟩
  · obtain ⟨p, n, d1, d2, d3⟩ := c3 k hk
    exact ⟨p, n, by rw [s4.2.2.2.1]; exact d1, d2, d3.to (h25 p (Or.inr d3.1))⟩
  · obtain ⟨a, d1, d2⟩ := z3 j hj
    exact ⟨a, by rw [s6.2.2.2.1]; exact d1, (d2.to h25).1⟩
  · have ec : lL (nP (ms.1 1)) (nC σ' (G 6 s)) 0 z = lL (nP (ms.1 1)) (nC σ (G 6 s)) 0 z := by
      refine lL_congr z 0 (fun j _ hj => ?_)
      obtain ⟨a, d1, d2⟩ := z3 j (by omega)
      unfold nC
      rw [s6.2.2.2.1, d1]
      exact congrArg some (d2.to h25).2
    rw [ec]
    exact z4
def sTag (t : Nat) : Prop := t = 2 ∨ t = 3 ∨ t = 5 ∨ t = 8 ∨ t = 104 ∨ t = 106
theorem Tx_site (T : Tx fx σ x G ms) {s : Nat} (hs : s < 8) (hp : ¬ ms.2.1 14 s = -1) (h7 : Sm σ σ' (x + 7)) (hsm : ∀ b, sTag (h_tg σ b) → b ≠ G 3 s → b ≠ G 4 s → b ≠ G 5 s → b ≠ G 6 s → Sm σ σ' b) (I' : SiR fx σ' G ms' s) (hp' : ¬ ms'.2.1 14 s = -1) (e1 : ms'.1 1 = ms.1 1)
    (e14 : ∀ t, t < 8 → t ≠ s → ms'.2.1 14 t = ms.2.1 14 t ∧ ms'.2.1 15 t = ms.2.1 15 t ∧ ms'.2.1 18 t = ms.2.1 18 t) (e16 : ∀ t k, t < 8 → t ≠ s → k < 4 → ms'.2.1 16 (4 * t + k) = ms.2.1 16 (4 * t + k) ∧ ms'.2.1 17 (4 * t + k) = ms.2.1 17 (4 * t + k)) (en : ∀ t k j, t < 8 → t ≠ s → 19 ≤ k → k ≤ 24 → 6 * t ≤ j → j < 6 * t + 6 → ms'.2.1 k j = ms.2.1 k j) : Tx fx σ' x G ms' := by
  obtain ⟨t1, t2⟩ := T
  have hiff : ∀ t, t < 8 → (ms'.2.1 14 t = -1 ↔ ms.2.1 14 t = -1) := by
    intro t ht
    by_cases e : t = s
    · rw [e]; exact ⟨fun z => absurd z hp', fun z => absurd z hp⟩
    · rw [(e14 t ht e).1]
  refine ⟨fun i j hi hj p1 p2 h => t1 i j hi hj (fun z => p1 ((hiff i hi).mpr z)) (fun z => p2 ((hiff j hj).mpr z)) h, fun t ht => ⟨fun h => ?_, fun h => ?_⟩⟩
  · rw [h7.2.2.2.1]
    exact (t2 t ht).1 ((hiff t ht).mp h)
  · have h' : ¬ ms.2.1 14 t = -1 := fun z => h ((hiff t ht).mpr z)
    obtain ⟨r1, I⟩ := (t2 t ht).2 h'
    refine ⟨by rw [h7.2.2.2.1]; exact r1, ?_⟩
    by_cases e : t = s
    · rw [e]; exact I'
    · have Is := ((t2 s hs).2 hp).2
      obtain ⟨a1, -, -, -, ⟨-, a6, -⟩, -, ⟨-, a9⟩, ⟨-, b2, -⟩, -⟩ := id I
      obtain ⟨c1, -, -, -, ⟨-, c6, -⟩, -, ⟨-, c9⟩, ⟨-, d2, -⟩, -⟩ := id Is
      have ne : ∀ {b c : Nat}, h_tg σ b ≠ h_tg σ c → b ≠ c := fun h z => h (by rw [z])
      have n3 : G 3 t ≠ G 3 s := fun z => e (t1 t s ht hs h' hp (Or.inl z))
      have n4 : G 4 t ≠ G 4 s := fun z => e (t1 t s ht hs h' hp (Or.inr (Or.inl z)))
      have n5 : G 5 t ≠ G 5 s := fun z => e (t1 t s ht hs h' hp (Or.inr (Or.inr (Or.inl z))))
      have n6 : G 6 t ≠ G 6 s := fun z => e (t1 t s ht hs h' hp (Or.inr (Or.inr (Or.inr z))))
      have I1 : SiR fx σ' G ms t := I.pt (hsm _ (by rw [a1]; unfold sTag; omega) n3 (ne (by rw [a1, c6]; decide)) (ne (by rw [a1, c9]; decide)) (ne (by rw [a1, d2]; decide))) (hsm _ (by rw [a6]; unfold sTag; omega) (ne (by rw [a6, c1]; decide)) n4 (ne (by rw [a6, c9]; decide)) (ne (by rw [a6, d2]; decide))) (hsm _ (by rw [a9]; unfold sTag; omega) (ne (by rw [a9, c1]; decide)) (ne (by rw [a9, c6]; decide)) n5 (ne (by rw [a9, d2]; decide))) (hsm _ (by rw [b2]; unfold sTag; omega) (ne (by rw [b2, c1]; decide)) (ne (by rw [b2, c6]; decide)) (ne (by rw [b2, c9]; decide)) n6) (fun b hb => hsm b (by unfold sTag; omega) (ne (by rw [c1]; omega)) (ne (by rw [c6]; omega)) (ne (by rw [c9]; omega)) (ne (by rw [d2]; omega)))
      exact I1.num e1 (e14 t ht e).1 (e14 t ht e).2.1 (e14 t ht e).2.2 (fun k hk => (e16 t k ht e hk).1) (fun k hk => (e16 t k ht e hk).2) (fun k j h1 h2 h3 h4 => en t k j ht e h1 h2 h3 h4)
/-- all but the sites, when cells of one site alone have changed -/
theorem Rep_one (P : Rep fx σ x G ms) {s : Nat} (hs : s < 8) (hp : ¬ ms.2.1 14 s = -1) (Z' : Zx σ' x) (hsm : ∀ b, b ≠ G 3 s → b ≠ G 4 s → b ≠ G 5 s → b ≠ G 6 s → h_tg σ b ≠ 0 → Sm σ σ' b) (I' : SiR fx σ' G ms' s) (hp' : ¬ ms'.2.1 14 s = -1) (e1 : ∀ k, k ≠ 0 → k ≠ 25 → ms'.1 k = ms.1 k) (e2 : ∀ k j, k < 14 ∨ 24 < k → ms'.2.1 k j = ms.2.1 k j) (e3 : ms'.2.2 = ms.2.2)
    (e14 : ∀ t, t < 8 → t ≠ s → ms'.2.1 14 t = ms.2.1 14 t ∧ ms'.2.1 15 t = ms.2.1 15 t ∧ ms'.2.1 18 t = ms.2.1 18 t) (e16 : ∀ t k, t < 8 → t ≠ s → k < 4 → ms'.2.1 16 (4 * t + k) = ms.2.1 16 (4 * t + k) ∧ ms'.2.1 17 (4 * t + k) = ms.2.1 17 (4 * t + k)) (en : ∀ t k j, t < 8 → t ≠ s → 19 ≤ k → k ≤ 24 → 6 * t ≤ j → j < 6 * t + 6 → ms'.2.1 k j = ms.2.1 k j) : Rep fx σ' x G ms' := by
  obtain ⟨Z, F, N, R, W, K, S, T⟩ := P
  obtain ⟨c1, -, -, -, ⟨-, c6, -⟩, -, ⟨-, c9⟩, ⟨-, d2, -⟩, -⟩ := ((T.2 s hs).2 hp).2
  have ht : ∀ b, h_tg σ b ≠ 8 → h_tg σ b ≠ 106 → h_tg σ b ≠ 3 → h_tg σ b ≠ 104 → h_tg σ b ≠ 0 → Sm σ σ' b := fun b g1 g2 g3 g4 g5 => hsm b (fun z => g1 (by rw [z]; exact c1)) (fun z => g2 (by rw [z]; exact c6)) (fun z => g3 (by rw [z]; exact c9)) (fun z => g4 (by rw [z]; exact d2)) g5
  obtain ⟨f0, f1, f2, f3, f4, f5, f6, f7, f8, f9, f10, f11⟩ := id F
  have x0 : Sm σ σ' x := ht _ (by rw [f0]; decide) (by rw [f0]; decide) (by rw [f0]; decide) (by rw [f0]; decide) (by rw [f0]; decide)
  have x1 : Sm σ σ' (x + 1) := ht _ (by rw [f2.1]; decide) (by rw [f2.1]; decide) (by rw [f2.1]; decide) (by rw [f2.1]; decide) (by rw [f2.1]; decide)
  have x2 : Sm σ σ' (x + 2) := ht _ (by rw [f3.1]; decide) (by rw [f3.1]; decide) (by rw [f3.1]; decide) (by rw [f3.1]; decide) (by rw [f3.1]; decide)
  have x7 : Sm σ σ' (x + 7) := ht _ (by rw [f4.1]; decide) (by rw [f4.1]; decide) (by rw [f4.1]; decide) (by rw [f4.1]; decide) (by rw [f4.1]; decide)
  have x8 : Sm σ σ' (x + 8) := ht _ (by rw [f5.1]; decide) (by rw [f5.1]; decide) (by rw [f5.1]; decide) (by rw [f5.1]; decide) (by rw [f5.1]; decide)
  have x9 : Sm σ σ' (x + 9) := ht _ (by rw [f6.1]; decide) (by rw [f6.1]; decide) (by rw [f6.1]; decide) (by rw [f6.1]; decide) (by rw [f6.1]; decide)
  have x10 : Sm σ σ' (x + 10) := ht _ (by rw [f7.1]; decide) (by rw [f7.1]; decide) (by rw [f7.1]; decide) (by rw [f7.1]; decide) (by rw [f7.1]; decide)
  have x11 : Sm σ σ' (x + 11) := ht _ (by rw [f8.1]; decide) (by rw [f8.1]; decide) (by rw [f8.1]; decide) (by rw [f8.1]; decide) (by rw [f8.1]; decide)
  have x12 : Sm σ σ' (x + 12) := ht _ (by rw [f9.1]; decide) (by rw [f9.1]; decide) (by rw [f9.1]; decide) (by rw [f9.1]; decide) (by rw [f9.1]; decide)
  have x13 : Sm σ σ' (x + 13) := ht _ (by rw [f10.1]; decide) (by rw [f10.1]; decide) (by rw [f10.1]; decide) (by rw [f10.1]; decide) (by rw [f10.1]; decide)
  have x14 : Sm σ σ' (x + 14) := ht _ (by rw [f11.1]; decide) (by rw [f11.1]; decide) (by rw [f11.1]; decide) (by rw [f11.1]; decide) (by rw [f11.1]; decide)
  have F' : Fx σ' x := by
    unfold Fx
    rw [x0.1, x0.2.2.2.1, x0.2.2.2.1, x0.2.2.2.1, x0.2.2.2.1, x0.2.2.2.1, x0.2.2.2.1, x0.2.2.2.1, x0.2.2.2.1, x1.1, x1.2.2.2.1, x2.1, x2.2.1, x7.1, x7.2.1, x8.1, x8.2.1, x9.1, x9.2.1, x10.1, x10.2.2.2.1, x11.1, x11.2.1, x12.1, x12.2.1, x13.1, x13.2.1, x14.1, x14.2.1]
    exact F
  refine ⟨Z', F', N.to x0 (e1 _ (by decide) (by decide)) (e1 _ (by decide) (by decide)) (e1 _ (by decide) (by decide)) (e1 _ (by decide) (by decide)) (e1 _ (by decide) (by decide)) (e1 _ (by decide) (by decide)), R.to x10 x11 (e1 _ (by decide) (by decide)) (e1 _ (by decide) (by decide)) (fun _ => e2 _ _ (by omega)), W.to x8 x9 (e1 _ (by decide) (by decide)) (fun _ => e2 _ _ (by omega)) (fun _ => e2 _ _ (by omega)), K.to x14 (fun b hb => ht b (by rw [hb]; decide) (by rw [hb]; decide) (by rw [hb]; decide) (by rw [hb]; decide) (by rw [hb]; decide)) (e1 _ (by decide) (by decide)) (fun k j h1 h2 => e2 _ _ (by omega)), S.to x2 (fun b hb => ?_) (fun i hi hp => ?_) (e1 _ (by decide) (by decide)) (fun k j h1 h2 => e2 _ _ (by omega)) e3, Tx_site T hs hp x7 (fun b hb g3 g4 g5 g6 => hsm b g3 g4 g5 g6 (by unfold sTag at hb; omega)) I' hp' (e1 _ (by decide) (by decide)) e14 e16 en⟩
  · rcases hb with h | h | h | h <;> exact ht b (by rw [h]; decide) (by rw [h]; decide) (by rw [h]; decide) (by rw [h]; decide) (by rw [h]; decide)
  · obtain ⟨-, -, -, -, -, -, ⟨-, b1, -⟩, -⟩ := (S.2.2 i hi).2 hp
    exact ht _ (by rw [b1]; decide) (by rw [b1]; decide) (by rw [b1]; decide) (by rw [b1]; decide) (by rw [b1]; decide)
theorem c_isFull {s c : Nat} (I : SiR fx σ G ms s) (hc : ms.2.1 15 s = nI c) : f_X7_isFull σ (some (G 3 s)) = some (b2i (decide (¬ nI c < 4)), σ) := by
  unfold f_X7_isFull
  rw [gI_s I.1, I.2.2.2.1, hc, h_b1_s]
  by_cases h : nI c < 4
  · rw [if_pos h, decide_eq_false (fun z => z h)]; rfl
  · rw [if_neg h, decide_eq_true h]; rfl
/-- some site has the very same prefix -/
theorem c_isHeld (F : Fx σ x) (T : Tx fx σ x G ms) (hC : ∀ s, s < 8 → ∃ c : Nat, ms.2.1 15 s = nI c ∧ c ≤ 4) (hab : ∀ s, s < 8 → ms.2.1 14 s = -1 → ms.2.1 15 s = 0) {p n : Nat} {b : Int32} (hP' : hP σ p b n) : f_X9_isHeld σ (some x) (some p) = some (b2i (ff (dupP ms b (nI n)) 0 32).isSome, σ) := by
  unfold f_X9_isHeld
  have key := lp_find (fun m k => g_X9_isHeld_2 m σ (some x) (some p) k) 8 (fun s => (ff (fun k => decide (ms.2.1 16 (4 * s + k) = b) && decide (ms.2.1 17 (4 * s + k) = nI n)) 0 (ms.2.1 15 s).toNatClampNeg).isSome) (fun _ => some (1, σ)) (some (0, σ))
    (fun m => by
      show g_X9_isHeld_2 (m + 1) σ (some x) (some p) (nI 8) = _
      rw [g_X9_isHeld_2, if_pos (show (8 : Int32) ≤ nI 8 by decide)])
    (fun m j hj => by
      show g_X9_isHeld_2 (m + 1) σ (some x) (some p) (nI j) = if _ = true then some (1, σ) else g_X9_isHeld_2 m σ (some x) (some p) (nI (j + 1))
      obtain ⟨t0, ⟨-, r1, -⟩, -, -, ⟨t7, l7⟩, -⟩ := id F
      have e1 : h_gR σ (some x) 10 1 = some (some (x + 7)) := by rw [gR_s t0, r1]
      have e2 : h_aR σ (some (x + 7)) 108 (nI j) = some (h_rv σ (x + 7) j) := aR_s t7 l7 hj (by decide)
      rw [g_X9_isHeld_2, if_neg (show ¬ (8 : Int32) ≤ nI j from fun z => absurd (nI_lt (a := j) (b := 8) hj (by decide)) (Int32.not_lt.mpr z)), e1, h_b1_s, e2, h_b1_s, nI_c1]
      by_cases hp : ms.2.1 14 j = -1
      · rw [(T.2 j hj).1 hp, if_pos rfl, hab j hj hp]
        rfl
      · obtain ⟨r3, I⟩ := (T.2 j hj).2 hp
        rw [r3, if_neg (fun z => by cases z), h_b1_s, e2, h_b1_s, r3, rcv_s I.1, h_b1_s, c_holds I hP', h_bd_s]
        cases (ff (fun k => decide (ms.2.1 16 (4 * j + k) = b) && decide (ms.2.1 17 (4 * j + k) = nI n)) 0 (ms.2.1 15 j).toNatClampNeg).isSome with
        | false => rw [if_pos (by rfl), if_neg (by decide)]
        | true => rw [if_neg (by decide), if_pos rfl]) 8 h_hN 0 rfl (h_hN_lt (by decide))
  refine Eq.trans key ?_
  have hiff : (∃ s, 0 ≤ s ∧ s < 0 + 8 ∧ (ff (fun k => decide (ms.2.1 16 (4 * s + k) = b) && decide (ms.2.1 17 (4 * s + k) = nI n)) 0 (ms.2.1 15 s).toNatClampNeg).isSome = true) ↔ ∃ k, 0 ≤ k ∧ k < 0 + 32 ∧ dupP ms b (nI n) k = true := by
    constructor
    · intro hh
      obtain ⟨s, -, hs, h⟩ := hh
      obtain ⟨k, -, hk, h2⟩ := ff_isSome.mp h
      obtain ⟨c, hc, hc4⟩ := hC s (by omega)
      rw [hc, nI_clamp (by omega)] at hk
      refine ⟨4 * s + k, by omega, by omega, ?_⟩
      unfold dupP
      rw [show (4 * s + k) % 4 = k by omega, show (4 * s + k) / 4 = s by omega, hc, decide_eq_true (nI_lt (a := k) (b := c) (by omega) (by omega)), Bool.true_and]
      exact h2
    · intro hh
      obtain ⟨k, -, hk, h⟩ := hh
      unfold dupP at h
      obtain ⟨h1, h2⟩ := (Bool.and_eq_true _ _).mp h
      obtain ⟨c, hc, hc4⟩ := hC (k / 4) (by omega)
      have h1' := of_decide_eq_true h1
      rw [hc] at h1'
      have hlt : k % 4 < c := Nat.lt_of_not_le (fun z => absurd h1' (nI_nlt z (by omega)))
      refine ⟨k / 4, by omega, by omega, ff_isSome.mpr ⟨k % 4, by omega, by rw [hc, nI_clamp (by omega)]; omega, ?_⟩⟩
      rw [show 4 * (k / 4) + k % 4 = k by omega]
      exact h2
  cases hf : ff (fun s => (ff (fun k => decide (ms.2.1 16 (4 * s + k) = b) && decide (ms.2.1 17 (4 * s + k) = nI n)) 0 (ms.2.1 15 s).toNatClampNeg).isSome) 0 8 with
  | none =>
    have : ff (dupP ms b (nI n)) 0 32 = none := ff_isSome_f (fun z => by
      have := ff_isSome.mpr (hiff.mpr z)
      rw [hf] at this
      cases this)
    rw [this]; rfl
  | some j =>
    have : (ff (dupP ms b (nI n)) 0 32).isSome = true := ff_isSome.mpr (hiff.mp (ff_isSome.mp (by rw [hf]; rfl)))
    rw [this]; rfl
end SIT
