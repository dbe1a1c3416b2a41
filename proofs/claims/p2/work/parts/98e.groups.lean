/-! WHAT IS KNOWN OF THE REFERENCE: entries, sites, notes, the row -/
def GB (ms : MS) : Prop := (∀ k, k < 128 → Ln (ms.2.1 8 k)) ∧ (∀ i, i < 8 → UE ms i) ∧ ∀ i, i < 8 → ms.2.1 3 i = 0 → (∀ k, 16 * i ≤ k → k < 16 * i + 16 → liveE ms k = false) ∧ ∀ s, s < 8 → ms.2.2 (8 * i + s) = -3000000000
def GC (ms : MS) : Prop := (∀ s, s < 8 → ∃ c : Nat, ms.2.1 15 s = nI c ∧ c ≤ 4) ∧ (∀ k, k < 32 → Ln (ms.2.1 17 k)) ∧ (∀ s, s < 8 → ms.2.1 14 s = -1 ∨ ∃ p, p < 16 ∧ ms.2.1 14 s = nI p) ∧ ∀ s, s < 8 → ms.2.1 14 s = -1 → ms.2.1 15 s = 0 ∧ ms.2.1 18 s = 0
def GE (ms : MS) : Prop := ∀ p, p < 16 → ms.2.1 26 p = -1 ∨ ∃ w, w < 8 ∧ ms.2.1 26 p = nI w ∧ ¬ ms.2.1 14 w = -1
def GD (ms : MS) (M t : Nat) : Prop := (∀ k, k < 48 → Ln (ms.2.1 20 k)) ∧ ms.1 25 = nI M ∧ (∀ s, s < 8 → DN ms s) ∧ (∀ s, s < 8 → ∀ k k', 6 * s ≤ k → k < 6 * s + 6 → 6 * s ≤ k' → k' < 6 * s + 6 → liveN ms k = true → liveN ms k' = true → ms.2.1 24 k < ms.2.1 24 k' → ms.2.1 23 k ≤ ms.2.1 23 k') ∧ (∀ k, k < 48 → liveN ms k = true → (∃ m, m ≤ M ∧ ms.2.1 24 k = nI m) ∧ (∃ e, e ≤ t + 60 ∧ ms.2.1 23 k = nI e) ∧ (ms.2.1 21 k = -1 ∨ ∃ pl, pl < 16 ∧ ms.2.1 21 k = nI pl)) ∧ ∀ s, s < 8 → ms.2.1 14 s = -1 → ∀ k, 6 * s ≤ k → k < 6 * s + 6 → liveN ms k = false
def kOk (kd to : Int32) : Prop := (kd = 0 ∨ kd = 1 ∨ kd = 2 ∨ kd = 3 ∨ kd = 4) ∧ (kd = 3 → ∃ pl, pl < 16 ∧ to = nI pl)
def GG (ms : MS) (n : Nat) : Prop := n ≤ 200 ∧ ms.1 36 = nI n ∧ ∀ q, q < n → kOk (ms.2.1 37 (8 * q + 6)) (ms.2.1 37 (8 * q + 7))
/-- what a message may still bring about -/
def phi (k : Int32) : Nat := if k = 0 then 2 else if k = 1 then 3 else if k = 2 then 2 else 0
def phM (ms : MS) (n : Nat) : Nat := sm (fun q => phi (ms.2.1 37 (8 * q + 6))) 0 n
section GRP
variable {ms ms' : MS} {n np M t : Nat}
theorem GB.sub (g : GB ms) (eL8 : ∀ k, k < 128 → ms'.2.1 8 k = ms.2.1 8 k) (e7 : ∀ k, k < 128 → ms'.2.1 7 k = ms.2.1 7 k) (el : ∀ k, k < 128 → liveE ms' k = true → liveE ms k = true) (e3 : ∀ i, i < 8 → ms'.2.1 3 i = 0 → ms.2.1 3 i = 0) (eL : ms'.2.2 = ms.2.2) : GB ms' := by
  obtain ⟨g1, g2, g3⟩ := g
  refine ⟨fun k hk => by rw [eL8 k hk]; exact g1 k hk, fun i hi k k' h1 h2 h3 h4 l1 l2 q1 q2 => ?_, fun i hi h => ⟨fun k h1 h2 => ?_, fun s hs => by rw [eL]; exact (g3 i hi (e3 i hi h)).2 s hs⟩⟩
  · rw [e7 k (by omega), e7 k' (by omega)] at q1
    rw [eL8 k (by omega), eL8 k' (by omega)] at q2
    exact g2 i hi k k' h1 h2 h3 h4 (el k (by omega) l1) (el k' (by omega) l2) q1 q2
  · have := (g3 i hi (e3 i hi h)).1 k h1 h2
    exact bool_f (fun z => by rw [el k (by omega) z] at this; cases this)
theorem GB.to (g : GB ms) (e1 : ms'.1 1 = ms.1 1) (e : ∀ k j, 3 ≤ k → k ≤ 12 → ms'.2.1 k j = ms.2.1 k j) (eL : ms'.2.2 = ms.2.2) : GB ms' := g.sub (fun k _ => e 8 k (by omega) (by omega)) (fun k _ => e 7 k (by omega) (by omega)) (fun k _ h => by unfold liveE at h ⊢; rw [e1, e 12 k (by omega) (by omega)] at h; exact h) (fun i _ h => by rw [e 3 i (by omega) (by omega)] at h; exact h) eL
theorem GC.to (g : GC ms) (e : ∀ k j, 14 ≤ k → k ≤ 18 → ms'.2.1 k j = ms.2.1 k j) : GC ms' := by
  obtain ⟨g1, g2, g3, g4⟩ := g
  refine ⟨fun s hs => by rw [e 15 s (by omega) (by omega)]; exact g1 s hs, fun k hk => by rw [e 17 k (by omega) (by omega)]; exact g2 k hk, fun s hs => by rw [e 14 s (by omega) (by omega)]; exact g3 s hs, fun s hs h => ?_⟩
  rw [e 14 s (by omega) (by omega)] at h
  rw [e 15 s (by omega) (by omega), e 18 s (by omega) (by omega)]
  exact g4 s hs h
theorem GE.to (g : GE ms) (e1 : ∀ j, ms'.2.1 26 j = ms.2.1 26 j) (e2 : ∀ w, w < 8 → ¬ ms.2.1 14 w = -1 → ¬ ms'.2.1 14 w = -1) : GE ms' := fun p hp => by
  rw [e1]
  rcases g p hp with h | ⟨w, h1, h2, h3⟩
  · exact Or.inl h
  · exact Or.inr ⟨w, h1, h2, e2 w h1 h3⟩
theorem GD.sub {t' : Nat} (g : GD ms M t) (htt : t ≤ t') (e25 : ms'.1 25 = ms.1 25) (e : ∀ k j, k = 19 ∨ k = 20 ∨ k = 21 ∨ k = 24 → ms'.2.1 k j = ms.2.1 k j) (el : ∀ k, k < 48 → liveN ms' k = true → liveN ms k = true ∧ ms'.2.1 23 k = ms.2.1 23 k) (e14 : ∀ s, s < 8 → ms'.2.1 14 s = -1 → ms.2.1 14 s = -1) : GD ms' M t' := by
  obtain ⟨g1, g2, g3, g4, g5, g6⟩ := g
  refine ⟨fun k hk => by rw [e 20 k (by omega)]; exact g1 k hk, by rw [e25]; exact g2, fun s hs k k' h1 h2 h3 h4 l1 l2 hne => ?_, fun s hs k k' h1 h2 h3 h4 l1 l2 hlt => ?_, fun k hk l => ?_, fun s hs h k h1 h2 => ?_⟩
  · rw [e 19 k (by omega), e 20 k (by omega), e 19 k' (by omega), e 20 k' (by omega)]
    exact g3 s hs k k' h1 h2 h3 h4 (el k (by omega) l1).1 (el k' (by omega) l2).1 hne
  · rw [(el k (by omega) l1).2, (el k' (by omega) l2).2]
    rw [e 24 k (by omega), e 24 k' (by omega)] at hlt
    exact g4 s hs k k' h1 h2 h3 h4 (el k (by omega) l1).1 (el k' (by omega) l2).1 hlt
  · obtain ⟨q1, ⟨e', q2, q3⟩, q4⟩ := g5 k hk (el k hk l).1
    rw [e 24 k (by omega), (el k hk l).2, e 21 k (by omega)]
    exact ⟨q1, ⟨e', by omega, q3⟩, q4⟩
  · have := g6 s hs (e14 s hs h) k h1 h2
    exact bool_f (fun z => by rw [(el k (by omega) z).1] at this; cases this)
theorem GD.to (g : GD ms M t) (e1 : ms'.1 1 = ms.1 1) (e25 : ms'.1 25 = ms.1 25) (e : ∀ k j, 19 ≤ k → k ≤ 24 → ms'.2.1 k j = ms.2.1 k j) (e14 : ∀ s, s < 8 → ms'.2.1 14 s = -1 → ms.2.1 14 s = -1) : GD ms' M t := g.sub (Nat.le_refl t) e25 (fun k j h => e k j (by omega) (by omega)) (fun k _ h => ⟨by unfold liveN at h ⊢; rw [e1, e 23 k (by omega) (by omega)] at h; exact h, e 23 k (by omega) (by omega)⟩) e14
theorem GD.on (g : GD ms M t) (hM : M ≤ 200) {s : Nat} (hs : s < 8) : ON ms s ∧ DN ms s := by
  obtain ⟨g1, g2, g3, g4, g5, g6⟩ := g
  exact ⟨⟨g4 s hs, M, hM, g2, fun k h1 h2 l => (g5 k (by omega) l).1⟩, g3 s hs⟩
theorem GG.to (g : GG ms n) (e1 : ms'.1 36 = ms.1 36) (e : ∀ j, ms'.2.1 37 j = ms.2.1 37 j) : GG ms' n := ⟨g.1, by rw [e1]; exact g.2.1, fun q hq => by rw [e, e]; exact g.2.2 q hq⟩
theorem GG.post (g : GG ms n) {f : Nat → Int32} (h : kOk (f 6) (f 7)) : GG (postM ms n f) (postN n) := by
  refine ⟨postN_le g.1, postM_36 g.2.1, fun q hq => ?_⟩
  rw [postM_37 (show 6 < 8 by omega), postM_37 (show 7 < 8 by omega)]
  by_cases hc : n ≠ 200 ∧ q = n
  · rw [if_pos hc, if_pos hc]; exact h
  · rw [if_neg hc, if_neg hc]
    refine g.2.2 q ?_
    unfold postN at hq
    have := g.1
    by_cases h2 : n = 200
    · rw [if_pos h2] at hq; omega
    · rw [if_neg h2] at hq
      by_cases h3 : q = n
      · exact absurd ⟨h2, h3⟩ hc
      · omega
theorem GG.take (g : GG ms n) {k : Nat} (hk : k < n) : GG (takeM ms n k) (n - 1) := by
  refine ⟨by have := g.1; omega, takeM_36, fun q hq => ?_⟩
  rw [takeM_37 (show 6 < 8 by omega) hk, takeM_37 (show 7 < 8 by omega) hk]
  exact g.2.2 _ (by split <;> omega)
theorem ph_post {f : Nat → Int32} (hn : n ≤ 200) : phM (postM ms n f) (postN n) ≤ phM ms n + phi (f 6) := by
  unfold postN
  by_cases h : n = 200
  · rw [if_pos h]
    have : phM (postM ms n f) 200 = phM ms n := by
      rw [h]
      exact sm_congr 200 0 (fun j _ _ => by rw [postM_37 (show 6 < 8 by omega), if_neg (fun z => z.1 rfl)])
    omega
  · rw [if_neg h]
    show sm _ 0 (n + 1) ≤ _
    rw [sm_snoc, Nat.zero_add]
    have e1 : sm (fun q => phi ((postM ms n f).2.1 37 (8 * q + 6))) 0 n = phM ms n := sm_congr n 0 (fun j _ hj => by rw [postM_37 (show 6 < 8 by omega), if_neg (fun z => by omega)])
    rw [e1, postM_37 (show 6 < 8 by omega), if_pos ⟨h, rfl⟩]
    exact Nat.le_refl _
theorem sm_shift {f : Nat → Nat} : ∀ (c i : Nat), sm (fun j => f (j + 1)) i c = sm f (i + 1) c
  | 0, i => rfl
  | c + 1, i => by
    show f (i + 1) + sm (fun j => f (j + 1)) (i + 1) c = f (i + 1) + sm f (i + 1 + 1) c
    rw [sm_shift c (i + 1)]
theorem sm_split {f : Nat → Nat} : ∀ (a b i : Nat), sm f i (a + b) = sm f i a + sm f (i + a) b
  | 0, b, i => by rw [Nat.zero_add]; show _ = 0 + sm f (i + 0) b; rw [Nat.zero_add, Nat.add_zero]
  | a + 1, b, i => by
    rw [show a + 1 + b = (a + b) + 1 by omega]
    show f i + sm f (i + 1) (a + b) = (f i + sm f (i + 1) a) + sm f (i + (a + 1)) b
    rw [sm_split a b (i + 1), show i + 1 + a = i + (a + 1) by omega]
    omega
theorem ph_take {k : Nat} (hk : k < n) : phM (takeM ms n k) (n - 1) + phi (ms.2.1 37 (8 * k + 6)) = phM ms n := by
  have e1 : phM (takeM ms n k) (n - 1) = sm (fun q => phi (ms.2.1 37 (8 * (if k ≤ q then q + 1 else q) + 6))) 0 (n - 1) := sm_congr (n - 1) 0 (fun j _ hj => by
    rw [takeM_37 (show 6 < 8 by omega) hk]
    by_cases h : k ≤ j
    · rw [if_pos ⟨h, by omega⟩, if_pos h]
    · rw [if_neg (fun z => h z.1), if_neg h])
  rw [e1, show n - 1 = k + (n - 1 - k) by omega, sm_split]
  have e2 : sm (fun q => phi (ms.2.1 37 (8 * (if k ≤ q then q + 1 else q) + 6))) 0 k = sm (fun q => phi (ms.2.1 37 (8 * q + 6))) 0 k := sm_congr k 0 (fun j _ hj => by rw [if_neg (by omega)])
  have e3 : sm (fun q => phi (ms.2.1 37 (8 * (if k ≤ q then q + 1 else q) + 6))) (0 + k) (n - 1 - k) = sm (fun q => phi (ms.2.1 37 (8 * q + 6))) (0 + k + 1) (n - 1 - k) := by
    rw [← sm_shift]
    exact sm_congr (n - 1 - k) (0 + k) (fun j hj _ => by rw [if_pos (by omega)])
  rw [e2, e3]
  show _ = sm (fun q => phi (ms.2.1 37 (8 * q + 6))) 0 n
  have e4 : sm (fun q => phi (ms.2.1 37 (8 * q + 6))) 0 n = sm (fun q => phi (ms.2.1 37 (8 * q + 6))) 0 (k + (1 + (n - 1 - k))) := by
    congr 1
    omega
  rw [e4, sm_split, sm_split 1 (n - 1 - k) (0 + k)]
  show _ = _ + ((phi (ms.2.1 37 (8 * (0 + k) + 6)) + 0) + _)
  rw [Nat.zero_add]
  omega
theorem phM_congr (e : ∀ j, ms'.2.1 37 j = ms.2.1 37 j) : phM ms' n = phM ms n := sm_congr n 0 (fun j _ _ => by rw [e])
theorem phP_congr (e : ∀ j, ms'.2.1 34 j = ms.2.1 34 j) : phP ms' np = phP ms np := sm_congr np 1 (fun j _ _ => by show 3 * (9 - stp_ ms' j) = 3 * (9 - stp_ ms j); unfold stp_; rw [e])
end GRP
/-- what is known of the reference -/
def RI (ms : MS) (n np M t : Nat) : Prop := (t ≤ 1000000 ∧ ms.1 1 = nI t) ∧ Tr ms ∧ GB ms ∧ GC ms ∧ GE ms ∧ GD ms M t ∧ GF ms np M ∧ GG ms n
def Phi (ms : MS) (n np : Nat) : Nat := phM ms n + phP ms np
section RIS
variable {ms ms' : MS} {n np M t : Nat}
theorem RI.mi (r : RI ms n np M t) : MI ms := by
  obtain ⟨-, Tt, b, c, e, d, f, g⟩ := r
  exact ⟨⟨n, g.1, g.2.1⟩, ⟨np, f.1, f.2.1⟩, Tt.2.1, b.1, c.2.1, d.1, c.1, c.2.2.1, fun p hp => by
    rcases e p hp with h | ⟨w, h1, h2, -⟩
    · exact Or.inl h
    · exact Or.inr ⟨w, h1, h2⟩⟩
theorem RI.ra (r : RI ms n np M t) (hk : kOk (ms.2.1 38 6) (ms.2.1 38 7)) : RA ms np := by
  obtain ⟨ti, Tt, b, c, e, d, f, g⟩ := r
  exact ⟨Tt, b.1, d.1, b.2.1, ⟨t, ti.1, ti.2⟩, fun s hs => d.on f.M_le hs, ⟨f.1, f.2.1, f.wn, f.s8⟩, e, hk.1, hk.2⟩
theorem RI.take (r : RI ms n np M t) {k : Nat} (hk : k < n) : RI (takeM ms n k) (n - 1) np M t ∧ kOk ((takeM ms n k).2.1 38 6) ((takeM ms n k).2.1 38 7) := by
  obtain ⟨ti, Tt, b, c, e, d, f, g⟩ := r
  have ek : ∀ q j, q ≠ 37 → q ≠ 38 → (takeM ms n k).2.1 q j = ms.2.1 q j := fun q j h1 h2 => takeM_k h1 h2
  have es : ∀ q, q ≠ 36 → (takeM ms n k).1 q = ms.1 q := fun q h => takeM_s h
  refine ⟨⟨⟨ti.1, by rw [es 1 (by decide)]; exact ti.2⟩, Tr_congr (fun q j h1 h2 => ek q j (by omega) (by omega)) Tt, b.to (es 1 (by decide)) (fun q j h1 h2 => ek q j (by omega) (by omega)) rfl, c.to (fun q j h1 h2 => ek q j (by omega) (by omega)), e.to (fun j => ek 26 j (by decide) (by decide)) (fun w _ h => by rw [ek 14 w (by decide) (by decide)]; exact h), d.to (es 1 (by decide)) (es 25 (by decide)) (fun q j h1 h2 => ek q j (by omega) (by omega)) (fun s _ h => by rw [ek 14 s (by decide) (by decide)] at h; exact h), f.to (es 28 (by decide)) (es 2 (by decide)) (fun q j h => ek q j (by omega) (by omega)), g.take hk⟩, ?_⟩
  rw [takeM_38 (show 6 < 8 by omega), takeM_38 (show 7 < 8 by omega)]
  exact g.2.2 k hk
/-- a message has come -/
theorem RI.post (r : RI ms n np M t) {f : Nat → Int32} (h : kOk (f 6) (f 7)) : RI (postM ms n f) (postN n) np M t := by
  obtain ⟨ti, Tt, b, c, e, d, ff', g⟩ := r
  have ek : ∀ q j, q ≠ 37 → (postM ms n f).2.1 q j = ms.2.1 q j := fun q j h1 => postM_k h1
  have es : ∀ q, q ≠ 36 → q ≠ 42 → (postM ms n f).1 q = ms.1 q := fun q h1 h2 => postM_s h1 h2
  exact ⟨⟨ti.1, by rw [es 1 (by decide) (by decide)]; exact ti.2⟩, Tr_congr (fun q j h1 h2 => ek q j (by omega)) Tt, b.to (es 1 (by decide) (by decide)) (fun q j h1 h2 => ek q j (by omega)) postM_L, c.to (fun q j h1 h2 => ek q j (by omega)), e.to (fun j => ek 26 j (by decide)) (fun w _ h => by rw [ek 14 w (by decide)]; exact h), d.to (es 1 (by decide) (by decide)) (es 25 (by decide) (by decide)) (fun q j h1 h2 => ek q j (by omega)) (fun s _ h => by rw [ek 14 s (by decide)] at h; exact h), ff'.to (es 28 (by decide) (by decide)) (es 2 (by decide) (by decide)) (fun q j h => ek q j (by omega)), g.post h⟩
/-- a plain number that nothing here speaks of -/
theorem RI.num (r : RI ms n np M t) (h2 : ms'.2 = ms.2) (h1 : ∀ k, k = 1 ∨ k = 2 ∨ k = 25 ∨ k = 28 ∨ k = 36 → ms'.1 k = ms.1 k) : RI ms' n np M t := by
  obtain ⟨ti, Tt, b, c, e, d, f, g⟩ := r
  have ek : ∀ q j, ms'.2.1 q j = ms.2.1 q j := fun q j => by rw [h2]
  exact ⟨⟨ti.1, by rw [h1 1 (by omega)]; exact ti.2⟩, Tr_congr (fun q j _ _ => ek q j) Tt, b.to (h1 1 (by omega)) (fun q j _ _ => ek q j) (by rw [h2]), c.to (fun q j _ _ => ek q j), e.to (fun j => ek 26 j) (fun w _ h => by rw [ek 14 w]; exact h), d.to (h1 1 (by omega)) (h1 25 (by omega)) (fun q j _ _ => ek q j) (fun s _ h => by rw [ek 14 s] at h; exact h), f.to (h1 28 (by omega)) (h1 2 (by omega)) (fun q j _ => ek q j), g.to (h1 36 (by omega)) (fun j => ek 37 j)⟩
end RIS
