/-! WHAT IS KNOWN OF THE REFERENCE: its packets -/
def sm (f : Nat → Nat) : Nat → Nat → Nat
  | _, 0 => 0
  | i, c + 1 => f i + sm f (i + 1) c
theorem sm_congr {f f' : Nat → Nat} : ∀ (c i : Nat), (∀ j, i ≤ j → j < i + c → f' j = f j) → sm f' i c = sm f i c
  | 0, i, _ => rfl
  | c + 1, i, h => by
    show f' i + sm f' (i + 1) c = f i + sm f (i + 1) c
    rw [h i (Nat.le_refl i) (by omega), sm_congr c (i + 1) (fun j h1 h2 => h j (by omega) (by omega))]
theorem sm_upd {f f' : Nat → Nat} {p : Nat} : ∀ (c i : Nat), i ≤ p → p < i + c → (∀ j, i ≤ j → j < i + c → j ≠ p → f' j = f j) → sm f' i c + f p = sm f i c + f' p
  | 0, i, h1, h2, _ => by omega
  | c + 1, i, h1, h2, h => by
    show f' i + sm f' (i + 1) c + f p = f i + sm f (i + 1) c + f' p
    by_cases e : p = i
    · rw [e, sm_congr (f := f) (f' := f') c (i + 1) (fun j g1 g2 => h j (by omega) (by omega) (by omega))]
      omega
    · have := sm_upd (f := f) (f' := f') (p := p) c (i + 1) (by omega) (by omega) (fun j g1 g2 g3 => h j (by omega) (by omega) g3)
      rw [h i (Nat.le_refl i) (by omega) (fun z => e z.symm)]
      omega
theorem sm_snoc {f : Nat → Nat} : ∀ (c i : Nat), sm f i (c + 1) = sm f i c + f (i + c)
  | 0, i => by show f i + 0 = 0 + f i; omega
  | c + 1, i => by
    show f i + sm f (i + 1) (c + 1) = f i + sm f (i + 1) c + f (i + (c + 1))
    rw [sm_snoc c (i + 1), show i + 1 + c = i + (c + 1) by omega]
    omega
theorem sm_le {f : Nat → Nat} {B : Nat} : ∀ (c i : Nat), (∀ j, i ≤ j → j < i + c → f j ≤ B) → sm f i c ≤ B * c
  | 0, i, _ => Nat.zero_le _
  | c + 1, i, h => by
    show f i + sm f (i + 1) c ≤ B * (c + 1)
    have h1 := h i (Nat.le_refl i) (by omega)
    have h2 := sm_le (f := f) (B := B) c (i + 1) (fun j g1 g2 => h j (by omega) (by omega))
    rw [Nat.mul_succ]
    omega
/-- how many REFERRALS, as a number -/
def stp_ (ms : MS) (i : Nat) : Nat := (ms.2.1 34 i).toNatClampNeg
def wt1 (ms : MS) (i : Nat) : Nat := if ms.2.1 31 i = 0 then 1 else 0
def wtC (ms : MS) (np : Nat) : Nat := sm (wt1 ms) 1 np
def stC (ms : MS) (np : Nat) : Nat := sm (fun i => 1 + stp_ ms i) 1 np
/-- what the packets may still bring about -/
def phP (ms : MS) (np : Nat) : Nat := sm (fun i => 3 * (9 - stp_ ms i)) 1 np
def GF (ms : MS) (np M : Nat) : Prop := np ≤ 200 ∧ ms.1 28 = nI np ∧ (∀ i, np < i → i ≤ 200 → ms.2.1 31 i = 0 ∧ ms.2.1 32 i = 0 ∧ ms.2.1 34 i = 0 ∧ ms.2.1 35 i = 0) ∧ (∀ i, 1 ≤ i → i ≤ np → ∃ k, k ≤ 9 ∧ ms.2.1 34 i = nI k ∧ (ms.2.1 31 i = 0 → k ≤ 8)) ∧ (∃ (d : Nat) (D : Nat → Nat), ms.1 2 = dr d ∧ d ≤ stC ms np ∧ (∀ i, 1 ≤ i → i ≤ np → ms.2.1 31 i = 0 → 1 ≤ D i ∧ D i ≤ d ∧ ms.2.1 32 i = dr (D i)) ∧ ∀ i j, 1 ≤ i → i ≤ np → 1 ≤ j → j ≤ np → ms.2.1 31 i = 0 → ms.2.1 31 j = 0 → D i = D j → i = j) ∧ M + wtC ms np ≤ np
section PKT
variable {ms ms' : MS} {np M : Nat}
theorem stp_nI {i k : Nat} (h : ms.2.1 34 i = nI k) (hk : k ≤ 9) : stp_ ms i = k := by unfold stp_; rw [h, nI_clamp (by omega)]
theorem GF.st_le (g : GF ms np M) : stC ms np ≤ 2000 := by
  obtain ⟨g1, -, -, g4, -⟩ := g
  have := sm_le (f := fun i => 1 + stp_ ms i) (B := 10) np 1 (fun j h1 h2 => by
    obtain ⟨k, k1, k2, -⟩ := g4 j h1 (by omega)
    show 1 + stp_ ms j ≤ 10
    rw [stp_nI k2 k1]
    omega)
  unfold stC
  omega
theorem GF.wn (g : GF ms np M) : WN ms np := by
  have hle := g.st_le
  obtain ⟨-, -, -, -, ⟨d, D, d1, d2, d3, d4⟩, -⟩ := g
  intro i j h1 h2 h3 h4 h5 h6 h7
  obtain ⟨a1, a2, a3⟩ := d3 i h1 h2 h5
  obtain ⟨b1, b2, b3⟩ := d3 j h3 h4 h6
  rw [a3, b3] at h7
  exact d4 i j h1 h2 h3 h4 h5 h6 (dr_inj (by omega) (by omega) h7)
theorem GF.s8 (g : GF ms np M) : ∀ i, i < np → ms.2.1 31 (i + 1) = 0 → ∃ k, k ≤ 8 ∧ ms.2.1 34 (i + 1) = nI k := fun i hi h => by
  obtain ⟨k, -, k2, k3⟩ := g.2.2.2.1 (i + 1) (by omega) (by omega)
  exact ⟨k, k3 h, k2⟩
theorem GF.M_le (g : GF ms np M) : M ≤ 200 := by have := g.2.2.2.2.2; have := g.1; omega
theorem GF.to (g : GF ms np M) (e1 : ms'.1 28 = ms.1 28) (e2 : ms'.1 2 = ms.1 2) (e : ∀ k j, k = 31 ∨ k = 32 ∨ k = 34 ∨ k = 35 → ms'.2.1 k j = ms.2.1 k j) : GF ms' np M := by
  obtain ⟨g1, g2, g3, g4, ⟨d, D, d1, d2, d3, d4⟩, g6⟩ := g
  have es : stC ms' np = stC ms np := sm_congr np 1 (fun j _ _ => by show 1 + stp_ ms' j = 1 + stp_ ms j; unfold stp_; rw [e 34 j (by omega)])
  have ew : wtC ms' np = wtC ms np := sm_congr np 1 (fun j _ _ => by unfold wt1; rw [e 31 j (by omega)])
  refine ⟨g1, by rw [e1]; exact g2, fun i h1 h2 => by rw [e 31 i (by omega), e 32 i (by omega), e 34 i (by omega), e 35 i (by omega)]; exact g3 i h1 h2, fun i h1 h2 => by rw [e 34 i (by omega), e 31 i (by omega)]; exact g4 i h1 h2, ⟨d, D, by rw [e2]; exact d1, by rw [es]; exact d2, fun i h1 h2 h3 => ?_, fun i j h1 h2 h3 h4 h5 h6 h7 => ?_⟩, by rw [ew]; exact g6⟩
  · rw [e 31 i (by omega)] at h3
    rw [e 32 i (by omega)]
    exact d3 i h1 h2 h3
  · rw [e 31 i (by omega)] at h5
    rw [e 31 j (by omega)] at h6
    exact d4 i j h1 h2 h3 h4 h5 h6 h7
/-- a packet waits no more, or never did -/
theorem GF.off (g : GF ms np M) {p : Nat} (hp1 : 1 ≤ p) (hp2 : p ≤ np) (e1 : ms'.1 28 = ms.1 28) (e2 : ms'.1 2 = ms.1 2) (e : ∀ k j, k = 31 ∨ k = 32 ∨ k = 34 ∨ k = 35 → j ≠ p → ms'.2.1 k j = ms.2.1 k j) (h31 : ¬ ms'.2.1 31 p = 0) (h34 : ∃ k, k ≤ 9 ∧ ms'.2.1 34 p = nI k ∧ stp_ ms p ≤ k) : GF ms' np M ∧ (ms.2.1 31 p = 0 → GF ms' np (M + 1)) := by
  obtain ⟨g1, g2, g3, g4, ⟨d, D, d1, d2, d3, d4⟩, g6⟩ := g
  obtain ⟨k, k1, k2, k3⟩ := h34
  have es : stC ms np ≤ stC ms' np := by
    have := sm_upd (f := fun i => 1 + stp_ ms i) (f' := fun i => 1 + stp_ ms' i) (p := p) np 1 hp1 (by omega) (fun j _ _ h => by show 1 + stp_ ms' j = 1 + stp_ ms j; unfold stp_; rw [e 34 j (by omega) h])
    have hk' : stp_ ms' p = k := stp_nI k2 k1
    have this' : stC ms' np + (1 + stp_ ms p) = stC ms np + (1 + stp_ ms' p) := this
    omega
  have ew : wtC ms' np + wt1 ms p = wtC ms np := by
    have := sm_upd (f := wt1 ms) (f' := wt1 ms') (p := p) np 1 hp1 (by omega) (fun j _ _ h => by unfold wt1; rw [e 31 j (by omega) h])
    have hz : wt1 ms' p = 0 := if_neg h31
    unfold wtC
    omega
  have rest : np ≤ 200 ∧ ms'.1 28 = nI np ∧ (∀ i, np < i → i ≤ 200 → ms'.2.1 31 i = 0 ∧ ms'.2.1 32 i = 0 ∧ ms'.2.1 34 i = 0 ∧ ms'.2.1 35 i = 0) ∧ (∀ i, 1 ≤ i → i ≤ np → ∃ k, k ≤ 9 ∧ ms'.2.1 34 i = nI k ∧ (ms'.2.1 31 i = 0 → k ≤ 8)) ∧ (∃ (d : Nat) (D : Nat → Nat), ms'.1 2 = dr d ∧ d ≤ stC ms' np ∧ (∀ i, 1 ≤ i → i ≤ np → ms'.2.1 31 i = 0 → 1 ≤ D i ∧ D i ≤ d ∧ ms'.2.1 32 i = dr (D i)) ∧ ∀ i j, 1 ≤ i → i ≤ np → 1 ≤ j → j ≤ np → ms'.2.1 31 i = 0 → ms'.2.1 31 j = 0 → D i = D j → i = j) := by
    have np' : ∀ i, ms'.2.1 31 i = 0 → i ≠ p := fun i h z => h31 (by rw [← z]; exact h)
    refine ⟨g1, by rw [e1]; exact g2, fun i h1 h2 => ?_, fun i h1 h2 => ?_, ⟨d, D, by rw [e2]; exact d1, by omega, fun i h1 h2 h3 => ?_, fun i j h1 h2 h3 h4 h5 h6 h7 => ?_⟩⟩
    · rw [e 31 i (by omega) (by omega), e 32 i (by omega) (by omega), e 34 i (by omega) (by omega), e 35 i (by omega) (by omega)]
      exact g3 i h1 h2
    · by_cases ei : i = p
      · rw [ei]; exact ⟨k, k1, k2, fun z => absurd z h31⟩
      · rw [e 34 i (by omega) ei, e 31 i (by omega) ei]; exact g4 i h1 h2
    · have ni := np' i h3
      rw [e 31 i (by omega) ni] at h3
      rw [e 32 i (by omega) ni]
      exact d3 i h1 h2 h3
    · have ni := np' i h5
      have nj := np' j h6
      rw [e 31 i (by omega) ni] at h5
      rw [e 31 j (by omega) nj] at h6
      exact d4 i j h1 h2 h3 h4 h5 h6 h7
  obtain ⟨q1, q2, q3, q4, q5⟩ := rest
  refine ⟨⟨q1, q2, q3, q4, q5, by omega⟩, fun h0 => ⟨q1, q2, q3, q4, q5, ?_⟩⟩
  have : wt1 ms p = 1 := if_pos h0
  omega
/-- a packet goes on to wait -/
theorem GF.again (g : GF ms np M) {p k : Nat} (hp1 : 1 ≤ p) (hp2 : p ≤ np) (h31 : ms.2.1 31 p = 0) (hk : ms.2.1 34 p = nI k) (hk8 : k + 1 ≤ 8) (e1 : ms'.1 28 = ms.1 28) (e2 : ms'.1 2 = drw (ms.1 2)) (e : ∀ k j, k = 31 ∨ k = 32 ∨ k = 34 ∨ k = 35 → j ≠ p → ms'.2.1 k j = ms.2.1 k j) (h31' : ms'.2.1 31 p = 0) (h32' : ms'.2.1 32 p = drw (ms.1 2)) (h34' : ms'.2.1 34 p = nI (k + 1)) : GF ms' np M := by
  obtain ⟨g1, g2, g3, g4, ⟨d, D, d1, d2, d3, d4⟩, g6⟩ := g
  have es : stC ms' np = stC ms np + 1 := by
    have := sm_upd (f := fun i => 1 + stp_ ms i) (f' := fun i => 1 + stp_ ms' i) (p := p) np 1 hp1 (by omega) (fun j _ _ h => by show 1 + stp_ ms' j = 1 + stp_ ms j; unfold stp_; rw [e 34 j (by omega) h])
    have q1 : stp_ ms' p = k + 1 := stp_nI h34' (by omega)
    have q2 : stp_ ms p = k := stp_nI hk (by omega)
    have this' : stC ms' np + (1 + stp_ ms p) = stC ms np + (1 + stp_ ms' p) := this
    omega
  have ew : wtC ms' np = wtC ms np := sm_congr np 1 (fun j _ _ => by
    unfold wt1
    by_cases ej : j = p
    · rw [ej, h31, h31']
    · rw [e 31 j (by omega) ej])
  have hold : ∀ i, 1 ≤ i → i ≤ np → ms'.2.1 31 i = 0 → ms.2.1 31 i = 0 := fun i _ _ h => by
    by_cases ei : i = p
    · rw [ei]; exact h31
    · rw [e 31 i (by omega) ei] at h; exact h
  refine ⟨g1, by rw [e1]; exact g2, fun i h1 h2 => ?_, fun i h1 h2 => ?_, ⟨d + 1, fun i => if i = p then d + 1 else D i, by rw [e2, d1]; rfl, by omega, fun i h1 h2 h3 => ?_, fun i j h1 h2 h3 h4 h5 h6 h7 => ?_⟩, by rw [ew]; exact g6⟩
  · rw [e 31 i (by omega) (by omega), e 32 i (by omega) (by omega), e 34 i (by omega) (by omega), e 35 i (by omega) (by omega)]
    exact g3 i h1 h2
  · by_cases ei : i = p
    · rw [ei]; exact ⟨k + 1, by omega, h34', fun _ => hk8⟩
    · rw [e 34 i (by omega) ei, e 31 i (by omega) ei]; exact g4 i h1 h2
  · show 1 ≤ (if i = p then d + 1 else D i) ∧ (if i = p then d + 1 else D i) ≤ d + 1 ∧ ms'.2.1 32 i = dr (if i = p then d + 1 else D i)
    by_cases ei : i = p
    · rw [if_pos ei, ei, h32', d1]
      exact ⟨by omega, by omega, rfl⟩
    · rw [if_neg ei, e 32 i (by omega) ei]
      obtain ⟨q1, q2, q3⟩ := d3 i h1 h2 (hold i h1 h2 h3)
      exact ⟨q1, by omega, q3⟩
  · have a := hold i h1 h2 h5
    have b := hold j h3 h4 h6
    have h7' : (if i = p then d + 1 else D i) = (if j = p then d + 1 else D j) := h7
    by_cases ei : i = p
    · by_cases ej : j = p
      · rw [ei, ej]
      · rw [if_pos ei, if_neg ej] at h7'
        have := (d3 j h3 h4 b).2.1
        omega
    · by_cases ej : j = p
      · rw [if_neg ei, if_pos ej] at h7'
        have := (d3 i h1 h2 a).2.1
        omega
      · rw [if_neg ei, if_neg ej] at h7'
        exact d4 i j h1 h2 h3 h4 a b h7'
/-- a packet comes -/
theorem GF.new (g : GF ms np M) (hlt : np < 200) (e1 : ms'.1 28 = nI (np + 1)) (e : ∀ k j, k = 31 ∨ k = 32 ∨ k = 34 ∨ k = 35 → j ≠ np + 1 → ms'.2.1 k j = ms.2.1 k j) (h34 : ms'.2.1 34 (np + 1) = 0) (hc : (¬ ms'.2.1 31 (np + 1) = 0 ∧ ms'.1 2 = ms.1 2) ∨ (ms'.2.1 31 (np + 1) = 0 ∧ ms'.1 2 = drw (ms.1 2) ∧ ms'.2.1 32 (np + 1) = drw (ms.1 2))) : GF ms' (np + 1) M := by
  obtain ⟨g1, g2, g3, g4, ⟨d, D, d1, d2, d3, d4⟩, g6⟩ := g
  have es : stC ms' (np + 1) = stC ms np + 1 := by
    show sm (fun i => 1 + stp_ ms' i) 1 (np + 1) = _
    rw [sm_snoc, sm_congr (f := fun i => 1 + stp_ ms i) (f' := fun i => 1 + stp_ ms' i) np 1 (fun j h1 h2 => by show 1 + stp_ ms' j = 1 + stp_ ms j; unfold stp_; rw [e 34 j (by omega) (by omega)])]
    have : stp_ ms' (1 + np) = 0 := by rw [show 1 + np = np + 1 by omega]; exact stp_nI (k := 0) h34 (by omega)
    show stC ms np + (1 + stp_ ms' (1 + np)) = _
    omega
  have ew : wtC ms' (np + 1) = wtC ms np + wt1 ms' (np + 1) := by
    show sm (wt1 ms') 1 (np + 1) = _
    rw [sm_snoc, sm_congr (f := wt1 ms) (f' := wt1 ms') np 1 (fun j h1 h2 => by unfold wt1; rw [e 31 j (by omega) (by omega)]), show 1 + np = np + 1 by omega]
    rfl
  have hw1 : wt1 ms' (np + 1) ≤ 1 := by unfold wt1; split <;> omega
  refine ⟨by omega, e1, fun i h1 h2 => ?_, fun i h1 h2 => ?_, ?_, by omega⟩
  · rw [e 31 i (by omega) (by omega), e 32 i (by omega) (by omega), e 34 i (by omega) (by omega), e 35 i (by omega) (by omega)]
    exact g3 i (by omega) h2
  · by_cases ei : i = np + 1
    · rw [ei]; exact ⟨0, by omega, h34, fun _ => by omega⟩
    · rw [e 34 i (by omega) ei, e 31 i (by omega) ei]; exact g4 i h1 (by omega)
  · rcases hc with ⟨c1, c2⟩ | ⟨c1, c2, c3⟩
    · have hold : ∀ i, i ≤ np + 1 → ms'.2.1 31 i = 0 → i ≤ np ∧ ms.2.1 31 i = 0 := fun i hi h => by
        by_cases ei : i = np + 1
        · rw [ei] at h; exact absurd h c1
        · rw [e 31 i (by omega) ei] at h; exact ⟨by omega, h⟩
      refine ⟨d, D, by rw [c2]; exact d1, by omega, fun i h1 h2 h3 => ?_, fun i j h1 h2 h3 h4 h5 h6 h7 => ?_⟩
      · obtain ⟨q1, q2⟩ := hold i h2 h3
        rw [e 32 i (by omega) (by omega)]
        exact d3 i h1 q1 q2
      · obtain ⟨q1, q2⟩ := hold i h2 h5
        obtain ⟨q3, q4⟩ := hold j h4 h6
        exact d4 i j h1 q1 h3 q3 q2 q4 h7
    · have hold : ∀ i, i ≤ np + 1 → i ≠ np + 1 → ms'.2.1 31 i = 0 → i ≤ np ∧ ms.2.1 31 i = 0 := fun i hi ei h => by
        rw [e 31 i (by omega) ei] at h
        exact ⟨by omega, h⟩
      refine ⟨d + 1, fun i => if i = np + 1 then d + 1 else D i, by rw [c2, d1]; rfl, by omega, fun i h1 h2 h3 => ?_, fun i j h1 h2 h3 h4 h5 h6 h7 => ?_⟩
      · show 1 ≤ (if i = np + 1 then d + 1 else D i) ∧ (if i = np + 1 then d + 1 else D i) ≤ d + 1 ∧ ms'.2.1 32 i = dr (if i = np + 1 then d + 1 else D i)
        by_cases ei : i = np + 1
        · rw [if_pos ei, ei, c3, d1]
          exact ⟨by omega, by omega, rfl⟩
        · obtain ⟨q1, q2⟩ := hold i h2 ei h3
          rw [if_neg ei, e 32 i (by omega) ei]
          obtain ⟨r1, r2, r3⟩ := d3 i h1 q1 q2
          exact ⟨r1, by omega, r3⟩
      · have h7' : (if i = np + 1 then d + 1 else D i) = (if j = np + 1 then d + 1 else D j) := h7
        by_cases ei : i = np + 1
        · by_cases ej : j = np + 1
          · rw [ei, ej]
          · obtain ⟨q3, q4⟩ := hold j h4 ej h6
            rw [if_pos ei, if_neg ej] at h7'
            have := (d3 j h3 q3 q4).2.1
            omega
        · obtain ⟨q1, q2⟩ := hold i h2 ei h5
          by_cases ej : j = np + 1
          · rw [if_neg ei, if_pos ej] at h7'
            have := (d3 i h1 q1 q2).2.1
            omega
          · obtain ⟨q3, q4⟩ := hold j h4 ej h6
            rw [if_neg ei, if_neg ej] at h7'
            exact d4 i j h1 q1 h3 q3 q2 q4 h7'
end PKT
