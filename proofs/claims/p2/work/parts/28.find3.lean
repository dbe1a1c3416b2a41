theorem h_b1_s {α β : Type} {x : α} {F : α → Option β} : h_b1 (some x) F = F x := rfl
theorem k_bd_s {α β : Type} {r : α} {q : MS} {F : α → MS → Option β} : k_bd (some (r, q)) F = F r q := rfl
theorem o2i_some {o : Option Nat} {i : Nat} (hi : i < 2 ^ 31) (ho : ∀ j, o = some j → j < 2 ^ 31) : (nI i = o2i o) ↔ o = some i := by
  cases o with
  | none =>
    constructor
    · intro h
      have h2 : ¬ nI i < 0 := nI_pos hi
      rw [h] at h2
      exact absurd (by decide) h2
    · intro h; cases h
  | some j =>
    show nI i = nI j ↔ _
    rw [nI_eq hi (ho j rfl)]
    constructor
    · intro h; rw [h]
    · intro h; cases h; rfl
theorem o2i_none {o : Option Nat} (ho : ∀ j, o = some j → j < 2 ^ 31) : (o2i o = -1) ↔ o = none := by
  cases o with
  | none => simp [o2i]
  | some j =>
    constructor
    · intro h
      have h2 : ¬ nI j < 0 := nI_pos (ho j rfl)
      rw [show nI j = -1 from h] at h2
      exact absurd (by decide) h2
    · intro h; cases h
theorem Ln_le {x y : Int32} (hx : Ln x) (hy : Ln y) : x ≤ y ↔ ln x ≤ ln y := by
  obtain ⟨h1, h2⟩ := Ln_nI hx
  obtain ⟨h3, h4⟩ := Ln_nI hy
  rw [h1, h3, nI_leI (by omega) (by omega), ← h1, ← h3]
theorem Ln_lt {x y : Int32} (hx : Ln x) (hy : Ln y) : x < y ↔ ln x < ln y := by
  obtain ⟨h1, h2⟩ := Ln_nI hx
  obtain ⟨h3, h4⟩ := Ln_nI hy
  rw [h1, h3, nI_ltI (by omega) (by omega), ← h1, ← h3]
-- the best entry
def hitE (ms : MS) (ep : Int32) (k : Nat) : Bool := liveE ms k && ag (ln (ms.2.1 8 k)) (ms.2.1 7 k) ep
def bstE (ms : MS) (ep : Int32) (i : Nat) (o : Option Nat) : Option Nat := if hitE ms ep i = true then (match o with
    | none => some i
    | some j => if ms.2.1 8 i ≤ ms.2.1 8 j then some j else some i) else o
def bestE (ms : MS) (ep : Int32) (s : Nat) : Option Nat := fo (bstE ms ep) (16 * s) 16 none
theorem p_best_eq (ms : MS) (ep : Int32) {s : Nat} (hs : s < 8) (hL : ∀ k, k < 128 → Ln (ms.2.1 8 k)) : p_X10_best ms (nI s) ep = some (o2i (bestE ms ep s), ms) := by
  unfold p_X10_best
  have key := lp_fold (S := Option Nat) (fun n o k => pg_X10_best_8 n ms (nI s) ep (o2i o) k) (16 * s + 16) (bstE ms ep) (fun o => some (o2i o, ms)) (fun i o => ∀ j, o = some j → j < i)
    (fun i o hi ho j hj => by
      unfold bstE at hj
      by_cases h : hitE ms ep i = true
      · rw [if_pos h] at hj
        cases o with
        | none => cases hj; omega
        | some j' =>
          have h9 := ho j' rfl
          dsimp only at hj
          by_cases h2 : ms.2.1 8 i ≤ ms.2.1 8 j'
          · rw [if_pos h2] at hj; cases hj; omega
          · rw [if_neg h2] at hj; cases hj; omega
      · rw [if_neg h] at hj
        have := ho j hj
        omega)
    (fun n o ho => by show pg_X10_best_8 (n + 1) ms (nI s) ep (o2i o) (nI (16 * s + 16)) = _; rw [pg_X10_best_8, nI_m16, nI_a16, if_pos (Int32.le_refl _)])
    (fun n i o hi ho => by
      show pg_X10_best_8 (n + 1) ms (nI s) ep (o2i o) (nI i) = pg_X10_best_8 n ms (nI s) ep (o2i (bstE ms ep i o)) (nI (i + 1))
      rw [pg_X10_best_8, nI_m16, nI_a16, if_neg (nI_ge hi (by omega)), k_aI_nI (show i < k_len 12 by show i < 128; omega), k_aI_nI (show i < k_len 7 by show i < 128; omega), k_aI_nI (show i < k_len 8 by show i < 128; omega), nI_1]
      unfold bstE hitE liveE
      simp only [h_b1_s]
      by_cases h1 : ms.2.1 12 i ≤ ms.1 1
      · rw [if_pos h1, decide_eq_false (Int32.not_lt.mpr h1)]; rfl
      · rw [if_neg h1, decide_eq_true (Int32.not_le.mp h1), p_begin_L ms _ _ (hL i (by omega))]
        simp only [k_bd_s]
        cases hag : ag (ln (ms.2.1 8 i)) (ms.2.1 7 i) ep
        · rfl
        · rw [if_neg (by decide)]
          simp only [Bool.and_self, if_true]
          cases o with
          | none => rw [if_pos (show o2i none = -1 from rfl)]; rfl
          | some j =>
            have hj := ho j rfl
            rw [if_neg (fun z => by have := (o2i_none (o := some j) (fun j' h' => by cases h'; omega)).mp z; cases this)]
            show h_b1 (k_aI ms 8 (nI i)) (fun x6 => h_b1 (k_aI ms 8 (nI j)) fun x7 => if x6 ≤ x7 then pg_X10_best_8 n ms (nI s) ep (nI j) (nI (i + 1)) else pg_X10_best_8 n ms (nI s) ep (nI i) (nI (i + 1))) = _
            rw [k_aI_nI (show i < k_len 8 by show i < 128; omega), k_aI_nI (show j < k_len 8 by show j < 128; omega)]
            show (if ms.2.1 8 i ≤ ms.2.1 8 j then pg_X10_best_8 n ms (nI s) ep (nI j) (nI (i + 1)) else pg_X10_best_8 n ms (nI s) ep (nI i) (nI (i + 1))) = _
            by_cases h3 : ms.2.1 8 i ≤ ms.2.1 8 j
            · rw [if_pos h3]; simp only [h3, if_true]; rfl
            · rw [if_neg h3]; simp only [h3, if_false]; rfl) 16 h_hN (16 * s) none (fun j h => by cases h) rfl (h_hN_lt (by omega))
  rw [nI_m16]
  exact key
theorem bestE_spec (ms : MS) (ep : Int32) (s : Nat) (hs : s < 8) (hL : ∀ k, k < 128 → Ln (ms.2.1 8 k)) : (∀ j, bestE ms ep s = some j → (16 * s ≤ j ∧ j < 16 * s + 16) ∧ hitE ms ep j = true ∧ ∀ k, 16 * s ≤ k → k < 16 * s + 16 → hitE ms ep k = true → ln (ms.2.1 8 k) ≤ ln (ms.2.1 8 j)) ∧ (bestE ms ep s = none → ∀ k, 16 * s ≤ k → k < 16 * s + 16 → hitE ms ep k = false) := by
  have inv := fo_inv (step := bstE ms ep) (c := 16) (i := 16 * s) (s := none) (fun i o => i ≤ 16 * s + 16 → (∀ j, o = some j → (16 * s ≤ j ∧ j < i) ∧ hitE ms ep j = true ∧ ∀ k, 16 * s ≤ k → k < i → hitE ms ep k = true → ln (ms.2.1 8 k) ≤ ln (ms.2.1 8 j)) ∧ (o = none → ∀ k, 16 * s ≤ k → k < i → hitE ms ep k = false))
    (fun i o h1 h2 ih _ => by
      obtain ⟨ih1, ih2⟩ := ih (by omega)
      unfold bstE
      by_cases h : hitE ms ep i = true
      · rw [if_pos h]
        cases o with
        | none =>
          refine ⟨fun j hj => ?_, fun z => by cases z⟩
          cases hj
          refine ⟨⟨h1, by omega⟩, h, fun k k1 k2 k3 => ?_⟩
          by_cases e : k = i
          · rw [e]; exact Nat.le_refl _
          · rw [ih2 rfl k k1 (by omega)] at k3; cases k3
        | some j' =>
          obtain ⟨⟨a1, a2⟩, a3, a4⟩ := ih1 j' rfl
          dsimp only
          by_cases h3 : ms.2.1 8 i ≤ ms.2.1 8 j'
          · rw [if_pos h3]
            refine ⟨fun j hj => ?_, fun z => by cases z⟩
            cases hj
            refine ⟨⟨a1, by omega⟩, a3, fun k k1 k2 k3 => ?_⟩
            by_cases e : k = i
            · rw [e]; exact (Ln_le (hL i (by omega)) (hL j' (by omega))).mp h3
            · exact a4 k k1 (by omega) k3
          · rw [if_neg h3]
            refine ⟨fun j hj => ?_, fun z => by cases z⟩
            cases hj
            refine ⟨⟨h1, by omega⟩, h, fun k k1 k2 k3 => ?_⟩
            by_cases e : k = i
            · rw [e]; exact Nat.le_refl _
            · have b1 := a4 k k1 (by omega) k3
              have b2 : ¬ ln (ms.2.1 8 i) ≤ ln (ms.2.1 8 j') := fun z => h3 ((Ln_le (hL i (by omega)) (hL j' (by omega))).mpr z)
              omega
      · rw [if_neg h]
        have hf : hitE ms ep i = false := by simpa using h
        refine ⟨fun j hj => ?_, fun z k k1 k2 => ?_⟩
        · obtain ⟨⟨a1, a2⟩, a3, a4⟩ := ih1 j hj
          refine ⟨⟨a1, by omega⟩, a3, fun k k1 k2 k3 => ?_⟩
          by_cases e : k = i
          · rw [e, hf] at k3; cases k3
          · exact a4 k k1 (by omega) k3
        · by_cases e : k = i
          · rw [e]; exact hf
          · exact ih2 z k k1 (by omega))
    (fun _ => ⟨(fun j h => nomatch h), (fun _ k k1 k2 => by omega)⟩)
  exact inv (by omega)
