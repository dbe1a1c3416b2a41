/-! ENTRIES: the best one, the piece round an endpoint -/
section EN3
variable {fx : Bool} {σ σ' : HS} {x : Nat} {G : Nat → Nat → Nat} {ms ms' : MS}
/-- r is, on the one side, what bo is on the other -/
def bRel (σ : HS) (e : Nat) (ms : MS) (i : Nat) (r bo : Option Nat) : Prop := match bo with
  | none => r = none
  | some k => (16 * i ≤ k ∧ k < 16 * i + 16) ∧ liveE ms k = true ∧ ∃ j a, r = some a ∧ at_ σ e (ms.1 1) j a ∧ eV σ a = eMv ms k
theorem hit_ag {ep : Int32} {k : Nat} (hL : Ln (ms.2.1 8 k)) : hitE ms ep k = (liveE ms k && ag (ln (eMv ms k).2.1) ep (eMv ms k).1) := by
  unfold hitE
  rw [ag_comm (Ln_nI hL).2]
  rfl
theorem c_best {i : Nat} (hi : i < 8) (I : SvR σ G ms i) (U : UE ms i) (hL : ∀ k, k < 128 → Ln (ms.2.1 8 k)) (ep : Int32) : ∃ r, f_X6_best σ (some (G 0 i)) ep (ms.1 1) = some (r, σ) ∧ bRel σ (G 1 i) ms i r (bestE ms ep i) := by
  obtain ⟨o, r1, r2⟩ := g_best I ep 16 h_hN 0 none rfl (h_hN_lt (by decide)) (fun j' a' h _ => absurd h (Nat.not_lt_zero _))
  refine ⟨o, r1, ?_⟩
  obtain ⟨b1, b2⟩ := bestE_spec ms ep i hi hL
  cases hb : bestE ms ep i with
  | none =>
    show o = none
    cases o with
    | none => rfl
    | some a =>
      obtain ⟨⟨j0, -, h1⟩, h2, -⟩ := r2
      obtain ⟨k, k1, k2, k3⟩ := ent_to I h1
      have := b2 hb k k1.1 k1.2
      rw [hit_ag (hL k (by omega)), k2, k3, h2] at this
      cases this
  | some k =>
    obtain ⟨g1, g2, g3⟩ := b1 k hb
    rw [hit_ag (hL k (by omega))] at g2
    obtain ⟨g4, g5⟩ := (Bool.and_eq_true _ _).mp g2
    obtain ⟨j1, a1, q1, q2⟩ := ent_of I g1 g4
    refine ⟨g1, g4, ?_⟩
    cases o with
    | none =>
      have := r2 j1 a1 (by have := q1.1; omega) q1
      rw [q2, g5] at this
      cases this
    | some a =>
      obtain ⟨⟨j0, -, h1⟩, h2, h3⟩ := r2
      obtain ⟨k2, l1, l2, l3⟩ := ent_to I h1
      have hle := h3 j1 a1 (by have := q1.1; omega) q1 (by rw [q2]; exact g5)
      have hle2 := g3 k2 l1.1 l1.2 (by rw [hit_ag (hL k2 (by omega)), l2, l3, h2]; rfl)
      obtain ⟨-, p, b, n, -, w2, w3, w4, -⟩ := ent_px I h1
      obtain ⟨-, p', b', n', -, y2, y3, y4, -⟩ := ent_px I q1
      have e8 : ms.2.1 8 k = nI n' := by rw [← y4, q2]; rfl
      have e82 : ms.2.1 8 k2 = nI n := by rw [← w4, ← l3]; rfl
      rw [e8, e82, ln_nI w2.2.2.2.1, ln_nI y2.2.2.2.1] at hle2
      rw [w4, y4] at hle
      have hge : n' ≤ n := Nat.le_of_not_lt (fun z => absurd hle (nI_ge z (by have := y2.2.2.2.1; omega)))
      have en : n = n' := by omega
      have hb2 : b = b' := by
        refine vb_eq w2.2.2.2.1 w2.2.2.2.2 (by rw [en]; exact y2.2.2.2.2) ?_
        have s1 : ag n ep b = true := by rw [w3, w4, ln_nI w2.2.2.2.1] at h2; exact h2
        have s2 : ag n ep b' = true := by
          rw [← q2, y3, y4, ln_nI y2.2.2.2.1] at g5
          rw [en]; exact g5
        exact ag_trans w2.2.2.2.1 (ag_symm w2.2.2.2.1 s1) s2
      have e7 : ms.2.1 7 k = b' := by rw [← y3, q2]; rfl
      have e72 : ms.2.1 7 k2 = b := by rw [← w3, ← l3]; rfl
      have ek : k2 = k := U k2 k l1.1 l1.2 g1.1 g1.2 l2 g4 (by rw [e72, e7, hb2]) (by rw [e82, e8, en])
      exact ⟨j0, a, rfl, h1, by rw [← l3, ek]⟩
/-- another entry lies round the endpoint -/
theorem c_other {i : Nat} (hi : i < 8) (I : SvR σ G ms i) (U : UE ms i) (hL : ∀ k, k < 128 → Ln (ms.2.1 8 k)) {n : Nat} (hn : n ≤ 32) (ep : Int32) {r bo : Option Nat} (hr : bRel σ (G 1 i) ms i r bo) : f_X6_hasOtherRound σ (some (G 0 i)) ep (nI n) r (ms.1 1) = some (b2i (ff (inE ms ep n bo) (16 * i) 16).isSome, σ) := by
  have key : ∀ (c m j : Nat), j + c = 16 → c < m → (g_X6_hasOtherRound_3 m σ (some (G 0 i)) ep (nI n) r (ms.1 1) (nI j) = some (0, σ) ∧ ∀ j' a, j ≤ j' → at_ σ (G 1 i) (ms.1 1) j' a → some a = r ∨ (decide (n ≤ ln (eV σ a).2.1) && ag n (eV σ a).1 ep) = false) ∨ (g_X6_hasOtherRound_3 m σ (some (G 0 i)) ep (nI n) r (ms.1 1) (nI j) = some (1, σ) ∧ ∃ j' a, at_ σ (G 1 i) (ms.1 1) j' a ∧ ¬ some a = r ∧ (decide (n ≤ ln (eV σ a).2.1) && ag n (eV σ a).1 ep) = true) := by
    intro c
    induction c with
    | zero =>
      intro m j hj hm
      obtain ⟨m', rfl⟩ : ∃ m', m = m' + 1 := ⟨m - 1, by omega⟩
      have : j = 16 := by omega
      subst this
      refine Or.inl ⟨by rw [g_X6_hasOtherRound_3, if_pos (show (16 : Int32) ≤ nI 16 by decide)], fun j' a h1 h2 => ?_⟩
      have := h2.1
      omega
    | succ c ih =>
      intro m j hj hm
      obtain ⟨m', rfl⟩ : ∃ m', m = m' + 1 := ⟨m - 1, by omega⟩
      have hlt : ¬ (16 : Int32) ≤ nI j := fun z => absurd (nI_lt (a := j) (b := 16) (by omega) (by decide)) (Int32.not_lt.mpr z)
      have go : ∀ {y}, g_X6_hasOtherRound_3 (m' + 1) σ (some (G 0 i)) ep (nI n) r (ms.1 1) (nI j) = y → g_X6_hasOtherRound_3 m' σ (some (G 0 i)) ep (nI n) r (ms.1 1) (nI (j + 1)) = y → (∀ a, at_ σ (G 1 i) (ms.1 1) j a → some a = r ∨ (decide (n ≤ ln (eV σ a).2.1) && ag n (eV σ a).1 ep) = false) → (g_X6_hasOtherRound_3 (m' + 1) σ (some (G 0 i)) ep (nI n) r (ms.1 1) (nI j) = some (0, σ) ∧ ∀ j' a, j ≤ j' → at_ σ (G 1 i) (ms.1 1) j' a → some a = r ∨ (decide (n ≤ ln (eV σ a).2.1) && ag n (eV σ a).1 ep) = false) ∨ (g_X6_hasOtherRound_3 (m' + 1) σ (some (G 0 i)) ep (nI n) r (ms.1 1) (nI j) = some (1, σ) ∧ ∃ j' a, at_ σ (G 1 i) (ms.1 1) j' a ∧ ¬ some a = r ∧ (decide (n ≤ ln (eV σ a).2.1) && ag n (eV σ a).1 ep) = true) := by
        intro y e1 e2 hno
        rcases ih m' (j + 1) (by omega) (by omega) with ⟨h1, h2⟩ | ⟨h1, h2⟩
        · refine Or.inl ⟨by rw [e1, ← e2, h1], fun j' a h3 h4 => ?_⟩
          by_cases e : j' = j
          · rw [e] at h4; exact hno a h4
          · exact h2 j' a (by omega) h4
        · exact Or.inr ⟨by rw [e1, ← e2, h1], h2⟩
      rcases live_at I (show j < 16 by omega) (ms.1 1) with ⟨l1, l2⟩ | ⟨l1, a, l2⟩
      · exact go (by rw [g_X6_hasOtherRound_3, if_neg hlt, rcv_s I.1, h_b1_s, l1, h_bd_s, if_pos rfl, nI_c1]) rfl (fun a h => absurd h (l2 a))
      · obtain ⟨t1, p, b, q, q1, q2, q3, q4, q5, q6⟩ := ent_px I l2
        have uq : ∀ a', at_ σ (G 1 i) (ms.1 1) j a' → a' = a := fun a' z => Option.some.inj (z.2.1.symm.trans l2.2.1)
        have hlr : f_X4_liesRound σ (some p) ep (nI n) = some (b2i (decide (n ≤ ln (eV σ a).2.1) && ag n (eV σ a).1 ep), σ) := by rw [liesRound_eq q2 ep hn, q3, q4, ln_nI q2.2.2.2.1]
        by_cases hra : some a = r
        · exact go (by rw [g_X6_hasOtherRound_3, if_neg hlt, rcv_s I.1, h_b1_s, l1, h_bd_s, if_neg (by decide), q5, h_b1_s, q6, h_b1_s, if_pos hra, nI_c1]) rfl (fun a' h => by rw [uq a' h]; exact Or.inl hra)
        · cases hc : (decide (n ≤ ln (eV σ a).2.1) && ag n (eV σ a).1 ep) with
          | false =>
            rw [hc] at hlr
            exact go (by rw [g_X6_hasOtherRound_3, if_neg hlt, rcv_s I.1, h_b1_s, l1, h_bd_s, if_neg (by decide), q5, h_b1_s, q6, h_b1_s, if_neg hra, h_b1_s, q6, h_b1_s, q1, h_b1_s, rcv_s q2.1, h_b1_s, hlr, h_bd_s, if_pos (by rfl), nI_c1]) rfl (fun a' h => by rw [uq a' h]; exact Or.inr hc)
          | true =>
            rw [hc] at hlr
            exact Or.inr ⟨by rw [g_X6_hasOtherRound_3, if_neg hlt, rcv_s I.1, h_b1_s, l1, h_bd_s, if_neg (by decide), q5, h_b1_s, q6, h_b1_s, if_neg hra, h_b1_s, q6, h_b1_s, q1, h_b1_s, rcv_s q2.1, h_b1_s, hlr, h_bd_s, if_neg (by decide)], j, a, l2, hra, hc⟩
  have hagc : ∀ k, k < 128 → (decide (n ≤ ln (ms.2.1 8 k)) && ag n ep (ms.2.1 7 k)) = (decide (n ≤ ln (eMv ms k).2.1) && ag n (eMv ms k).1 ep) := fun k _ => by rw [ag_comm (a := ep) hn]; rfl
  rcases key 16 h_hN 0 rfl (h_hN_lt (by decide)) with ⟨h1, h2⟩ | ⟨h1, j, a, h2, h3, h4⟩
  · have : ff (inE ms ep n bo) (16 * i) 16 = none := ff_none.mpr (fun k k1 k2 => by
      unfold inE
      cases hl : liveE ms k with
      | false => simp
      | true =>
        obtain ⟨j, a, q1, q2⟩ := ent_of I ⟨k1, k2⟩ hl
        rw [hagc k (by omega), ← q2]
        rcases h2 j a (Nat.zero_le _) q1 with e | e
        · have : bo = some k := by
            cases bo with
            | none =>
              have hr' : r = none := hr
              rw [hr'] at e
              cases e
            | some k0 =>
              obtain ⟨w1, w2, j0, a0, w3, w4, w5⟩ := hr
              rw [w3] at e
              have ea := Option.some.inj e
              have : eMv ms k = eMv ms k0 := by rw [← q2, ← w5, ea]
              rw [U k k0 k1 k2 w1.1 w1.2 hl w2 (congrArg (fun q => q.1) this) (congrArg (fun q => q.2.1) this)]
          rw [decide_eq_true this]
          rfl
        · rw [e]
          simp)
    rw [this]
    exact h1
  · have : (ff (inE ms ep n bo) (16 * i) 16).isSome = true := by
      obtain ⟨k, k1, k2, k3⟩ := ent_to I h2
      refine ff_isSome.mpr ⟨k, k1.1, k1.2, ?_⟩
      unfold inE
      rw [hagc k (by omega), k3, h4, k2]
      have : ¬ bo = some k := fun z => by
        rw [z] at hr
        obtain ⟨w1, w2, j0, a0, w3, w4, w5⟩ := hr
        have ej := ent_uq I U h2 w4 (by rw [← k3, w5]) (by rw [← k3, w5])
        subst ej
        have : a = a0 := Option.some.inj (h2.2.1.symm.trans w4.2.1)
        exact h3 (by rw [this, w3])
      rw [decide_eq_false this]
      rfl
    rw [this]
    exact h1
theorem c_round (B : N0 σ x) (hz : x + 1 ≤ h_cz σ) (hs : h_sl σ + 2 ≤ h_ck σ) (ep : Int32) {n : Nat} (hn : n ≤ 32) : f_X4_round σ ep (nI n) = some (some (x + 0), rpl x (pSp (ep &&& mk n) (nI n) 0 0) σ) := by
  have e1 : h_mk σ 5 2 = some (some (x + 0), rpl x [(0, 5, 0, 2, 0)] σ) := E_mk B (l := []) (l' := [(0, 5, 0, 2, 0)]) (c := 0) (w := 0) rfl rfl rfl (by omega) (by omega)
  unfold f_X4_round
  rw [e1, h_bd_s, mask_eq _ hn, h_bd_s, E_rcv B (l := [(0, 5, 0, 2, 0)]) (off := 0) (t := 5) rfl, h_b1_s]
  unfold f_X4_init
  rw [h_b1_s, E_pI B (l := [(0, 5, 0, 2, 0)]) (l' := [(2, 0, 0, 0, ep &&& mk n), (0, 5, 0, 2, 0)]) (off := 0) (t := 5) (k := 0) (v := ep &&& mk n) rfl rfl, h_b1_s, E_pI B (l := [(2, 0, 0, 0, ep &&& mk n), (0, 5, 0, 2, 0)]) (l' := [(2, 0, 1, 0, nI n), (2, 0, 0, 0, ep &&& mk n), (0, 5, 0, 2, 0)]) (off := 0) (t := 5) (k := 1) (v := nI n) rfl rfl, h_b1_s, h_bd_s]
  rfl
/-- the piece -/
theorem c_pie {i : Nat} (P : Rep fx σ x G ms) (Tt : Tr ms) (hi : i < 8) (hpr : pr ms i) (U : UE ms i) (hL : ∀ k, k < 128 → Ln (ms.2.1 8 k)) (hz : h_sz σ + 1 ≤ h_cz σ) (hs : h_sl σ + 2 ≤ h_ck σ) (ep : Int32) {r bo : Option Nat} (hr : bRel σ (G 1 i) ms i r bo) : ∀ (c m l : Nat), l + c = 32 → c < m → crowd ms i ep 32 bo = false → ∃ L, L ≤ 32 ∧ ff (fun n => !crowd ms i ep n bo) l (33 - l) = some L ∧ g_X8_piece_23 m σ (some (x + 1)) (some (G 0 i)) r ep (ms.1 1) (nI l) = some (some (h_sz σ + 0), rpl (h_sz σ) (pSp (ep &&& mk L) (nI L) 0 0) σ)
  | 0, 0, l, _, h, _ => absurd h (Nat.lt_irrefl 0)
  | c + 1, 0, l, _, h, _ => absurd h (Nat.not_lt_zero _)
  | 0, m + 1, l, hl, _, hcr => by
    have : l = 32 := by omega
    subst this
    refine ⟨32, by omega, ?_, ?_⟩
    · show (if (!crowd ms i ep 32 bo) = true then some 32 else ff _ 33 0) = some 32
      rw [hcr]; rfl
    · rw [g_X8_piece_23, if_pos (show (32 : Int32) ≤ nI 32 by decide), c_round P.n0 hz hs ep (by omega), h_bd_s]
  | c + 1, m + 1, l, hl, hm, hcr => by
    obtain ⟨-, I⟩ := (P.2.2.2.2.2.2.1.2.2 i hi).2 hpr
    have h1 := c_other hi I U hL (n := l) (by omega) ep hr
    have h2 := c_childRound P.2.1 P.2.2.2.2.2.2.1 Tt hi hpr (n := l) (by omega) ep
    have hlt : ¬ (32 : Int32) ≤ nI l := fun z => absurd (nI_lt (a := l) (b := 32) (by omega) (by decide)) (Int32.not_lt.mpr z)
    have hff : ff (fun n => !crowd ms i ep n bo) l (33 - l) = if (!crowd ms i ep l bo) = true then some l else ff (fun n => !crowd ms i ep n bo) (l + 1) (33 - (l + 1)) := by
      rw [show 33 - l = (33 - (l + 1)) + 1 by omega]
      rfl
    rw [hff]
    have hcd : crowd ms i ep l bo = ((ff (inE ms ep l bo) (16 * i) 16).isSome || (ff (inC ms i ep l) 0 8).isSome) := rfl
    cases he : (ff (inE ms ep l bo) (16 * i) 16).isSome with
    | true =>
      rw [he] at h1 hcd
      obtain ⟨L, L1, L2, L3⟩ := c_pie P Tt hi hpr U hL hz hs ep hr c m (l + 1) (by omega) (by omega) hcr
      refine ⟨L, L1, by rw [hcd, Bool.true_or, if_neg (by decide), L2], ?_⟩
      rw [g_X8_piece_23, if_neg hlt, rcv_s I.1, h_b1_s, h1, h_bd_s, if_neg (by decide), nI_c1, L3]
    | false =>
      rw [he] at h1 hcd
      cases hc : (ff (inC ms i ep l) 0 8).isSome with
      | true =>
        rw [hc] at h2 hcd
        obtain ⟨L, L1, L2, L3⟩ := c_pie P Tt hi hpr U hL hz hs ep hr c m (l + 1) (by omega) (by omega) hcr
        refine ⟨L, L1, by rw [hcd, Bool.false_or, if_neg (by decide), L2], ?_⟩
        rw [g_X8_piece_23, if_neg hlt, rcv_s I.1, h_b1_s, h1, h_bd_s, if_pos (by rfl), rcv_s P.2.1.2.2.1.1, h_b1_s, h2, h_bd_s, if_neg (by decide), nI_c1, L3]
      | false =>
        rw [hc] at h2 hcd
        refine ⟨l, by omega, by rw [hcd, Bool.false_or, if_pos (by rfl)], ?_⟩
        rw [g_X8_piece_23, if_neg hlt, rcv_s I.1, h_b1_s, h1, h_bd_s, if_pos (by rfl), rcv_s P.2.1.2.2.1.1, h_b1_s, h2, h_bd_s, if_pos (by rfl), c_round P.n0 hz hs ep (by omega), h_bd_s]
end EN3
