/-! A NEW OBJECT AND ITS REFERENCE: the two sides at the start -/
theorem m0_1 : ∀ k, k < 43 → ms0.1 k = if k = 2 then 1 else 0 := by decide +kernel
theorem m0_3 : ∀ i, i < 8 → ms0.2.1 3 i = if i = 0 then 1 else 0 := by decide +kernel
theorem m0_4 : ∀ i, i < 8 → ms0.2.1 4 i = 0 := by decide +kernel
theorem m0_5 : ∀ i, i < 8 → ms0.2.1 5 i = 0 := by decide +kernel
theorem m0_6 : ∀ i, i < 8 → ms0.2.1 6 i = -1 := by decide +kernel
theorem m0_8 : ∀ i, i < 128 → ms0.2.1 8 i = 0 := by decide +kernel
theorem m0_12 : ∀ i, i < 128 → ms0.2.1 12 i = 0 := by decide +kernel
theorem m0_14 : ∀ i, i < 8 → ms0.2.1 14 i = -1 := by decide +kernel
theorem m0_15 : ∀ i, i < 8 → ms0.2.1 15 i = 0 := by decide +kernel
theorem m0_17 : ∀ i, i < 32 → ms0.2.1 17 i = 0 := by decide +kernel
theorem m0_20 : ∀ i, i < 48 → ms0.2.1 20 i = 0 := by decide +kernel
theorem m0_23 : ∀ i, i < 48 → ms0.2.1 23 i = 0 := by decide +kernel
theorem m0_26 : ∀ i, i < 16 → ms0.2.1 26 i = -1 := by decide +kernel
theorem m0_L : ∀ i, i < 64 → ms0.2.2 i = -3000000000 := by decide +kernel
theorem Ln_0 : Ln 0 := ⟨0, by decide, rfl⟩
theorem m0_pr {i : Nat} (hi : i < 8) : pr ms0 i ↔ i = 0 := by
  unfold pr
  rw [m0_3 i hi]
  by_cases h : i = 0
  · rw [if_pos h]; exact ⟨fun _ => h, fun _ => by decide⟩
  · rw [if_neg h]; exact ⟨fun z => absurd rfl z, fun z => absurd z h⟩
theorem m0_ch {c p : Nat} (hp : p < 8) : ¬ ch ms0 c p := by
  intro h
  have h1 := h.2
  rw [m0_6 c h.1] at h1
  exact nI_ne_m1 (by omega) h1.symm
theorem Tr_0 : Tr ms0 := by
  refine ⟨⟨(m0_pr (by decide)).mpr rfl, m0_4 0 (by decide), m0_5 0 (by decide)⟩, fun s hs => by rw [m0_5 s hs]; exact Ln_0, fun s hs _ => ?_, fun s hs _ => m0_6 s hs, fun c p hp h => absurd h (m0_ch hp), fun s b hs hb hne h1 h2 _ => absurd (((m0_pr hs).mp h1).trans ((m0_pr hb).mp h2).symm) hne, fun c c' p hp h => absurd h (m0_ch hp)⟩
  unfold pL pB
  rw [m0_5 s hs, m0_4 s hs]
  decide
theorem MI_0 : MI ms0 := by
  refine ⟨⟨0, by decide, m0_1 36 (by decide)⟩, ⟨0, by decide, m0_1 28 (by decide)⟩, fun k hk => by rw [m0_5 k hk]; exact Ln_0, fun k hk => by rw [m0_8 k hk]; exact Ln_0, fun k hk => by rw [m0_17 k hk]; exact Ln_0, fun k hk => by rw [m0_20 k hk]; exact Ln_0, fun s hs => ⟨0, m0_15 s hs, by decide⟩, fun s hs => Or.inl (m0_14 s hs), fun p hp => Or.inl (m0_26 p hp)⟩
abbrev oLy : List Op := (0, 11, 0, 43, 0) :: oLx
def FT (σ : HS) (x : Nat) : Prop := ∀ off, off < 15 → h_tg σ (x + off) = tgL off oLy ∧ h_ln σ (x + off) = lnL off oLy ∧ ∀ j, h_iv σ (x + off) j = ivL off j oLy ∧ h_rv σ (x + off) j = (rvL off j oLy).map (x + ·) ∧ h_lv σ (x + off) j = lvL off j oLy
/-- where the parts of server 0 lie -/
def nG (x : Nat) : Nat → Nat → Nat := fun k _ => if k = 0 then x + 3 else if k = 1 then x + 5 else x + 6
theorem eL_nil {now : Int32} {f : Nat → Option E6} : ∀ (c i : Nat), (∀ j, i ≤ j → j < i + c → ∀ q, f j = some q → ¬ now < q.2.2.2.2.2) → eL now f i c = []
  | 0, i, _ => rfl
  | c + 1, i, h => by
    unfold eL
    have ih := eL_nil c (i + 1) (fun j h1 h2 => h j (by omega) (by omega))
    cases hf : f i with
    | none => exact ih
    | some q =>
      show (if now < q.2.2.2.2.2 then q :: eL now f (i + 1) c else eL now f (i + 1) c) = []
      rw [if_neg (h i (Nat.le_refl i) (by omega) q hf)]
      exact ih
set_option maxRecDepth 100000 in
theorem Rep_new {fx : Bool} {σ : HS} {x : Nat} (F : FT σ x) (Z : Zx σ x) : Rep fx σ x (nG x) ms0 := by
  have t : ∀ off n, off < 15 → tgL off oLy = n → h_tg σ (x + off) = n := fun off n h e => (F off h).1.trans e
  have l : ∀ off n, off < 15 → lnL off oLy = n → h_ln σ (x + off) = n := fun off n h e => (F off h).2.1.trans e
  have r : ∀ off j q, off < 15 → rvL off j oLy = some q → h_rv σ (x + off) j = some (x + q) := fun off j q h e => by rw [((F off h).2.2 j).2.1, e]; rfl
  have r0 : ∀ off j, off < 15 → rvL off j oLy = none → h_rv σ (x + off) j = none := fun off j h e => by rw [((F off h).2.2 j).2.1, e]; rfl
  have v : ∀ off j q, off < 15 → ivL off j oLy = q → h_iv σ (x + off) j = q := fun off j q h e => ((F off h).2.2 j).1.trans e
  have g : ∀ off j q, off < 15 → lvL off j oLy = q → h_lv σ (x + off) j = q := fun off j q h e => ((F off h).2.2 j).2.2.trans e
  refine ⟨Z, ?_, ?_, ?_, ?_, ?_, ?_, ?_⟩
  · exact ⟨t 0 10 (by decide) rfl, ⟨r 0 0 1 (by decide) rfl, r 0 1 7 (by decide) rfl, r 0 2 8 (by decide) rfl, r 0 3 9 (by decide) rfl, r 0 4 10 (by decide) rfl, r 0 5 12 (by decide) rfl, r 0 6 13 (by decide) rfl, r 0 7 14 (by decide) rfl⟩, ⟨t 1 9 (by decide) rfl, r 1 0 2 (by decide) rfl⟩, ⟨t 2 107 (by decide) rfl, l 2 8 (by decide) rfl⟩, ⟨t 7 108 (by decide) rfl, l 7 8 (by decide) rfl⟩, ⟨t 8 100 (by decide) rfl, l 8 16 (by decide) rfl⟩, ⟨t 9 100 (by decide) rfl, l 9 16 (by decide) rfl⟩, ⟨t 10 6 (by decide) rfl, r 10 0 11 (by decide) rfl⟩, ⟨t 11 100 (by decide) rfl, l 11 1600 (by decide) rfl⟩, ⟨t 12 100 (by decide) rfl, l 12 8 (by decide) rfl⟩, ⟨t 13 100 (by decide) rfl, l 13 6 (by decide) rfl⟩, ⟨t 14 105 (by decide) rfl, l 14 200 (by decide) rfl⟩⟩
  · exact ⟨(v 0 8 0 (by decide) rfl).trans (m0_1 28 (by decide)).symm, (v 0 9 0 (by decide) rfl).trans (m0_1 1 (by decide)).symm, (v 0 10 1 (by decide) rfl).trans (m0_1 2 (by decide)).symm, (v 0 11 0 (by decide) rfl).trans (m0_1 39 (by decide)).symm, (v 0 12 0 (by decide) rfl).trans (m0_1 40 (by decide)).symm, (v 0 13 0 (by decide) rfl).trans (m0_1 41 (by decide)).symm⟩
  · exact ⟨0, 0, by decide, by decide, v 10 1 0 (by decide) rfl, v 10 2 0 (by decide) rfl, m0_1 36 (by decide), (v 10 3 0 (by decide) rfl).trans (m0_1 42 (by decide)).symm, fun q j hq _ => absurd hq (Nat.not_lt_zero q)⟩
  · intro p hp
    refine ⟨?_, fun h => absurd (m0_26 p hp) h⟩
    rw [m0_26 p hp]
    exact v 8 p (-1) (by decide) ((show ∀ p, p < 16 → ivL 8 p oLy = -1 by decide +kernel) p hp)
  · exact ⟨0, by decide, m0_1 28 (by decide), fun i j hi => absurd hi (Nat.not_lt_zero i), fun i hi => absurd hi (Nat.not_lt_zero i)⟩
  · refine ⟨fun i j hi hj h1 h2 _ => ((m0_pr hi).mp h1).trans ((m0_pr hj).mp h2).symm, fun i hi h1 => Or.inl (show x + 6 < x + 15 by omega), fun i hi => ⟨fun h => ?_, fun h => ?_⟩⟩
    · have hi0 : i ≠ 0 := fun e => by rw [m0_3 i hi, if_pos e] at h; exact absurd h (by decide)
      exact r0 2 i (by decide) ((show ∀ i, i < 8 → i ≠ 0 → rvL 2 i oLy = none by decide +kernel) i hi hi0)
    · have hi0 := (m0_pr hi).mp h
      subst hi0
      refine ⟨r 2 0 3 (by decide) rfl, t 3 7 (by decide) rfl, v 3 0 0 (by decide) rfl, (v 3 1 (-1) (by decide) rfl).trans (m0_6 0 (by decide)).symm, ⟨x + 4, r 3 2 4 (by decide) rfl, ?_⟩, ⟨r 3 3 5 (by decide) rfl, t 5 103 (by decide) rfl, l 5 16 (by decide) rfl⟩, ⟨r 3 4 6 (by decide) rfl, t 6 101 (by decide) rfl, l 6 8 (by decide) rfl⟩, fun s hs => ?_, fun j hj a ha => ?_, ?_⟩
      · unfold pB pL
        rw [m0_4 0 (by decide), m0_5 0 (by decide)]
        exact ⟨t 4 5 (by decide) rfl, v 4 0 0 (by decide) rfl, v 4 1 0 (by decide) rfl, by decide, by decide⟩
      · rw [m0_L (8 * 0 + s) (by omega)]
        exact Or.inl ⟨g 6 s _ (by decide) ((show ∀ s, s < 8 → lvL 6 s oLy = -9223372036854775808 by decide +kernel) s hs), rfl⟩
      · have : h_rv σ (x + 5) j = none := r0 5 j (by decide) ((show ∀ j, j < 16 → rvL 5 j oLy = none by decide +kernel) j hj)
        have ha' : h_rv σ (x + 5) j = some a := ha
        rw [this] at ha'
        cases ha'
      · rw [eL_nil, eL_nil]
        · intro j _ hj q hq
          have hq' := Option.some.inj hq
          rw [← hq', m0_12 j (by omega), m0_1 1 (by decide)]
          show ¬ (0 : Int32) < 0
          decide
        · intro j _ hj q hq
          have : h_rv σ (x + 5) j = none := r0 5 j (by decide) ((show ∀ j, j < 16 → rvL 5 j oLy = none by decide +kernel) j (by omega))
          have hq' : (h_rv σ (x + 5) j).map (eV σ) = some q := hq
          rw [this] at hq'
          cases hq'
  · refine ⟨fun i j hi _ h => absurd (m0_14 i hi) h, fun s hs => ⟨fun _ => ?_, fun h => absurd (m0_14 s hs) h⟩⟩
    exact r0 7 s (by decide) ((show ∀ s, s < 8 → rvL 7 s oLy = none by decide +kernel) s hs)
theorem ivL_far {off k : Nat} (ho : 15 ≤ off) : ∀ l : List Op, (∀ o ∈ l, o.1 = 0 ∨ o.2.1 < 15) → ivL off k l = 0 ∧ lvL off k l = 0
  | [], _ => ⟨rfl, rfl⟩
  | o :: l, h => by
    have ih := ivL_far (k := k) ho l (fun o' h' => h o' (List.mem_cons_of_mem _ h'))
    have h1 := h o List.mem_cons_self
    unfold ivL lvL
    rw [ih.1, ih.2]
    by_cases e : o.1 = 0
    · rw [if_pos e, if_pos e]
      constructor <;> split <;> rfl
    · have h2 : ¬ o.2.1 = off := by rcases h1 with h1 | h1; exact absurd h1 e; omega
      rw [if_neg e, if_neg e, if_neg (fun z => h2 z.2.1), if_neg (fun z => h2 z.2.1)]
      exact ⟨rfl, rfl⟩
theorem kA_lt {m k : Nat} (hk : k_tag k ≠ 0) : m < kA m k ∧ kA m k < m + 34 := by
  have h43 := k_tag_lt hk
  have h2 : ∀ k, k < 43 → k_tag k ≠ 0 → (if k ≤ 24 then k - 3 else if k ≤ 27 then k - 4 else if k ≤ 35 then k - 5 else k - 6) < 33 := by decide +kernel
  have := h2 k h43 hk
  unfold kA
  omega
theorem MV.to {σ σ' : HS} {m : Nat} {A : Nat → Nat} {ms : MS} (V : MV σ m A ms) (h1 : Sm σ σ' m) (h2 : ∀ k, k_tag k ≠ 0 → Sm σ σ' (A k)) : MV σ' m A ms := by
  obtain ⟨v1, v2, v3, v4, v5, v6⟩ := V
  refine ⟨by rw [h1.1]; exact v1, fun k hk => ?_, v3, fun k hk => by rw [h1.2.2.1]; exact v4 k hk, fun k hk j => by rw [(h2 k hk).2.2.1]; exact v5 k hk j, fun j => by rw [(h2 13 (by decide)).2.2.2.2]; exact v6 j⟩
  rw [h1.2.2.2.1, (h2 k hk).1, (h2 k hk).2.1]
  exact v2 k hk
/-- which array lies at the d-th place -/
def kInv (d : Nat) : Nat := if d ≤ 21 then d + 3 else if d ≤ 23 then d + 4 else if d ≤ 30 then d + 5 else d + 6
theorem kInv_ok : ∀ d, d < 33 → (k_tag (kInv d) = 100 ∨ k_tag (kInv d) = 101 ∨ k_tag (kInv d) = 102) ∧ kA 0 (kInv d) = 1 + d := by decide +kernel
theorem kA_m (m k : Nat) : kA m k = m + kA 0 k := by unfold kA; omega
/-- what holds before the first call -/
def St (fx : Bool) (σ : HS) (x sl : Nat) : Prop := Rep fx σ x (nG x) ms0 ∧ MV σ (x + 15) (kA (x + 15)) ms0 ∧ (h_tg σ (x + 49) = 101 ∧ h_ln σ (x + 49) = 1) ∧ h_sz σ = x + 50 ∧ h_sl σ = sl + 6251 ∧ h_cz σ = h_cz (h_0 x sl) ∧ h_ck σ = h_ck (h_0 x sl)
set_option maxRecDepth 100000 in
theorem law_go_of {fx : Bool} {xs : Nat → Int32} {L x sl : Nat} (J : Nat → HS → Prop) (h0 : ∀ σ, St fx σ x sl → J 0 σ) (hJ : ∀ i σ, J i σ → i + 5 ≤ L → lc_all xs (some x) (some (x + 15)) (some (x + 49)) i σ (J (i + 5))) : law_go xs L (h_0 x sl) := by
  have B : N0 (h_0 x sl) x := ⟨rfl, fun _ _ => rfl⟩
  have hcz : h_cz (h_0 x sl) = x + 601024 := rfl
  have hck : h_ck (h_0 x sl) = sl + 7293034 := rfl
  have hsl : h_sl (h_0 x sl) = sl := rfl
  have e1 : h_mk (h_0 x sl) 10 14 = some (some (x + 0), rpl x oL1 (h_0 x sl)) := E_mk B (l := []) (l' := oL1) (c := 0) (w := 0) rfl rfl rfl (by omega) (by omega)
  have q1 : h_rcv (rpl x oL1 (h_0 x sl)) (some (x + 0)) 10 = some (x + 0) := E_rcv B rfl
  have e2 := fr_X9 B (by omega) (by omega)
  have e3 : h_mk (rpl x oLx (h_0 x sl)) 11 43 = some (some (x + 15), rpl x oLy (h_0 x sl)) := E_mk B (l := oLx) (l' := oLy) (c := 15) (w := 1912) rfl rfl rfl (by omega) (by omega)
  have q3 : h_rcv (rpl x oLy (h_0 x sl)) (some (x + 15)) 11 = some (x + 15) := E_rcv B (l := oLy) (off := 15) rfl
  have hcp : cP oLy = 16 := rfl
  have hcs : cS oLy = 1955 := rfl
  have hc3 := rpl_c (x := x) (σ := h_0 x sl) oLy
  have hl3 : h_sl (rpl x oLy (h_0 x sl)) = sl + 1955 := by rw [rpl_sl, hcs, hsl]
  obtain ⟨s4, e4, V, z4, l4, c4, k4, t4, f4⟩ := model_init (σ0 := rpl x oLy (h_0 x sl)) (m := x + 15) (by rw [rpl_sz B, hcp]) ((rpl_tg B 15 oLy).trans rfl) (fun a ha i => by
    obtain ⟨d, rfl⟩ : ∃ d, a = x + (15 + d) := ⟨a - x - 15, by omega⟩
    rw [rpl_iv B _ _ _ (Or.inr rfl), rpl_lv B _ _ _ (Or.inr rfl)]
    exact ivL_far (by omega) oLy (by decide +kernel)) (by rw [hc3.1]; omega) (by rw [hc3.2, hl3]; omega)
  have h1 : (1 : Int32).toNatClampNeg = 1 := by decide
  have e5 : h_mkA s4 101 1 = some (some (x + 49), h_push s4 101 1 1) := by
    unfold h_mkA
    rw [h1, if_pos ⟨by decide, by decide, by rw [z4, c4, hc3.1]; omega, by rw [l4, k4, hc3.2, hl3]; omega⟩, z4]
  have hne : ∀ a, a < x + 49 → Sm s4 (h_push s4 101 1 1) a := fun a ha => Sm_P (by rw [z4]; omega)
  have V5 : MV (h_push s4 101 1 1) (x + 15) (kA (x + 15)) ms0 := V.to (hne _ (by omega)) (fun k hk => hne _ (by have := kA_lt (m := x + 15) hk; omega))
  have ht9 : h_tg (h_push s4 101 1 1) (x + 49) = 101 := by
    show va_up (h_tg s4) (h_sz s4) 101 (x + 49) = 101
    rw [z4]; exact va_up_self _ _ _
  have hl9 : h_ln (h_push s4 101 1 1) (x + 49) = 1 := by
    show va_up (h_ln s4) (h_sz s4) 1 (x + 49) = 1
    rw [z4]; exact va_up_self _ _ _
  have hz5 : h_sz (h_push s4 101 1 1) = x + 50 := by
    show h_sz s4 + 1 = _
    rw [z4]
  have Z : Zx (h_push s4 101 1 1) x := by
    refine ⟨by rw [hz5]; exact Nat.le_refl _, fun a ha => ?_, fun a h1 h2 => ?_⟩
    · rw [hz5] at ha
      have e : h_tg (h_push s4 101 1 1) a = h_tg s4 a := (Sm_P (by rw [z4]; omega)).1
      obtain ⟨d, rfl⟩ : ∃ d, a = x + d := ⟨a - x, by omega⟩
      rw [e, t4 _ (by omega), rpl_tg B d oLy]
      exact tgL_far oLy (by rw [hcp]; omega)
    · by_cases g1 : a = x + 49
      · rw [g1, ht9]; exact Or.inr (Or.inr (Or.inl rfl))
      · by_cases g2 : a = x + 15
        · rw [g2]; exact Or.inl V5.1
        · obtain ⟨k1, k2⟩ := kInv_ok (a - (x + 16)) (by omega)
          have ea : kA (x + 15) (kInv (a - (x + 16))) = a := by rw [kA_m, k2]; omega
          have := (V5.2.1 (kInv (a - (x + 16))) (by rcases k1 with h | h | h <;> rw [h] <;> decide)).2.1
          rw [ea] at this
          rw [this]
          exact Or.inr k1
  have FT5 : FT (h_push s4 101 1 1) x := by
    intro off ho
    obtain ⟨a1, a2, a3, a4, a5⟩ := hne (x + off) (by omega)
    obtain ⟨b1, b2, b3⟩ := f4 (x + off) (by omega)
    refine ⟨by rw [a1, b1]; exact rpl_tg B off oLy, by rw [a2, b2]; exact rpl_ln B off oLy (Or.inr rfl), fun j => ⟨by rw [a3, (b3 j).1]; exact rpl_iv B off j oLy (Or.inr rfl), by rw [a4, (b3 j).2.1]; exact rpl_rv B off j oLy (Or.inr rfl), by rw [a5, (b3 j).2.2]; exact rpl_lv B off j oLy (Or.inr rfl)⟩⟩
  refine ⟨some x, _, e1, _, q1, _, e2, some (x + 15), _, e3, _, q3, s4, e4, some (x + 49), _, e5, J, h0 _ ⟨Rep_new FT5 Z, V5, ⟨ht9, hl9⟩, hz5, ?_, ?_, ?_⟩, hJ⟩
  · show h_sl s4 + 1 = _
    rw [l4, hl3]
  · show h_cz s4 = _
    rw [c4, hc3.1]
  · show h_ck s4 = _
    rw [k4, hc3.2]
