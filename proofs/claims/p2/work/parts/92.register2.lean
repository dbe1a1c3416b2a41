/-! A REGISTER comes: its entry -/
def eN (b l s pl no e : Int32) : List Op := (2, 1, 4, 0, e) :: (2, 1, 3, 0, no) :: (2, 1, 2, 0, pl) :: (2, 1, 1, 0, s) :: (1, 1, 0, 0, 0) :: (0, 1, 0, 5, 0) :: pSp b l 0 0
section RG2
variable {fx : Bool} {σ σ' : HS} {x : Nat} {G : Nat → Nat → Nat} {ms ms' : MS}
theorem slot_rel {i n : Nat} {b r : Int32} (I : SvR σ G ms i) (U : UE ms i) (h : (∃ j a, at_ σ (G 1 i) (ms.1 1) j a ∧ ((eV σ a).1 = b ∧ (eV σ a).2.1 = nI n) ∧ r = nI j) ∨ ((∀ j a, at_ σ (G 1 i) (ms.1 1) j a → ¬ ((eV σ a).1 = b ∧ (eV σ a).2.1 = nI n)) ∧ ((r = -1 ∧ ∀ j, j < 16 → ∃ a, at_ σ (G 1 i) (ms.1 1) j a) ∨ ∃ j, j < 16 ∧ r = nI j ∧ ∀ a, ¬ at_ σ (G 1 i) (ms.1 1) j a))) :
    (∃ j a e, r = nI j ∧ at_ σ (G 1 i) (ms.1 1) j a ∧ entF ms i b (nI n) = some e ∧ e ∈ rIx ms i ∧ eMv ms e = eV σ a) ∨ (entF ms i b (nI n) = none ∧ ((r = -1 ∧ freF ms i = none) ∨ ∃ j e, r = nI j ∧ j < 16 ∧ (∀ a, ¬ at_ σ (G 1 i) (ms.1 1) j a) ∧ freF ms i = some e ∧ (16 * i ≤ e ∧ e < 16 * i + 16) ∧ e ∉ rIx ms i)) := by
  have hlen := I.pm.length_eq
  rw [List.length_map, List.length_map] at hlen
  rcases h with ⟨j, a, h1, h2, h3⟩ | ⟨h1, h2⟩
  · obtain ⟨k, k1, k2, k3⟩ := ent_to I h1
    cases hf : entF ms i b (nI n) with
    | none =>
      have := ff_none.mp hf k k1.1 k1.2
      rw [k2, decide_eq_true (show ms.2.1 7 k = b by rw [← h2.1, ← k3]; rfl), decide_eq_true (show ms.2.1 8 k = nI n by rw [← h2.2, ← k3]; rfl)] at this
      cases this
    | some e =>
      obtain ⟨g1, g2, g3, -⟩ := ff_some.mp hf
      obtain ⟨g4, g5⟩ := (Bool.and_eq_true _ _).mp g3
      obtain ⟨g6, g7⟩ := (Bool.and_eq_true _ _).mp g5
      have ek : k = e := U k e k1.1 k1.2 g1 g2 k2 g4 (by rw [of_decide_eq_true g6, ← h2.1, ← k3]; rfl) (by rw [of_decide_eq_true g7, ← h2.2, ← k3]; rfl)
      subst ek
      exact Or.inl ⟨j, a, k, h3, h1, rfl, rIx_mem.mpr ⟨k1, k2⟩, k3⟩
  · have hno : entF ms i b (nI n) = none := by
      cases hf : entF ms i b (nI n) with
      | none => rfl
      | some e =>
        obtain ⟨g1, g2, g3, -⟩ := ff_some.mp hf
        obtain ⟨g4, g5⟩ := (Bool.and_eq_true _ _).mp g3
        obtain ⟨g6, g7⟩ := (Bool.and_eq_true _ _).mp g5
        obtain ⟨j, a, q1, q2⟩ := ent_of I ⟨g1, g2⟩ g4
        exact absurd ⟨by rw [q2]; exact of_decide_eq_true g6, by rw [q2]; exact of_decide_eq_true g7⟩ (h1 j a q1)
    refine Or.inr ⟨hno, ?_⟩
    rcases h2 with ⟨h3, h4⟩ | ⟨j, h3, h4, h5⟩
    · refine Or.inl ⟨h3, ?_⟩
      cases hf : freF ms i with
      | none => rfl
      | some e =>
        obtain ⟨g1, g2, g3, -⟩ := ff_some.mp hf
        have hlt : (rIx ms i).length < (List.range' (16 * i) 16).length := List.length_filter_lt_length_iff_exists.mpr ⟨e, by rw [List.mem_range'_1]; exact ⟨g1, g2⟩, fun z => by rw [z] at g3; cases g3⟩
        have hall : cIx σ (G 1 i) (ms.1 1) = List.range' 0 16 := List.filter_eq_self.mpr (fun j hj => by
          rw [List.mem_range'_1] at hj
          exact (List.mem_filter.mp (cIx_mem.mpr (h4 j (by omega)))).2)
        rw [hall] at hlen
        rw [List.length_range'] at hlen hlt
        omega
    · refine Or.inr ?_
      have hlt : (cIx σ (G 1 i) (ms.1 1)).length < (List.range' 0 16).length := List.length_filter_lt_length_iff_exists.mpr ⟨j, by rw [List.mem_range'_1]; omega, fun z => by
        obtain ⟨a, ha⟩ := cIx_mem.mp (List.mem_filter.mpr ⟨by rw [List.mem_range'_1]; omega, z⟩)
        exact h5 a ha⟩
      cases hf : freF ms i with
      | none =>
        have hall : rIx ms i = List.range' (16 * i) 16 := List.filter_eq_self.mpr (fun k hk => by
          rw [List.mem_range'_1] at hk
          have := ff_none.mp hf k hk.1 hk.2
          cases hl : liveE ms k with
          | true => rfl
          | false => rw [hl] at this; cases this)
        rw [hall, List.length_range'] at hlen
        rw [List.length_range'] at hlt
        omega
      | some e =>
        obtain ⟨g1, g2, g3, -⟩ := ff_some.mp hf
        exact ⟨j, e, h4, h3, h5, rfl, ⟨g1, g2⟩, fun z => by rw [(rIx_mem.mp z).2] at g3; cases g3⟩
theorem c_room {i p n : Nat} {b : Int32} (I : SvR σ G ms i) (U : UE ms i) (hp : hP σ p b n) (s : Int32) : f_X6_hasRoom σ (some (G 0 i)) (some p) s (ms.1 1) = some (b2i (slotM ms i s b (nI n)).isSome, σ) := by
  obtain ⟨r, r1, r2⟩ := c_slot I hp
  unfold f_X6_hasRoom slotM
  rw [rcv_s I.1, h_b1_s, r1, h_bd_s]
  rcases slot_rel I U r2 with ⟨j, a, e, h1, h2, h3, h4, h5⟩ | ⟨h1, ⟨h2, h3⟩ | ⟨j, e, h2, h3, h4, h5, -⟩⟩
  · obtain ⟨t1, p', b', n', q1, q2, q3, q4, q5, q6⟩ := ent_px I h2
    rcases live_at I h2.1 (ms.1 1) with ⟨-, l2⟩ | ⟨l1, -⟩
    · exact absurd h2 (l2 a)
    · have hsite : h_gI σ (some a) 1 1 = some (ms.2.1 9 e) := by rw [gI_s t1]; exact congrArg (fun q : E6 => some q.2.2.1) h5.symm
      rw [h3, h1, if_neg (nI_pos (by have := h2.1; omega)), rcv_s I.1, h_b1_s, l1, h_bd_s, if_neg (by decide), q5, h_b1_s, q6, h_b1_s, hsite, h_b1_s]
      show (if ms.2.1 9 e = s then some (1, σ) else some (0, σ)) = some (b2i (if ms.2.1 9 e = s then some e else none).isSome, σ)
      by_cases hs : ms.2.1 9 e = s
      · rw [if_pos hs, if_pos hs]; rfl
      · rw [if_neg hs, if_neg hs]; rfl
  · rw [h1, h2, if_pos (by decide)]
    show _ = some (b2i (freF ms i).isSome, σ)
    rw [h3]; rfl
  · rcases live_at I h3 (ms.1 1) with ⟨l1, -⟩ | ⟨-, a, l2⟩
    · rw [h1, h2, if_neg (nI_pos (by omega)), rcv_s I.1, h_b1_s, l1, h_bd_s, if_pos rfl]
      show _ = some (b2i (freF ms i).isSome, σ)
      rw [h5]; rfl
    · exact absurd l2 (h4 a)
/-- the numbers of a new entry -/
def setM (ms : MS) (sv e : Nat) (s : Nat) (b l pl no : Int32) : MS := aS (aS (aS (aS (aS (aS (lS ms (8 * sv + s) no.toInt64) 7 e b) 8 e l) 9 e (nI s)) 10 e pl) 11 e no) 12 e (ms.1 1 + 180)
theorem setM_k {sv e s k j : Nat} {b l pl no : Int32} (h : j ≠ e ∨ k < 7 ∨ 12 < k) : (setM ms sv e s b l pl no).2.1 k j = ms.2.1 k j := by
  unfold setM
  rcases h with h | h
  · rw [aS_j h, aS_j h, aS_j h, aS_j h, aS_j h, aS_j h]; rfl
  · rw [aS_k (by omega), aS_k (by omega), aS_k (by omega), aS_k (by omega), aS_k (by omega), aS_k (by omega)]; rfl
theorem setM_e {sv e s : Nat} {b l pl no : Int32} : eMv (setM ms sv e s b l pl no) e = (b, l, nI s, pl, no, ms.1 1 + 180) := by
  unfold eMv setM
  rw [aS_k (show 7 ≠ 12 by decide), aS_k (show 7 ≠ 11 by decide), aS_k (show 7 ≠ 10 by decide), aS_k (show 7 ≠ 9 by decide), aS_k (show 7 ≠ 8 by decide), aS_s, aS_k (show 8 ≠ 12 by decide), aS_k (show 8 ≠ 11 by decide), aS_k (show 8 ≠ 10 by decide), aS_k (show 8 ≠ 9 by decide), aS_s, aS_k (show 9 ≠ 12 by decide), aS_k (show 9 ≠ 11 by decide), aS_k (show 9 ≠ 10 by decide), aS_s, aS_k (show 10 ≠ 12 by decide), aS_k (show 10 ≠ 11 by decide), aS_s, aS_k (show 11 ≠ 12 by decide), aS_s, aS_s]
theorem setM_L {sv e s j : Nat} {b l pl no : Int32} : (setM ms sv e s b l pl no).2.2 j = if j = 8 * sv + s then no.toInt64 else ms.2.2 j := rfl
theorem setM_live {sv e s k : Nat} {b l pl no : Int32} (hl : ms.1 1 < ms.1 1 + 180) : liveE (setM ms sv e s b l pl no) k = if k = e then true else liveE ms k := by
  by_cases h : k = e
  · rw [if_pos h, h]
    have : (setM ms sv e s b l pl no).2.1 12 e = ms.1 1 + 180 := congrArg (fun q : E6 => q.2.2.2.2.2) setM_e
    unfold liveE
    rw [this]
    exact decide_eq_true hl
  · rw [if_neg h]
    unfold liveE
    rw [setM_k (Or.inl h)]
    rfl
/-- an entry is kept -/
theorem a_keep (P : Rep fx σ x G ms) {i s p n a1 : Nat} {b pl no : Int32} (hi : i < 8) (hpr : pr ms i) (U : UE ms i) (hs : s < 8) {t : Nat} (ht : ms.1 1 = nI t) (ht2 : t ≤ 1000000) (hp : hP σ p b n) (ha : h_tg σ a1 = 1) (hap : h_rv σ a1 0 = some p) (hv1 : h_iv σ a1 1 = nI s) (hv2 : h_iv σ a1 2 = pl) (hv3 : h_iv σ a1 3 = no) (hv4 : h_iv σ a1 4 = ms.1 1 + 180) {e : Nat} (hsl : slotM ms i (nI s) b (nI n) = some e) :
    ∃ σ', f_X6_keep σ (some (G 0 i)) (some a1) (ms.1 1) = some ((), σ') ∧ Rep fx σ' x G (setM ms i e s b (nI n) pl no) ∧ Kq x 0 0 σ σ' := by
  obtain ⟨-, I⟩ := (P.2.2.2.2.2.2.1.2.2 i hi).2 hpr
  obtain ⟨r, r1, r2⟩ := c_slot I hp
  have h180 : ms.1 1 < ms.1 1 + 180 := by
    rw [ht, show nI t + 180 = nI (t + 180) from nI_add t 180]
    exact nI_lt (by omega) (by omega)
  obtain ⟨a_1, a_2, a_3, a_4, ⟨a6, a7, a8⟩, ⟨a9, b1, b2⟩, b3, b4, -⟩ := id I
  have n12 : G 1 i ≠ G 2 i := fun z => by rw [z, b1] at a7; omega
  -- the place on either side
  have hsel : ∃ j, r = nI j ∧ j < 16 ∧ (16 * i ≤ e ∧ e < 16 * i + 16) ∧ (((cIx σ (G 1 i) (ms.1 1)).erase j).map (fun j => (eC σ (G 1 i) j).getD (eMv ms 0))).Perm (((rIx ms i).erase e).map (eMv ms)) := by
    unfold slotM at hsl
    rcases slot_rel I U r2 with ⟨j, a, e', h1, h2, h3, h4, h5⟩ | ⟨h1, ⟨h2, h3⟩ | ⟨j, e', h2, h3, h4, h5, h6, h7⟩⟩
    · rw [h3] at hsl
      have hsl' : (if ms.2.1 9 e' = nI s then some e' else none) = some e := hsl
      have ee : e' = e := by
        by_cases hc : ms.2.1 9 e' = nI s
        · rw [if_pos hc] at hsl'; exact Option.some.inj hsl'
        · rw [if_neg hc] at hsl'; cases hsl'
      subst ee
      refine ⟨j, h1, h2.1, (rIx_mem.mp h4).1, ?_⟩
      have hj : j ∈ cIx σ (G 1 i) (ms.1 1) := cIx_mem.mpr ⟨a, h2⟩
      have q1 := ((List.perm_cons_erase hj).map (fun j => (eC σ (G 1 i) j).getD (eMv ms 0))).symm.trans (I.pm.trans ((List.perm_cons_erase h4).map (eMv ms)))
      rw [List.map_cons, List.map_cons, at_v h2, h5] at q1
      exact q1.cons_inv
    · rw [h1, h3] at hsl
      cases hsl
    · rw [h1] at hsl
      have ee : e' = e := Option.some.inj (h5.symm.trans hsl)
      subst ee
      refine ⟨j, h2, h3, h6, ?_⟩
      rw [List.erase_of_not_mem h7, List.erase_of_not_mem (fun z => by obtain ⟨a, ha⟩ := cIx_mem.mp z; exact h4 a ha)]
      exact I.pm
  obtain ⟨j, hj1, hj2, he, hpm⟩ := hsel
  have w1 : h_sR σ (some (G 1 i)) 103 1 (nI j) (some a1) = some (h_setR σ (G 1 i) j (some a1)) := sR_s a7 a8 hj2 (by decide) (decide_eq_true ha)
  have w2 : h_sL (h_setR σ (G 1 i) j (some a1)) (some (G 2 i)) 101 (nI s) no.toInt64 = some (h_setL (h_setR σ (G 1 i) j (some a1)) (G 2 i) s no.toInt64) := sL_s (σ := h_setR σ (G 1 i) j (some a1)) b1 b2 hs (by decide)
  have hsm : ∀ q, q ≠ G 1 i → q ≠ G 2 i → Sm σ (h_setL (h_setR σ (G 1 i) j (some a1)) (G 2 i) s no.toInt64) q := fun q g1 g2 => (Sm_R g1).tr (Sm_L g2)
  have ek : ∀ k q, k < 7 ∨ 12 < k → (setM ms i e s b (nI n) pl no).2.1 k q = ms.2.1 k q := fun k q h => setM_k (Or.inr h)
  have n01 : G 0 i ≠ G 1 i := fun z => by rw [z, a7] at a_1; omega
  have n02 : G 0 i ≠ G 2 i := fun z => by rw [z, b1] at a_1; omega
  have h15 : ∀ q, h_tg σ q = 1 ∨ h_tg σ q = 5 → Sm σ (h_setL (h_setR σ (G 1 i) j (some a1)) (G 2 i) s no.toInt64) q := fun q hq => hsm q (fun z => by rw [z, a7] at hq; omega) (fun z => by rw [z, b1] at hq; omega)
  have hok1 : eOk σ a1 := ⟨ha, p, b, n, hap, hp⟩
  have hnew : eV σ a1 = (b, nI n, nI s, pl, no, ms.1 1 + 180) := by
    unfold eV
    rw [hap, hv1, hv2, hv3, hv4]
    show (h_iv σ p 0, h_iv σ p 1, _) = _
    rw [hp.2.1, hp.2.2.1]
  generalize hσ2 : h_setL (h_setR σ (G 1 i) j (some a1)) (G 2 i) s no.toInt64 = σ2 at w2 hsm h15
  have hrv : ∀ j', h_rv σ2 (G 1 i) j' = if j' = j then some a1 else h_rv σ (G 1 i) j' := fun j' => by
    rw [← hσ2]
    show h_rv (h_setR σ (G 1 i) j (some a1)) (G 1 i) j' = _
    by_cases ej : j' = j
    · rw [ej, rv_sR, if_pos rfl]
    · rw [rv_sRk ej, if_neg ej]
  have hlv : ∀ s', h_lv σ2 (G 2 i) s' = if s' = s then no.toInt64 else h_lv σ (G 2 i) s' := fun s' => by
    rw [← hσ2]
    by_cases es : s' = s
    · rw [es, lv_sL, if_pos rfl]
    · rw [lv_sLk es, if_neg es]; rfl
  have htg : ∀ q, h_tg σ2 q = h_tg σ q := fun q => by rw [← hσ2]; rfl
  have hln : ∀ q, h_ln σ2 q = h_ln σ q := fun q => by rw [← hσ2]; rfl
  have hz : h_sz σ2 = h_sz σ ∧ h_sl σ2 = h_sl σ ∧ h_cz σ2 = h_cz σ ∧ h_ck σ2 = h_ck σ := by rw [← hσ2]; exact ⟨rfl, rfl, rfl, rfl⟩
  have hat : ∀ j' a', at_ σ2 (G 1 i) (ms.1 1) j' a' ↔ (j' = j ∧ a' = a1) ∨ (j' ≠ j ∧ at_ σ (G 1 i) (ms.1 1) j' a') := by
    intro j' a'
    unfold at_
    rw [hrv]
    by_cases ej : j' = j
    · rw [if_pos ej]
      constructor
      · intro hh
        exact Or.inl ⟨ej, (Option.some.inj hh.2.1).symm⟩
      · intro hh
        rcases hh with ⟨-, h2⟩ | ⟨h1, -⟩
        · refine ⟨by omega, by rw [h2], ?_⟩
          rw [h2, (h15 a1 (Or.inl ha)).2.2.1, hv4]
          exact h180
        · exact absurd ej h1
    · rw [if_neg ej]
      constructor
      · intro hh
        have tg1 := (b4 j' hh.1 a' hh.2.1).1
        rw [(h15 a' (Or.inl tg1)).2.2.1] at hh
        exact Or.inr ⟨ej, hh⟩
      · intro hh
        rcases hh with ⟨h1, -⟩ | ⟨-, h2⟩
        · exact absurd h1 ej
        · have tg1 := (b4 j' h2.1 a' h2.2.1).1
          refine ⟨h2.1, h2.2.1, ?_⟩
          rw [(h15 a' (Or.inl tg1)).2.2.1]
          exact h2.2.2
  have hc' : (cIx σ2 (G 1 i) (ms.1 1)).Perm (j :: (cIx σ (G 1 i) (ms.1 1)).erase j) := by
    have nd : (j :: (cIx σ (G 1 i) (ms.1 1)).erase j).Nodup := List.nodup_cons.mpr ⟨fun z => ((List.Nodup.mem_erase_iff cIx_nd).mp z).1 rfl, List.Nodup.erase _ cIx_nd⟩
    refine (List.perm_ext_iff_of_nodup cIx_nd nd).mpr (fun k => ?_)
    rw [List.mem_cons, List.Nodup.mem_erase_iff cIx_nd, cIx_mem, cIx_mem]
    constructor
    · intro ⟨a', h⟩
      rcases (hat k a').mp h with ⟨h1, -⟩ | ⟨h1, h2⟩
      · exact Or.inl h1
      · exact Or.inr ⟨h1, a', h2⟩
    · intro h
      rcases h with h | ⟨h1, a', h2⟩
      · exact ⟨a1, (hat k a1).mpr (Or.inl ⟨h, rfl⟩)⟩
      · exact ⟨a', (hat k a').mpr (Or.inr ⟨h1, h2⟩)⟩
  have hr' : (rIx (setM ms i e s b (nI n) pl no) i).Perm (e :: (rIx ms i).erase e) := by
    have nd : (e :: (rIx ms i).erase e).Nodup := List.nodup_cons.mpr ⟨fun z => ((List.Nodup.mem_erase_iff rIx_nd).mp z).1 rfl, List.Nodup.erase _ rIx_nd⟩
    refine (List.perm_ext_iff_of_nodup rIx_nd nd).mpr (fun k => ?_)
    rw [List.mem_cons, List.Nodup.mem_erase_iff rIx_nd, rIx_mem, rIx_mem, setM_live h180]
    by_cases ek : k = e
    · rw [if_pos ek]; exact ⟨fun _ => Or.inl ek, fun _ => ⟨by rw [ek]; exact he, rfl⟩⟩
    · rw [if_neg ek]; exact ⟨fun z => Or.inr ⟨ek, z⟩, fun z => (z.resolve_left ek).2⟩
  have hnew2 : eV σ2 a1 = (b, nI n, nI s, pl, no, ms.1 1 + 180) := by rw [(hok1.to h15).2, hnew]
  have hperm : (eL ((setM ms i e s b (nI n) pl no).1 1) (eC σ2 (G 1 i)) 0 16).Perm (eL ((setM ms i e s b (nI n) pl no).1 1) (eM (setM ms i e s b (nI n) pl no)) (16 * i) 16) := by
    rw [eM_ix, eL_ix (d := eMv ms 0)]
    refine (hc'.map _).trans (List.Perm.trans ?_ (hr'.map _).symm)
    rw [List.map_cons, List.map_cons, setM_e]
    have e1 : (eC σ2 (G 1 i) j).getD (eMv ms 0) = (b, nI n, nI s, pl, no, ms.1 1 + 180) := by
      unfold eC
      rw [hrv, if_pos rfl]
      exact hnew2
    rw [e1]
    refine List.Perm.cons _ ?_
    have e2 : ((cIx σ (G 1 i) (ms.1 1)).erase j).map (fun j => (eC σ2 (G 1 i) j).getD (eMv ms 0)) = ((cIx σ (G 1 i) (ms.1 1)).erase j).map (fun j => (eC σ (G 1 i) j).getD (eMv ms 0)) := List.map_congr_left (fun k hk => by
      obtain ⟨k1, k2⟩ := (List.Nodup.mem_erase_iff cIx_nd).mp hk
      obtain ⟨a', h⟩ := cIx_mem.mp k2
      show (eC σ2 (G 1 i) k).getD _ = (eC σ (G 1 i) k).getD _
      unfold eC
      rw [hrv, if_neg k1, h.2.1]
      exact ((b4 k h.1 a' h.2.1).to h15).2)
    have e3 : ((rIx ms i).erase e).map (eMv (setM ms i e s b (nI n) pl no)) = ((rIx ms i).erase e).map (eMv ms) := List.map_congr_left (fun k hk => by
      have k1 := ((List.Nodup.mem_erase_iff rIx_nd).mp hk).1
      unfold eMv
      rw [setM_k (Or.inl k1), setM_k (Or.inl k1), setM_k (Or.inl k1), setM_k (Or.inl k1), setM_k (Or.inl k1), setM_k (Or.inl k1)])
    rw [e2, e3]
    exact hpm
  have I' : SvR σ2 G (setM ms i e s b (nI n) pl no) i := by
    have s0 := hsm (G 0 i) n01 n02
    have epB : pB (setM ms i e s b (nI n) pl no) i = pB ms i := ek 4 i (by omega)
    have epL : pL (setM ms i e s b (nI n) pl no) i = pL ms i := by unfold pL; rw [ek 5 i (by omega)]
    obtain ⟨pp, c1, c2⟩ := a_4
    refine ⟨by rw [htg]; exact a_1, by rw [s0.2.2.1]; exact a_2, by rw [s0.2.2.1, ek 6 i (by omega)]; exact a_3, ⟨pp, by rw [s0.2.2.2.1]; exact c1, by rw [epB, epL]; exact c2.to (h15 pp (Or.inr c2.1))⟩, ⟨by rw [s0.2.2.2.1]; exact a6, by rw [htg]; exact a7, by rw [hln]; exact a8⟩, ⟨by rw [s0.2.2.2.1]; exact a9, by rw [htg]; exact b1, by rw [hln]; exact b2⟩, fun s' hs' => ?_, fun j' hj' a' ha' => ?_, hperm⟩
    · rw [hlv, setM_L]
      by_cases es : s' = s
      · rw [if_pos es, if_pos (by omega)]
        exact Or.inr ⟨rfl, no, rfl⟩
      · rw [if_neg es, if_neg (by omega)]
        exact b3 s' hs'
    · rw [hrv] at ha'
      by_cases ej : j' = j
      · rw [if_pos ej] at ha'
        rw [← Option.some.inj ha']
        exact (hok1.to h15).1
      · rw [if_neg ej] at ha'
        exact ((b4 j' hj' a' ha').to h15).1
  refine ⟨σ2, ?_, Rep_srv P hi hpr ?_ hsm I' (fun _ _ => rfl) ek (fun t k q _ hne h1 h2 h3 h4 => setM_k (Or.inl (by omega))) (fun t s' _ hne hs' => by rw [setM_L, if_neg (by omega)]), by omega, by omega, by omega, hz.2.2.1, hz.2.2.2, fun q h1 h2 => hsm q (fun z => ?_) (fun z => ?_)⟩
  · have g1 : h_gI (h_setR σ (G 1 i) j (some a1)) (some a1) 1 1 = some (nI s) := by rw [gI_s (show h_tg (h_setR σ (G 1 i) j (some a1)) a1 = 1 from ha)]; exact congrArg some hv1
    have g2 : h_gI (h_setR σ (G 1 i) j (some a1)) (some a1) 1 3 = some no := by rw [gI_s (show h_tg (h_setR σ (G 1 i) j (some a1)) a1 = 1 from ha)]; exact congrArg some hv3
    have g3 : h_gR (h_setR σ (G 1 i) j (some a1)) (some (G 0 i)) 7 4 = some (some (G 2 i)) := by
      rw [gR_s (show h_tg (h_setR σ (G 1 i) j (some a1)) (G 0 i) = 7 from a_1), (Sm_R n01).2.2.2.1]
      exact congrArg some a9
    unfold f_X6_keep
    rw [gR_s ha, hap, h_b1_s, rcv_s a_1, h_b1_s, r1, h_bd_s, hj1, if_neg (nI_pos (by omega)), gR_s a_1, a6, h_b1_s, w1, h_b1_s, g3, h_b1_s, g1, h_b1_s, g2, h_b1_s, w2, h_b1_s]
  · unfold Zx
    rw [show h_tg σ2 = h_tg σ from funext htg, hz.1]
    exact P.1
  · have := P.1.2.2 q h1 h2
    rw [z, a7] at this
    omega
  · have := P.2.2.2.2.2.2.1.2.1 i hi hpr
    omega
end RG2
