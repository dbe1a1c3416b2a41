/-! ENTRIES: the two sides -/
def eMv (ms : MS) (k : Nat) : E6 := (ms.2.1 7 k, ms.2.1 8 k, ms.2.1 9 k, ms.2.1 10 k, ms.2.1 11 k, ms.2.1 12 k)
theorem eL_ix {now : Int32} {f : Nat → Option E6} {d : E6} : ∀ (c i : Nat), eL now f i c = ((List.range' i c).filter (fun j => lvE now (f j))).map (fun j => (f j).getD d)
  | 0, i => rfl
  | c + 1, i => by
    have ih := eL_ix (now := now) (f := f) (d := d) c (i + 1)
    rw [List.range'_succ]
    unfold eL
    cases hf : f i with
    | none =>
      show eL now f (i + 1) c = _
      rw [List.filter_cons_of_neg (by rw [hf]; exact Bool.false_ne_true), ih]
    | some q =>
      show (if now < q.2.2.2.2.2 then q :: eL now f (i + 1) c else eL now f (i + 1) c) = _
      by_cases h : now < q.2.2.2.2.2
      · rw [if_pos h, List.filter_cons_of_pos (by rw [hf]; exact decide_eq_true h), List.map_cons, ih, hf]; rfl
      · rw [if_neg h, List.filter_cons_of_neg (by rw [hf]; exact fun z => h (of_decide_eq_true z)), ih]
theorem nd_map_inj {α β : Type} {f : α → β} : ∀ (l : List α), (l.map f).Nodup → ∀ a b, a ∈ l → b ∈ l → f a = f b → a = b
  | [], _, a, _, ha, _, _ => absurd ha List.not_mem_nil
  | x :: l, h, a, b, ha, hb, e => by
    rw [List.map_cons] at h
    obtain ⟨h1, h2⟩ := List.nodup_cons.mp h
    rcases List.mem_cons.mp ha with rfl | ha'
    · rcases List.mem_cons.mp hb with rfl | hb'
      · rfl
      · exact absurd (by rw [e]; exact List.mem_map.mpr ⟨b, hb', rfl⟩) h1
    · rcases List.mem_cons.mp hb with rfl | hb'
      · exact absurd (by rw [← e]; exact List.mem_map.mpr ⟨a, ha', rfl⟩) h1
      · exact nd_map_inj l h2 a b ha' hb' e
/-- no two entries of a server are of one prefix -/
def UE (ms : MS) (i : Nat) : Prop := ∀ k k', 16 * i ≤ k → k < 16 * i + 16 → 16 * i ≤ k' → k' < 16 * i + 16 → liveE ms k = true → liveE ms k' = true → ms.2.1 7 k = ms.2.1 7 k' → ms.2.1 8 k = ms.2.1 8 k' → k = k'
def rIx (ms : MS) (i : Nat) : List Nat := (List.range' (16 * i) 16).filter (liveE ms)
theorem rIx_mem {ms : MS} {i k : Nat} : k ∈ rIx ms i ↔ (16 * i ≤ k ∧ k < 16 * i + 16) ∧ liveE ms k = true := by
  unfold rIx
  rw [List.mem_filter, List.mem_range'_1]
theorem rIx_nd {ms : MS} {i : Nat} : (rIx ms i).Nodup := List.Pairwise.filter _ List.nodup_range'
theorem eM_ix (ms : MS) (i : Nat) : eL (ms.1 1) (eM ms) (16 * i) 16 = (rIx ms i).map (eMv ms) := eL_ix (d := eMv ms 0) 16 (16 * i)
/-- the places of a server's entries that haven't lapsed -/
def cIx (σ : HS) (e : Nat) (now : Int32) : List Nat := (List.range' 0 16).filter (fun j => lvE now (eC σ e j))
/-- slot j holds the entry a, which hasn't lapsed -/
def at_ (σ : HS) (e : Nat) (now : Int32) (j a : Nat) : Prop := j < 16 ∧ h_rv σ e j = some a ∧ now < h_iv σ a 4
theorem cIx_mem {σ : HS} {e j : Nat} {now : Int32} : j ∈ cIx σ e now ↔ ∃ a, at_ σ e now j a := by
  unfold cIx
  rw [List.mem_filter, List.mem_range'_1]
  unfold eC at_
  constructor
  · intro ⟨h1, h2⟩
    cases hr : h_rv σ e j with
    | none => rw [hr] at h2; cases h2
    | some a =>
      rw [hr] at h2
      exact ⟨a, by omega, rfl, of_decide_eq_true h2⟩
  · intro ⟨a, h1, h2, h3⟩
    refine ⟨⟨by omega, by omega⟩, ?_⟩
    rw [h2]
    exact decide_eq_true h3
theorem cIx_nd {σ : HS} {e : Nat} {now : Int32} : (cIx σ e now).Nodup := List.Pairwise.filter _ List.nodup_range'
section EN2
variable {fx : Bool} {σ σ' : HS} {x : Nat} {G : Nat → Nat → Nat} {ms ms' : MS}
theorem at_v {e j a : Nat} {now : Int32} {d : E6} (h : at_ σ e now j a) : (eC σ e j).getD d = eV σ a := by
  unfold eC
  rw [h.2.1]
  rfl
theorem SvR.pm {i : Nat} (I : SvR σ G ms i) : ((cIx σ (G 1 i) (ms.1 1)).map (fun j => (eC σ (G 1 i) j).getD (eMv ms 0))).Perm ((rIx ms i).map (eMv ms)) := by
  obtain ⟨-, -, -, -, -, -, -, -, b5⟩ := I
  rw [eM_ix, eL_ix (d := eMv ms 0)] at b5
  exact b5
/-- the entries of the one side are those of the other -/
theorem ent_to {i j a : Nat} (I : SvR σ G ms i) (h : at_ σ (G 1 i) (ms.1 1) j a) : ∃ k, (16 * i ≤ k ∧ k < 16 * i + 16) ∧ liveE ms k = true ∧ eMv ms k = eV σ a := by
  have hm : eV σ a ∈ (cIx σ (G 1 i) (ms.1 1)).map (fun j => (eC σ (G 1 i) j).getD (eMv ms 0)) := List.mem_map.mpr ⟨j, cIx_mem.mpr ⟨a, h⟩, at_v h⟩
  obtain ⟨k, k1, k2⟩ := List.mem_map.mp (I.pm.mem_iff.mp hm)
  obtain ⟨k3, k4⟩ := rIx_mem.mp k1
  exact ⟨k, k3, k4, k2⟩
theorem ent_of {i k : Nat} (I : SvR σ G ms i) (h1 : 16 * i ≤ k ∧ k < 16 * i + 16) (h2 : liveE ms k = true) : ∃ j a, at_ σ (G 1 i) (ms.1 1) j a ∧ eV σ a = eMv ms k := by
  have hm : eMv ms k ∈ (rIx ms i).map (eMv ms) := List.mem_map.mpr ⟨k, rIx_mem.mpr ⟨h1, h2⟩, rfl⟩
  obtain ⟨j, j1, j2⟩ := List.mem_map.mp (I.pm.mem_iff.mpr hm)
  obtain ⟨a, ha⟩ := cIx_mem.mp j1
  exact ⟨j, a, ha, by rw [← j2]; exact (at_v ha).symm⟩
theorem rIx_map_nd {i : Nat} (U : UE ms i) : ((rIx ms i).map (eMv ms)).Nodup := by
  unfold List.Nodup
  rw [List.pairwise_map]
  refine List.Pairwise.imp_of_mem (fun {a b} ha hb hne hab => hne ?_) (rIx_nd (ms := ms) (i := i))
  obtain ⟨a1, a2⟩ := rIx_mem.mp ha
  obtain ⟨b1, b2⟩ := rIx_mem.mp hb
  exact U a b a1.1 a1.2 b1.1 b1.2 a2 b2 (congrArg (fun q => q.1) hab) (congrArg (fun q => q.2.1) hab)
theorem ent_uq {i j j' a a' : Nat} (I : SvR σ G ms i) (U : UE ms i) (h : at_ σ (G 1 i) (ms.1 1) j a) (h' : at_ σ (G 1 i) (ms.1 1) j' a') (e1 : (eV σ a).1 = (eV σ a').1) (e2 : (eV σ a).2.1 = (eV σ a').2.1) : j = j' := by
  obtain ⟨k, k1, k2, k3⟩ := ent_to I h
  obtain ⟨k', l1, l2, l3⟩ := ent_to I h'
  have ek : k = k' := U k k' k1.1 k1.2 l1.1 l1.2 k2 l2 (by rw [← k3, ← l3] at e1; exact e1) (by rw [← k3, ← l3] at e2; exact e2)
  have hnd : ((cIx σ (G 1 i) (ms.1 1)).map (fun j => (eC σ (G 1 i) j).getD (eMv ms 0))).Nodup := (I.pm.nodup_iff).mpr (rIx_map_nd U)
  refine nd_map_inj _ hnd j j' (cIx_mem.mpr ⟨a, h⟩) (cIx_mem.mpr ⟨a', h'⟩) ?_
  show (eC σ (G 1 i) j).getD _ = (eC σ (G 1 i) j').getD _
  rw [at_v h, at_v h', ← k3, ← l3, ek]
/-- an entry: its prefix -/
theorem ent_px {i j a : Nat} (I : SvR σ G ms i) (h : at_ σ (G 1 i) (ms.1 1) j a) : h_tg σ a = 1 ∧ ∃ p b n, h_gR σ (some a) 1 0 = some (some p) ∧ hP σ p b n ∧ (eV σ a).1 = b ∧ (eV σ a).2.1 = nI n ∧ h_gR σ (some (G 0 i)) 7 3 = some (some (G 1 i)) ∧ h_aR σ (some (G 1 i)) 103 (nI j) = some (some a) := by
  obtain ⟨a1, -, -, -, ⟨a6, a7, a8⟩, -, -, b4, -⟩ := I
  obtain ⟨t1, p, b, n, r1, hp⟩ := b4 j h.1 a h.2.1
  refine ⟨t1, p, b, n, by rw [gR_s t1, r1], hp, ?_, ?_, by rw [gR_s a1, a6], by rw [aR_s a7 a8 h.1 (by decide), h.2.1]⟩
  · unfold eV; rw [r1]; exact hp.2.1
  · unfold eV; rw [r1]; exact hp.2.2.1
theorem live_at {i j : Nat} (I : SvR σ G ms i) (hj : j < 16) (now : Int32) : (f_X6_isLive σ (some (G 0 i)) (nI j) now = some (0, σ) ∧ ∀ a, ¬ at_ σ (G 1 i) now j a) ∨ (f_X6_isLive σ (some (G 0 i)) (nI j) now = some (1, σ) ∧ ∃ a, at_ σ (G 1 i) now j a) := by
  have h := c_isLive I hj now
  unfold eC at h
  cases hr : h_rv σ (G 1 i) j with
  | none =>
    rw [hr] at h
    exact Or.inl ⟨h, fun a z => by have := z.2.1; rw [hr] at this; cases this⟩
  | some a =>
    rw [hr] at h
    have h' : f_X6_isLive σ (some (G 0 i)) (nI j) now = some (b2i (decide (now < h_iv σ a 4)), σ) := h
    by_cases hl : now < h_iv σ a 4
    · rw [decide_eq_true hl] at h'
      exact Or.inr ⟨h', a, hj, hr, hl⟩
    · rw [decide_eq_false hl] at h'
      exact Or.inl ⟨h', fun a' z => by
        have := z.2.1
        rw [hr] at this
        have e := Option.some.inj this
        rw [← e] at z
        exact hl z.2.2⟩
/-- the best so far -/
def bst (σ : HS) (e : Nat) (now ep : Int32) (j : Nat) (o : Option Nat) : Prop := match o with
  | none => ∀ j' a', j' < j → at_ σ e now j' a' → ag (ln (eV σ a').2.1) ep (eV σ a').1 = false
  | some a => (∃ j0, j0 < j ∧ at_ σ e now j0 a) ∧ ag (ln (eV σ a).2.1) ep (eV σ a).1 = true ∧ ∀ j' a', j' < j → at_ σ e now j' a' → ag (ln (eV σ a').2.1) ep (eV σ a').1 = true → (eV σ a').2.1 ≤ (eV σ a).2.1
theorem g_best {i : Nat} (I : SvR σ G ms i) (ep : Int32) : ∀ (c n j : Nat) (o : Option Nat), j + c = 16 → c < n → bst σ (G 1 i) (ms.1 1) ep j o → ∃ o', g_X6_best_5 n σ (some (G 0 i)) ep (ms.1 1) o (nI j) = some (o', σ) ∧ bst σ (G 1 i) (ms.1 1) ep 16 o'
  | 0, 0, j, o, _, h, _ => absurd h (Nat.lt_irrefl 0)
  | c + 1, 0, j, o, _, h, _ => absurd h (Nat.not_lt_zero _)
  | 0, n + 1, j, o, hj, _, hb => by
    have : j = 16 := by omega
    subst this
    exact ⟨o, by rw [g_X6_best_5, if_pos (show (16 : Int32) ≤ nI 16 by decide)], hb⟩
  | c + 1, n + 1, j, o, hj, hn, hb => by
    have hlt : ¬ (16 : Int32) ≤ nI j := fun z => absurd (nI_lt (a := j) (b := 16) (by omega) (by decide)) (Int32.not_lt.mpr z)
    rcases live_at I (show j < 16 by omega) (ms.1 1) with ⟨l1, l2⟩ | ⟨l1, a, l2⟩
    · obtain ⟨o', r1, r2⟩ := g_best I ep c n (j + 1) o (by omega) (by omega) (by
        cases o with
        | none =>
          intro j' a' h1 h2
          by_cases e : j' = j
          · rw [e] at h2; exact absurd h2 (l2 a')
          · exact hb j' a' (by omega) h2
        | some a0 =>
          obtain ⟨⟨j0, b0, b1⟩, b2, b3⟩ := hb
          refine ⟨⟨j0, by omega, b1⟩, b2, fun j' a' h1 h2 h3 => ?_⟩
          by_cases e : j' = j
          · rw [e] at h2; exact absurd h2 (l2 a')
          · exact b3 j' a' (by omega) h2 h3)
      exact ⟨o', by rw [g_X6_best_5, if_neg hlt, rcv_s I.1, h_b1_s, l1, h_bd_s, if_pos rfl, nI_c1, r1], r2⟩
    · obtain ⟨t1, p, b, m, q1, q2, q3, q4, q5, q6⟩ := ent_px I l2
      have hag : ag m ep b = ag (ln (eV σ a).2.1) ep (eV σ a).1 := by rw [q3, q4, ln_nI q2.2.2.2.1]
      have hhas : f_X4_has σ (some p) ep = some (b2i (ag (ln (eV σ a).2.1) ep (eV σ a).1), σ) := by rw [has_eq q2, hag]
      have uq : ∀ a', at_ σ (G 1 i) (ms.1 1) j a' → a' = a := fun a' z => Option.some.inj (z.2.1.symm.trans l2.2.1)
      cases hh : ag (ln (eV σ a).2.1) ep (eV σ a).1 with
      | false =>
        obtain ⟨o', r1, r2⟩ := g_best I ep c n (j + 1) o (by omega) (by omega) (by
          cases o with
          | none =>
            intro j' a' h1 h2
            by_cases e : j' = j
            · rw [e] at h2; rw [uq a' h2]; exact hh
            · exact hb j' a' (by omega) h2
          | some a0 =>
            obtain ⟨⟨j0, b0, b1⟩, b2, b3⟩ := hb
            refine ⟨⟨j0, by omega, b1⟩, b2, fun j' a' h1 h2 h3 => ?_⟩
            by_cases e : j' = j
            · rw [e] at h2; rw [uq a' h2, hh] at h3; cases h3
            · exact b3 j' a' (by omega) h2 h3)
        refine ⟨o', ?_, r2⟩
        rw [g_X6_best_5, if_neg hlt, rcv_s I.1, h_b1_s, l1, h_bd_s, if_neg (by decide), q5, h_b1_s, q6, h_b1_s, q1, h_b1_s, rcv_s q2.1, h_b1_s, hhas, h_bd_s, hh, if_pos (by rfl), nI_c1, r1]
      | true =>
        have pre : ∀ y, g_X6_best_5 (n + 1) σ (some (G 0 i)) ep (ms.1 1) o (nI j) = y ↔ (if o = none then h_b1 (h_gR σ (some (G 0 i)) 7 3) fun x21 => h_b1 (h_aR σ x21 103 (nI j)) fun x23 => g_X6_best_5 n σ (some (G 0 i)) ep (ms.1 1) x23 (nI (j + 1)) else h_b1 (h_gR σ (some (G 0 i)) 7 3) fun x25 => h_b1 (h_aR σ x25 103 (nI j)) fun x27 => h_b1 (h_gR σ x27 1 0) fun x29 => h_b1 (h_gI σ x29 5 1) fun x31 => h_b1 (h_gR σ o 1 0) fun x33 => h_b1 (h_gI σ x33 5 1) fun x35 => if x31 ≤ x35 then g_X6_best_5 n σ (some (G 0 i)) ep (ms.1 1) o (nI (j + 1)) else h_b1 (h_gR σ (some (G 0 i)) 7 3) fun x38 => h_b1 (h_aR σ x38 103 (nI j)) fun x40 => g_X6_best_5 n σ (some (G 0 i)) ep (ms.1 1) x40 (nI (j + 1))) = y := by
          intro y
          rw [g_X6_best_5, if_neg hlt, rcv_s I.1, h_b1_s, l1, h_bd_s, if_neg (by decide), q5, h_b1_s, q6, h_b1_s, q1, h_b1_s, rcv_s q2.1, h_b1_s, hhas, h_bd_s, hh, if_neg (by decide), nI_c1, q5]
        cases o with
        | none =>
          obtain ⟨o', r1, r2⟩ := g_best I ep c n (j + 1) (some a) (by omega) (by omega) ⟨⟨j, by omega, l2⟩, hh, fun j' a' h1 h2 h3 => by
            by_cases e : j' = j
            · rw [e] at h2; rw [uq a' h2]; exact Int32.le_refl _
            · have := hb j' a' (by omega) h2
              rw [h3] at this
              cases this⟩
          exact ⟨o', (pre _).mpr (by rw [if_pos rfl, q5, h_b1_s, q6, h_b1_s, r1]), r2⟩
        | some a0 =>
          obtain ⟨⟨j0, b0, b1⟩, b2, b3⟩ := id hb
          obtain ⟨u1, p0, c0, m0, w1, w2, w3, w4, -, -⟩ := ent_px I b1
          have gl : h_gI σ (some p) 5 1 = some (eV σ a).2.1 := by rw [gI_s q2.1, q2.2.2.1, q4]
          have gl0 : h_gI σ (some p0) 5 1 = some (eV σ a0).2.1 := by rw [gI_s w2.1, w2.2.2.1, w4]
          by_cases hle : (eV σ a).2.1 ≤ (eV σ a0).2.1
          · obtain ⟨o', r1, r2⟩ := g_best I ep c n (j + 1) (some a0) (by omega) (by omega) ⟨⟨j0, by omega, b1⟩, b2, fun j' a' h1 h2 h3 => by
              by_cases e : j' = j
              · rw [e] at h2; rw [uq a' h2]; exact hle
              · exact b3 j' a' (by omega) h2 h3⟩
            exact ⟨o', (pre _).mpr (by rw [if_neg (fun z => by cases z), q5, h_b1_s, q6, h_b1_s, q1, h_b1_s, gl, h_b1_s, w1, h_b1_s, gl0, h_b1_s, if_pos hle, r1]), r2⟩
          · obtain ⟨o', r1, r2⟩ := g_best I ep c n (j + 1) (some a) (by omega) (by omega) ⟨⟨j, by omega, l2⟩, hh, fun j' a' h1 h2 h3 => by
              by_cases e : j' = j
              · rw [e] at h2; rw [uq a' h2]; exact Int32.le_refl _
              · exact Int32.le_trans (b3 j' a' (by omega) h2 h3) (Int32.le_of_lt (Int32.not_le.mp hle))⟩
            exact ⟨o', (pre _).mpr (by rw [if_neg (fun z => by cases z), q5, h_b1_s, q6, h_b1_s, q1, h_b1_s, gl, h_b1_s, w1, h_b1_s, gl0, h_b1_s, if_neg hle, h_b1_s, q6, h_b1_s, r1]), r2⟩
end EN2
