/-! THE INVARIANT between calls, and how each call keeps it -/
def JJ (x sl i : Nat) (σ : HS) : Prop := ∃ ms n np M t, Bt false σ x ms ∧ RI ms n np M t ∧ h_sz σ + Phi ms n np ≤ x + 50 + 8 * i ∧ h_sl σ + 4 * Phi ms n np ≤ sl + 6251 + 40 * i ∧ x + 30000 ≤ h_cz σ ∧ sl + 200000 ≤ h_ck σ
section JST
variable {σ τ : HS} {x sl i : Nat} {ms ms' : MS} {n np M t n' np' M' t' dz ds : Nat}
/-- what is known before a call -/
def JA (x sl i : Nat) (σ : HS) (ms : MS) (n np M t : Nat) : Prop := Bt false σ x ms ∧ RI ms n np M t ∧ h_sz σ + Phi ms n np ≤ x + 50 + 8 * i ∧ h_sl σ + 4 * Phi ms n np ≤ sl + 6251 + 40 * i ∧ x + 30000 ≤ h_cz σ ∧ sl + 200000 ≤ h_ck σ
theorem JA.rm (h : JA x sl i σ ms n np M t) (hi : i ≤ 2560) : Rm σ := by
  obtain ⟨-, -, h1, h2, h3, h4⟩ := h
  exact ⟨by omega, by omega⟩
theorem JA.nx (h : JA x sl i σ ms n np M t) (hB : Bt false τ x ms') (r : RI ms' n' np' M' t') (g : Gw dz ds σ τ) (h1 : Phi ms' n' np' + dz ≤ Phi ms n np + 40) (h2 : 4 * Phi ms' n' np' + ds ≤ 4 * Phi ms n np + 200) : JJ x sl (i + 5) τ := by
  obtain ⟨-, -, a1, a2, a3, a4⟩ := h
  obtain ⟨-, g2, g3, g4, g5⟩ := g
  exact ⟨ms', n', np', M', t', hB, r, by omega, by omega, by omega, by omega⟩
theorem JA.no (h : JA x sl i σ ms n np M t) {c : Int32} (hB : Bt false τ x (k_pI ms 0 c)) (g : Gw dz ds σ τ) (h1 : dz ≤ 40) (h2 : ds ≤ 200) : JJ x sl (i + 5) τ :=
  h.nx hB (h.2.1.cd c) g (by have : Phi (k_pI ms 0 c) n np = Phi ms n np := rfl; omega) (by have : Phi (k_pI ms 0 c) n np = Phi ms n np := rfl; omega)
theorem lL_nil {α : Type} {P : α → Bool} {f : Nat → Option α} : ∀ (c i : Nat), (∀ j, i ≤ j → j < i + c → ∀ q, f j = some q → P q = false) → lL P f i c = []
  | 0, i, _ => rfl
  | c + 1, i, h => by
    unfold lL
    have ih := lL_nil c (i + 1) (fun j h1 h2 => h j (by omega) (by omega))
    cases hf : f i with
    | none => exact ih
    | some q =>
      show (if P q = true then q :: lL P f (i + 1) c else lL P f (i + 1) c) = []
      rw [h i (Nat.le_refl i) (by omega) q hf, if_neg (by decide)]
      exact ih
theorem cnt_none {P : Nat → Bool} : ∀ (c i : Nat), (∀ j, i ≤ j → j < i + c → P j = false) → cnt P i c = 0
  | 0, i, _ => rfl
  | c + 1, i, h => by
    unfold cnt
    rw [h i (Nat.le_refl i) (by omega), if_neg (by decide), cnt_none c (i + 1) (fun j h1 h2 => h j (by omega) (by omega))]
theorem j_delegate (h : JA x sl i σ ms n np M t) (hi : i ≤ 2560) (p c b l : Int32) : lcV cdL_delegate (f_X9_delegate σ (some x) p c b l) (fun τ => f_X10_delegate τ (some (x + 15)) p c b l) (some x) (some (x + 15)) σ (JJ x sl (i + 5)) := by
  have r := h.2.1
  refine lcV_mono (k_delegate h.1 (h.rm hi) r.2.1 (fun j hj h0 => ?_) p c b l) (fun τ hh => ?_)
  · obtain ⟨g1, g2⟩ := r.2.2.1.2.2 j hj h0
    refine ⟨eL_nil _ _ (fun k h1 h2 q hq => ?_), g2⟩
    have := g1 k h1 h2
    unfold liveE at this
    rw [← Option.some.inj hq]
    exact of_decide_eq_false this
  · by_cases hb : delB ms p c b l = true
    · rw [if_pos hb] at hh
      have e : Phi (dlgM (okM ms) c.toNatClampNeg b l p) n np = Phi ms n np := Phi_congr (fun j => by unfold dlgM; rw [aS_k (by decide), aS_k (by decide), aS_k (by decide), aS_k (by decide)]; rfl) (fun j => by unfold dlgM; rw [aS_k (by decide), aS_k (by decide), aS_k (by decide), aS_k (by decide)]; rfl)
      exact h.nx hh.1 (r.del hb) hh.2 (by omega) (by omega)
    · rw [if_neg hb] at hh
      exact h.no hh.1 hh.2 (by omega) (by omega)
theorem j_site (h : JA x sl i σ ms n np M t) (hi : i ≤ 2560) (a b : Int32) : lcV cdL_site (f_X9_site σ (some x) a b) (fun τ => f_X10_site τ (some (x + 15)) a b) (some x) (some (x + 15)) σ (JJ x sl (i + 5)) := by
  have r := h.2.1
  refine lcV_mono (k_site h.1 (h.rm hi) (fun s hs h0 => ?_) a b) (fun τ hh => ?_)
  · obtain ⟨g1, g2⟩ := r.2.2.2.1.2.2.2 s hs h0
    refine ⟨g1, g2, lL_nil _ _ (fun k h1 h2 q hq => ?_)⟩
    have := r.2.2.2.2.2.1.2.2.2.2.2 s hs h0 k h1 h2
    rw [← Option.some.inj hq]
    exact this
  · by_cases hb : siteMB ms a b = true
    · rw [if_pos hb] at hh
      unfold siteMB at hb
      obtain ⟨b1, b2⟩ := (Bool.and_eq_true _ _).mp hb
      obtain ⟨b3, b4⟩ := (Bool.and_eq_true _ _).mp b2
      obtain ⟨b5, -⟩ := (Bool.and_eq_true _ _).mp b4
      obtain ⟨s, hs, rfl⟩ := i8 (of_decide_eq_true b1)
      have hh5 := of_decide_eq_true b5
      obtain ⟨pl, p1, rfl⟩ := nI_of2 (M := 15) (n := 15) (by decide) (Int32.not_lt.mpr hh5.1) hh5.2
      have h3 := of_decide_eq_true b3
      rw [nI_clamp (by omega)] at hh h3
      have e : Phi (aS (okM ms) 14 s (nI pl)) n np = Phi ms n np := Phi_congr (fun j => by rw [aS_k (by decide)]; rfl) (fun j => by rw [aS_k (by decide)]; rfl)
      exact h.nx hh.1 (r.site hs h3 (by omega)) hh.2 (by omega) (by omega)
    · rw [if_neg hb] at hh
      exact h.no hh.1 hh.2 (by omega) (by omega)
theorem j_prefix (h : JA x sl i σ ms n np M t) (hi : i ≤ 2560) (a b l : Int32) : lcI cdL_prefix (f_X9_prefix σ (some x) a b l) (fun τ => f_X10_prefix τ (some (x + 15)) a b l) (some x) (some (x + 15)) (some (x + 49)) σ (JJ x sl (i + 5)) := by
  have r := h.2.1
  have c := r.2.2.2.1
  refine lcI_mono (k_prefix h.1 (h.rm hi) r.2.1 c.1 (fun s hs h0 => (c.2.2.2 s hs h0).1) a b l) (fun τ hh => ?_)
  by_cases hb : prfB ms a b l = true
  · rw [if_pos hb] at hh
    unfold prfB at hb
    obtain ⟨b1, b2⟩ := (Bool.and_eq_true _ _).mp hb
    obtain ⟨b3, b4⟩ := (Bool.and_eq_true _ _).mp b2
    obtain ⟨b5, -⟩ := (Bool.and_eq_true _ _).mp b4
    obtain ⟨s, hs, rfl, hp⟩ := siteB_nI b1
    obtain ⟨m, hm, hl, -⟩ := vpB_nI b5
    obtain ⟨k, k1, k2⟩ := c.1 s hs
    have h3 := of_decide_eq_true b3
    rw [nI_clamp (by omega), k1] at h3
    have hk4 : k < 4 := (nI_ltI (a := k) (b := 4) (by omega) (by omega)).mp h3
    rw [nI_clamp (by omega), k1, nI_clamp (by omega)] at hh
    have e : Phi (prfM ms s k b l) n np = Phi ms n np := Phi_congr (fun j => by unfold prfM; rw [aS_k (by decide), aS_k (by decide), aS_k (by decide)]; rfl) (fun j => by unfold prfM; rw [aS_k (by decide), aS_k (by decide), aS_k (by decide)]; rfl)
    exact h.nx hh.1 (r.prf hs hp hk4 ⟨m, hm, hl⟩) hh.2 (by omega) (by omega)
  · rw [if_neg hb] at hh
    exact h.no hh.1 hh.2 (by omega) (by omega)
theorem j_move (h : JA x sl i σ ms n np M t) (hi : i ≤ 2560) (a b : Int32) : lcV cdL_move (f_X9_move σ (some x) a b) (fun τ => f_X10_move τ (some (x + 15)) a b) (some x) (some (x + 15)) σ (JJ x sl (i + 5)) := by
  have r := h.2.1
  refine lcV_mono (k_move h.1 (h.rm hi) r.1.2 r.1.1 r.2.2.2.1.2.2.1 a b) (fun τ hh => ?_)
  by_cases hb : moveB ms a b = true
  · rw [if_pos hb] at hh
    unfold moveB at hb
    obtain ⟨b1, b2⟩ := (Bool.and_eq_true _ _).mp hb
    obtain ⟨b5, -⟩ := (Bool.and_eq_true _ _).mp b2
    obtain ⟨s, hs, rfl, hp⟩ := siteB_nI b1
    have hh5 := of_decide_eq_true b5
    obtain ⟨pl, p1, rfl⟩ := nI_of2 (M := 15) (n := 15) (by decide) (Int32.not_lt.mpr hh5.1) hh5.2
    rw [nI_clamp (n := s) (by omega)] at hh
    have e : ∀ p0, Phi (aS (wntM (okM ms) p0 (nI s)) 14 s (nI pl)) n np = Phi ms n np := fun p0 => Phi_congr (fun j => by rw [aS_k (by decide)]; unfold wntM; rw [aS_k (by decide), aS_k (by decide)]; rfl) (fun j => by rw [aS_k (by decide)]; unfold wntM; rw [aS_k (by decide), aS_k (by decide)]; rfl)
    have e' := e (ms.2.1 14 s).toNatClampNeg
    exact h.nx hh.1 (r.mov hs hp (by omega)) hh.2 (by omega) (by omega)
  · rw [if_neg hb] at hh
    exact h.no hh.1 hh.2 (by omega) (by omega)
theorem j_register (h : JA x sl i σ ms n np M t) (hi : i ≤ 2560) (a : Int32) : lcI cdL_register (f_X9_register σ (some x) a) (fun τ => f_X10_register τ (some (x + 15)) a) (some x) (some (x + 15)) (some (x + 49)) σ (JJ x sl (i + 5)) := by
  have r := h.2.1
  refine lcI_mono (k_register h.1 (h.rm hi) r.mi r.2.1 a) (fun τ hh => ?_)
  by_cases hb : siteB ms a = true
  · rw [if_pos hb] at hh
    obtain ⟨s, hs, rfl, hp⟩ := siteB_nI hb
    obtain ⟨k, k1, k2⟩ := r.2.2.2.1.1 s hs
    rw [nI_clamp (by omega)] at hh
    unfold rgsM at hh
    rw [k1, nI_clamp (by omega)] at hh
    obtain ⟨n', q1, q2⟩ := RI.rgs (M := M) (t := t) (np := np) hs k (4 * s) (okM ms, 0) n (r.cd 0) hp
    have e : Phi (okM ms) n np = Phi ms n np := rfl
    have q2' : _ ≤ Phi (okM ms) n np + 2 * k := q2
    exact h.nx hh.1 q1 hh.2 (by omega) (by omega)
  · rw [if_neg hb] at hh
    exact h.no hh.1 hh.2 (by omega) (by omega)
theorem j_send (h : JA x sl i σ ms n np M t) (hi : i ≤ 2560) (a ep : Int32) : lcI cdL_send (f_X9_send σ (some x) a ep) (fun τ => f_X10_send τ (some (x + 15)) a ep) (some x) (some (x + 15)) (some (x + 49)) σ (JJ x sl (i + 5)) := by
  have r := h.2.1
  have gg := r.2.2.2.2.2.2.2
  have f := r.2.2.2.2.2.2.1
  refine lcI_mono (k_send h.1 (h.rm hi) r.mi r.2.2.2.2.2.1.2.2.1 gg.2.1 gg.1 f.2.1 f.1 f.2.2.1 a ep) (fun τ hh => ?_)
  by_cases h2 : np = 200
  · rw [if_pos h2] at hh
    exact h.no hh.1 hh.2 (by omega) (by omega)
  · rw [if_neg h2] at hh
    by_cases hb : siteB ms a = true
    · rw [if_pos hb] at hh
      obtain ⟨s, hs, rfl, hp⟩ := siteB_nI hb
      rw [nI_clamp (by omega)] at hh
      obtain ⟨n', q1, q2⟩ := r.snd (ep := ep) (by have := f.1; omega) hs
      exact h.nx hh.1 q1 hh.2 (by omega) (by omega)
    · rw [if_neg hb] at hh
      exact h.no hh.1 hh.2 (by omega) (by omega)
theorem j_carry (h : JA x sl i σ ms n np M t) (hi : i ≤ 2560) (a : Int32) : lcV cdL_carry (f_X9_carry σ (some x) a) (fun τ => f_X10_carry τ (some (x + 15)) a) (some x) (some (x + 15)) σ (JJ x sl (i + 5)) := by
  have r := h.2.1
  have gg := r.2.2.2.2.2.2.2
  have f := r.2.2.2.2.2.2.1
  refine lcV_mono (k_carry h.1 (h.rm hi) rfl gg.2.1 gg.1 f.2.1 f.1 (fun k hk => ?_) (fun k hk => ?_) a) (fun τ hh => ?_)
  · obtain ⟨q1, q2, -⟩ := r.tk hk
    exact ⟨q1.ra q2, q1.mi⟩
  · rw [arrM_s (by decide) (by decide) (by decide) (by decide), takeM_s (by decide)]
    exact okM_0
  · by_cases hb : msgB n a = true
    · rw [if_pos hb] at hh
      obtain ⟨k, hk, rfl⟩ := msgB_some gg.1 hb
      rw [nI_clamp (by have := gg.1; omega)] at hh
      obtain ⟨n', M', q1, q2⟩ := r.crr hk
      exact h.nx hh.1 q1 hh.2 (by omega) (by omega)
    · rw [if_neg hb] at hh
      exact h.no hh.1 hh.2 (by omega) (by omega)
theorem j_repeat (h : JA x sl i σ ms n np M t) (hi : i ≤ 2560) (a : Int32) : lcV cdL_repeat (f_X9_repeat σ (some x) a) (fun τ => f_X10_repeat τ (some (x + 15)) a) (some x) (some (x + 15)) σ (JJ x sl (i + 5)) := by
  have r := h.2.1
  have gg := r.2.2.2.2.2.2.2
  refine lcV_mono (k_repeat h.1 (h.rm hi) gg.2.1 gg.1 a) (fun τ hh => ?_)
  by_cases hb : msgB n a = true
  · rw [if_pos hb] at hh
    obtain ⟨k, hk, rfl⟩ := msgB_some gg.1 hb
    rw [nI_clamp (by have := gg.1; omega)] at hh
    obtain ⟨q1, q2⟩ := r.rpt hk
    exact h.nx hh.1 q1 hh.2 (by omega) (by omega)
  · rw [if_neg hb] at hh
    exact h.no hh.1 hh.2 (by omega) (by omega)
theorem j_drop (h : JA x sl i σ ms n np M t) (hi : i ≤ 2560) (a : Int32) : lcV cdL_drop (f_X9_drop σ (some x) a) (fun τ => f_X10_drop τ (some (x + 15)) a) (some x) (some (x + 15)) σ (JJ x sl (i + 5)) := by
  have r := h.2.1
  have gg := r.2.2.2.2.2.2.2
  refine lcV_mono (k_drop h.1 (h.rm hi) gg.2.1 gg.1 a) (fun τ hh => ?_)
  by_cases hb : msgB n a = true
  · rw [if_pos hb] at hh
    obtain ⟨k, hk, rfl⟩ := msgB_some gg.1 hb
    rw [nI_clamp (by have := gg.1; omega)] at hh
    obtain ⟨q1, -, q2⟩ := r.tk hk
    exact h.nx hh.1 q1 hh.2 (by omega) (by omega)
  · rw [if_neg hb] at hh
    exact h.no hh.1 hh.2 (by omega) (by omega)
theorem j_forge (h : JA x sl i σ ms n np M t) (hi : i ≤ 2560) (a b c : Int32) : lcV cdL_forge (f_X9_forge σ (some x) a b c) (fun τ => f_X10_forge τ (some (x + 15)) a b c) (some x) (some (x + 15)) σ (JJ x sl (i + 5)) := by
  have r := h.2.1
  have gg := r.2.2.2.2.2.2.2
  refine lcV_mono (k_forge h.1 (h.rm hi) gg.2.1 gg.1 a b c) (fun τ hh => ?_)
  by_cases hb : (msgB n a && decide (0 ≤ b ∧ b ≤ 5)) = true
  · rw [if_pos hb] at hh
    obtain ⟨b1, b2⟩ := (Bool.and_eq_true _ _).mp hb
    have hh5 := of_decide_eq_true b2
    obtain ⟨j, j1, rfl⟩ := nI_of2 (M := 5) (n := 5) (by decide) (Int32.not_lt.mpr hh5.1) hh5.2
    rw [nI_clamp (n := j) (by omega)] at hh
    obtain ⟨q1, q2⟩ := r.fge (k := a.toNatClampNeg) (b := j) (v := c) (by omega)
    exact h.nx hh.1 q1 hh.2 (by omega) (by omega)
  · rw [if_neg hb] at hh
    exact h.no hh.1 hh.2 (by omega) (by omega)
theorem j_run (h : JA x sl i σ ms n np M t) (hi : i ≤ 2560) (a : Int32) : lcI cdL_run (f_X9_run σ (some x) a) (fun τ => f_X10_run τ (some (x + 15)) a) (some x) (some (x + 15)) (some (x + 49)) σ (JJ x sl (i + 5)) := by
  refine lcI_mono (k_run h.1 rfl h.2.1 (by have := h.2.2; omega) (by have := h.2.2; omega) a) (fun τ hh => ?_)
  obtain ⟨ms', n', M', d, c1, c2, c3, c4⟩ := hh
  exact h.nx c1 c2 c3 (by omega) (by omega)
theorem j_pass (h : JA x sl i σ ms n np M t) (hi : i ≤ 2560) (a : Int32) : lcV cdL_pass (f_X9_pass σ (some x) a) (fun τ => f_X10_pass τ (some (x + 15)) a) (some x) (some (x + 15)) σ (JJ x sl (i + 5)) := by
  have r := h.2.1
  refine lcV_mono (k_pass h.1 (h.rm hi) r.1.2 r.1.1 a) (fun τ hh => ?_)
  by_cases hb : passB ms a = true
  · rw [if_pos hb] at hh
    obtain ⟨t', q1⟩ := r.pass hb
    have e : Phi (k_pI (okM ms) 1 (ms.1 1 + a)) n np = Phi ms n np := rfl
    exact h.nx hh.1 q1 hh.2 (by omega) (by omega)
  · rw [if_neg hb] at hh
    exact h.no hh.1 hh.2 (by omega) (by omega)
theorem j_packet (h : JA x sl i σ ms n np M t) (hi : i ≤ 2560) (a w : Int32) : lcI cdL_packet (f_X9_packet σ (some x) a w) (fun τ => f_X10_packet τ (some (x + 15)) a w) (some x) (some (x + 15)) (some (x + 49)) σ (JJ x sl (i + 5)) := by
  have f := h.2.1.2.2.2.2.2.2.1
  refine lcI_mono (k_packet h.1 (h.rm hi) f.2.1 f.1 a w) (fun τ hh => ?_)
  by_cases hb : decide (1 ≤ a ∧ a ≤ nI np) = true
  · rw [if_pos hb] at hh
    exact h.no hh.1 hh.2 (by omega) (by omega)
  · rw [if_neg hb] at hh
    exact h.no hh.1 hh.2 (by omega) (by omega)
theorem j_truth (h : JA x sl i σ ms n np M t) (ep : Int32) : lcN (f_X9_truth σ (some x) ep) (fun τ => f_X10_truth τ (some (x + 15)) ep) (some x) (some (x + 15)) σ (JJ x sl (i + 5)) := by
  have b := h.2.1.2.2.1
  exact lcN_mono (k_truth h.1 b.2.1 b.1 (fun j hj h0 => (b.2.2 j hj h0).1) ep) (fun τ hh => h.no hh.1 hh.2 (by omega) (by omega))
theorem j_count (h : JA x sl i σ ms n np M t) (w : Int32) : lcN (f_X9_count σ (some x) w) (fun τ => f_X10_count τ (some (x + 15)) w) (some x) (some (x + 15)) σ (JJ x sl (i + 5)) := by
  have b := h.2.1.2.2.1
  have d := h.2.1.2.2.2.2.2.1
  exact lcN_mono (k_count h.1 (fun j hj h0 => cnt_none _ _ (fun k h1 h2 => (b.2.2 j hj h0).1 k h1 h2)) (fun s hs h0 => cnt_none _ _ (fun k h1 h2 => d.2.2.2.2.2 s hs h0 k h1 h2)) w) (fun τ hh => h.no hh.1 hh.2 (by omega) (by omega))
end JST
