/-! WHAT A CALL MAKES: new cells behind the heap's end -/
def Ext (σ σ' : HS) : Prop := h_sz σ ≤ h_sz σ' ∧ (∀ b, b < h_sz σ → Sm σ σ' b) ∧ ∀ a, h_sz σ' ≤ a → h_tg σ' a = 0
theorem Ext_rpl {σ : HS} {a : Nat} (B : N0 σ a) (l : List Op) : Ext σ (rpl a l σ) := by
  refine ⟨by rw [rpl_sz B, B.1]; omega, fun b hb => rpl_lo B (by rw [← B.1]; exact hb) l, fun c hc => ?_⟩
  rw [rpl_sz B] at hc
  obtain ⟨d, rfl⟩ : ∃ d, c = a + d := ⟨c - a, by omega⟩
  rw [rpl_tg B]
  exact tgL_far l (by omega)
section ALC
variable {fx : Bool} {σ σ' : HS} {x a : Nat} {G : Nat → Nat → Nat} {ms : MS}
theorem Rep.lt (R : Rep fx σ x G ms) {b : Nat} (h : h_tg σ b ≠ 0) : b < h_sz σ := Nat.lt_of_not_le (fun z => h (R.1.2.1 b z))
theorem Rep.n0 (R : Rep fx σ x G ms) : N0 σ (h_sz σ) := ⟨rfl, R.1.2.1⟩
theorem Rep.ext (R : Rep fx σ x G ms) (E : Ext σ σ') : Rep fx σ' x G ms := by
  have hs : ∀ b, h_tg σ b ≠ 0 → Sm σ σ' b := fun b h => E.2.1 b (R.lt h)
  have h50 := R.1.1
  have hlo : ∀ k, k ≤ 49 → Sm σ σ' (x + k) := fun k hk => E.2.1 _ (by omega)
  obtain ⟨Z, F, N, Rr, W, K, S, T⟩ := R
  have h0 : Sm σ σ' x := hlo 0 (by omega)
  refine ⟨⟨by have := E.1; omega, E.2.2, fun b h1 h2 => ?_⟩, F.to ⟨fun b hb => ?_, h0.2.2.2.1, (hlo 1 (by omega)).2.2.2.1, (hlo 10 (by omega)).2.2.2.1⟩, N.to h0 rfl rfl rfl rfl rfl rfl, Rr.to (hlo 10 (by omega)) (hlo 11 (by omega)) rfl rfl (fun _ => rfl), W.to (hlo 8 (by omega)) (hlo 9 (by omega)) rfl (fun _ => rfl) (fun _ => rfl), K.to (hlo 14 (by omega)) (fun b hb => hs b (by rw [hb]; decide)) rfl (fun _ _ _ _ => rfl), S.to (hlo 2 (by omega)) (fun b hb => hs b (by rcases hb with h | h | h | h <;> rw [h] <;> decide)) (fun i hi hp => ?_) rfl (fun _ _ _ _ => rfl) rfl, T.to (hlo 7 (by omega)) (fun b hb => hs b (by rcases hb with h | h | h | h | h | h <;> rw [h] <;> decide)) rfl (fun _ _ _ _ => rfl)⟩
  · rw [(E.2.1 b (by omega)).1]
    exact Z.2.2 b h1 h2
  · exact ⟨(E.2.1 b (by omega)).1, (E.2.1 b (by omega)).2.1⟩
  · obtain ⟨-, -, -, -, -, -, ⟨-, b1, -⟩, -⟩ := (S.2.2 i hi).2 hp
    exact hs _ (by rw [b1]; decide)
theorem MV.ext {m : Nat} {A : Nat → Nat} (V : MV σ m A ms) (hz : ∀ b, h_sz σ ≤ b → h_tg σ b = 0) (E : Ext σ σ') : MV σ' m A ms := by
  have hs : ∀ b, h_tg σ b ≠ 0 → Sm σ σ' b := fun b h => E.2.1 b (Nat.lt_of_not_le (fun z => h (hz b z)))
  exact V.to (hs m (by rw [V.1]; decide)) (fun k hk => hs _ (by rw [(V.2.1 k hk).2.1]; exact hk))
theorem E_gI (B : N0 σ a) {l : List Op} {t off k : Nat} {v : Int32} (h : tgL off l = t) (ht : t ≠ 0) (h2 : ivL off k l = v) : h_gI (rpl a l σ) (some (a + off)) t k = some v := by
  rw [gI_s ((rpl_tg B off l).trans h), rpl_iv B _ _ _ (Or.inl (tg_lt h ht)), h2]
end ALC
def pS1 (b l c p : Int32) : List Op := (0, 5, 0, 2, 0) :: ([] : List Op)
def pS2 (b l c p : Int32) : List Op := (2, 0, 0, 0, b) :: (pS1 b l c p)
def pS3 (b l c p : Int32) : List Op := (2, 0, 1, 0, l) :: (pS2 b l c p)
def pS4 (b l c p : Int32) : List Op := (0, 7, 0, 5, 0) :: (pS3 b l c p)
def pS5 (b l c p : Int32) : List Op := (2, 1, 0, 0, c) :: (pS4 b l c p)
def pS6 (b l c p : Int32) : List Op := (2, 1, 1, 0, p) :: (pS5 b l c p)
def pS7 (b l c p : Int32) : List Op := (1, 1, 2, 0, 0) :: (pS6 b l c p)
def pS8 (b l c p : Int32) : List Op := (0, 103, 16, 16, 0) :: (pS7 b l c p)
def pS9 (b l c p : Int32) : List Op := (1, 1, 3, 2, 0) :: (pS8 b l c p)
def pS10 (b l c p : Int32) : List Op := (0, 101, 8, 8, 0) :: (pS9 b l c p)
def pS11 (b l c p : Int32) : List Op := (1, 1, 4, 3, 0) :: (pS10 b l c p)
def pS12 (b l c p : Int32) : List Op := lm6 3 0 8 (pS11 b l c p)
section ALP
variable {σ : HS} {a : Nat} {b l c p : Int32}
theorem of_no (h : vpB b l = false) : f_X4_of σ b l = some (none, σ) := by
  unfold f_X4_of
  by_cases h1 : l < 0
  · rw [if_pos h1]
  · rw [if_neg h1]
    by_cases h2 : 32 < l
    · rw [if_pos h2]
    · rw [if_neg h2]
      obtain ⟨n, hn, rfl⟩ := i32 ⟨Int32.not_lt.mp h1, Int32.not_lt.mp h2⟩
      rw [mask_eq σ hn, h_bd_s, if_neg]
      intro z
      have hv : vb n b = true := by unfold vb; exact decide_eq_true z
      unfold vpB at h
      rw [decide_eq_true ⟨Int32.not_lt.mp h1, Int32.not_lt.mp h2⟩, nI_clamp (by omega), hv] at h
      cases h
theorem of_yes (B : N0 σ a) (hz : a + 1 ≤ h_cz σ) (hs : h_sl σ + 2 ≤ h_ck σ) (h : vpB b l = true) (c p : Int32) : f_X4_of σ b l = some (some (a + 0), rpl a (pS3 b l c p) σ) := by
  obtain ⟨n, hn, rfl, hv⟩ := vpB_nI h
  have hv' : b &&& (mk n ^^^ (-1)) = 0 := of_decide_eq_true hv
  unfold f_X4_of
  rw [if_neg (nI_pos (by omega)), if_neg (show ¬ (32 : Int32) < nI n from Int32.not_lt.mpr (nI_le (a := n) (b := 32) hn (by decide))), mask_eq σ hn, h_bd_s, if_pos hv']
  have e : h_mk σ 5 2 = some (some (a + 0), rpl a (pS1 b (nI n) c p) σ) := E_mk B (l := ([] : List Op)) (l' := (pS1 b (nI n) c p)) (t := 5) (n := 2) (c := 0) (w := 0) rfl rfl rfl (by omega) (by omega)
  rw [e, h_bd_s, E_rcv B (l := (pS1 b (nI n) c p)) (off := 0) (t := 5) rfl, h_b1_s]
  unfold f_X4_init
  rw [h_b1_s, E_pI B (l := (pS1 b (nI n) c p)) (l' := (pS2 b (nI n) c p)) (off := 0) (t := 5) (k := 0) (v := b) rfl rfl, h_b1_s, E_pI B (l := (pS2 b (nI n) c p)) (l' := (pS3 b (nI n) c p)) (off := 0) (t := 5) (k := 1) (v := nI n) rfl rfl, h_b1_s, h_bd_s]
theorem sv_init (B : N0 σ a) (hz : a + 4 ≤ h_cz σ) (hs : h_sl σ + 31 ≤ h_ck σ) : f_X6_init (rpl a (pS4 b l c p) σ) (some (a + 1)) c p (some (a + 0)) = some ((), rpl a (pS12 b l c p) σ) := by
  unfold f_X6_init
  rw [h_b1_s, E_pI B (l := (pS4 b l c p)) (l' := (pS5 b l c p)) (off := 1) (t := 7) (k := 0) (v := c) rfl rfl, h_b1_s, E_pI B (l := (pS5 b l c p)) (l' := (pS6 b l c p)) (off := 1) (t := 7) (k := 1) (v := p) rfl rfl, h_b1_s, E_pR B (l := (pS6 b l c p)) (l' := (pS7 b l c p)) (off := 1) (t := 7) (k := 2) (r := 0) rfl rfl, h_b1_s, E_mkA B (l := (pS7 b l c p)) (l' := (pS8 b l c p)) (t := 103) (n := 16) (len := 16) (c := 2) (w := 7) rfl rfl (by decide) rfl rfl (by omega) (by omega), h_bd_s, E_pR B (l := (pS8 b l c p)) (l' := (pS9 b l c p)) (off := 1) (t := 7) (k := 3) (r := 2) rfl rfl, h_b1_s, E_mkA B (l := (pS9 b l c p)) (l' := (pS10 b l c p)) (t := 101) (n := 8) (len := 8) (c := 3) (w := 23) rfl rfl (by decide) rfl rfl (by omega) (by omega), h_bd_s, E_pR B (l := (pS10 b l c p)) (l' := (pS11 b l c p)) (off := 1) (t := 7) (k := 4) (r := 3) rfl rfl, h_b1_s]
  exact lq6 B 8 h_hN 0 (pS11 b l c p) rfl (by decide) rfl rfl rfl rfl
theorem sv_mk (B : N0 σ a) (hz : a + 4 ≤ h_cz σ) (hs : h_sl σ + 31 ≤ h_ck σ) : h_mk (rpl a (pS3 b l c p) σ) 7 5 = some (some (a + 1), rpl a (pS4 b l c p) σ) := E_mk B (l := (pS3 b l c p)) (l' := (pS4 b l c p)) (t := 7) (n := 5) (c := 1) (w := 2) rfl rfl rfl (by omega) (by omega)
theorem sv_rcv (B : N0 σ a) : h_rcv (rpl a (pS4 b l c p) σ) (some (a + 1)) 7 = some (a + 1) := E_rcv B (l := (pS4 b l c p)) (off := 1) (t := 7) rfl
end ALP
-- server: list pS12, 4 cells, 31 places
abbrev pSp (b l c p : Int32) : List Op := pS3 b l c p
abbrev pSs (b l c p : Int32) : List Op := pS4 b l c p
abbrev pSx (b l c p : Int32) : List Op := pS12 b l c p
def sT1 (p : Int32) : List Op := (0, 8, 0, 5, 0) :: ([] : List Op)
def sT2 (p : Int32) : List Op := (2, 0, 0, 0, p) :: (sT1 p)
def sT3 (p : Int32) : List Op := (0, 106, 4, 4, 0) :: (sT2 p)
def sT4 (p : Int32) : List Op := (1, 0, 2, 1, 0) :: (sT3 p)
def sT5 (p : Int32) : List Op := (0, 3, 0, 2, 0) :: (sT4 p)
def sT6 (p : Int32) : List Op := (0, 104, 6, 6, 0) :: (sT5 p)
def sT7 (p : Int32) : List Op := (1, 2, 0, 3, 0) :: (sT6 p)
def sT8 (p : Int32) : List Op := (1, 0, 4, 2, 0) :: (sT7 p)
section ALT
variable {σ : HS} {a : Nat} {p : Int32}
theorem si_mk (B : N0 σ a) (hz : a + 4 ≤ h_cz σ) (hs : h_sl σ + 17 ≤ h_ck σ) : h_mk σ 8 5 = some (some (a + 0), rpl a (sT1 p) σ) := E_mk B (l := ([] : List Op)) (l' := (sT1 p)) (t := 8) (n := 5) (c := 0) (w := 0) rfl rfl rfl (by omega) (by omega)
theorem si_rcv (B : N0 σ a) : h_rcv (rpl a (sT1 p) σ) (some (a + 0)) 8 = some (a + 0) := E_rcv B (l := (sT1 p)) (off := 0) (t := 8) rfl
theorem si_X2 (B : N0 σ a) (hz : a + 4 ≤ h_cz σ) (hs : h_sl σ + 17 ≤ h_ck σ) : f_X2_init (rpl a (sT5 p) σ) (some (a + 2)) = some ((), rpl a (sT7 p) σ) := by
  unfold f_X2_init
  rw [h_b1_s, E_mkA B (l := (sT5 p)) (l' := (sT6 p)) (t := 104) (n := 6) (len := 6) (c := 3) (w := 11) rfl rfl (by decide) rfl rfl (by omega) (by omega), h_bd_s, E_pR B (l := (sT6 p)) (l' := (sT7 p)) (off := 2) (t := 3) (k := 0) (r := 3) rfl rfl, h_b1_s]
theorem si_init (B : N0 σ a) (hz : a + 4 ≤ h_cz σ) (hs : h_sl σ + 17 ≤ h_ck σ) : f_X7_init (rpl a (sT1 p) σ) (some (a + 0)) p = some ((), rpl a (sT8 p) σ) := by
  unfold f_X7_init
  rw [h_b1_s, E_pI B (l := (sT1 p)) (l' := (sT2 p)) (off := 0) (t := 8) (k := 0) (v := p) rfl rfl, h_b1_s, E_mkA B (l := (sT2 p)) (l' := (sT3 p)) (t := 106) (n := 4) (len := 4) (c := 1) (w := 5) rfl rfl (by decide) rfl rfl (by omega) (by omega), h_bd_s, E_pR B (l := (sT3 p)) (l' := (sT4 p)) (off := 0) (t := 8) (k := 2) (r := 1) rfl rfl, h_b1_s, E_mk B (l := (sT4 p)) (l' := (sT5 p)) (t := 3) (n := 2) (c := 2) (w := 9) rfl rfl rfl (by omega) (by omega), h_bd_s, E_rcv B (l := (sT5 p)) (off := 2) (t := 3) rfl, h_b1_s, si_X2 B hz hs, h_bd_s, E_pR B (l := (sT7 p)) (l' := (sT8 p)) (off := 0) (t := 8) (k := 4) (r := 2) rfl rfl, h_b1_s]
end ALT
abbrev sTo (p : Int32) : List Op := sT1 p
abbrev sTx (p : Int32) : List Op := sT8 p
-- site: 4 cells, 17 places
