/-! from 94.reply -/
section
/-! A REPLY comes -/
def nN (b l pl v e : Int32) : List Op := (2, 1, 3, 0, e) :: (2, 1, 2, 0, v) :: (2, 1, 1, 0, pl) :: (1, 1, 0, 0, 0) :: (0, 2, 0, 4, 0) :: pSp b l 0 0
/-- no two packets wait with one nonce -/
def WN (ms : MS) (np : Nat) : Prop := ∀ i j, 1 ≤ i → i ≤ np → 1 ≤ j → j ≤ np → ms.2.1 31 i = 0 → ms.2.1 31 j = 0 → ms.2.1 32 i = ms.2.1 32 j → i = j
section RPL
variable {fx : Bool} {σ σ' : HS} {x : Nat} {G : Nat → Nat → Nat} {ms ms' : MS}
def lstB (ms : MS) (s : Int32) (i : Nat) : Bool := decide (ms.2.1 29 i = s) && (decide (ms.2.1 31 i = 0) && decide (ms.2.1 32 i = ms.2.1 38 0))
theorem lst_fo (s : Int32) : ∀ (c i : Nat) (o : Option Nat), (∃ j, i ≤ j ∧ j < i + c ∧ lstB ms s j = true ∧ fo (lst ms s) i c o = some j) ∨ ((∀ j, i ≤ j → j < i + c → lstB ms s j = false) ∧ fo (lst ms s) i c o = o)
  | 0, i, o => Or.inr ⟨fun j h1 h2 => by omega, rfl⟩
  | c + 1, i, o => by
    show (∃ j, i ≤ j ∧ j < i + (c + 1) ∧ lstB ms s j = true ∧ fo (lst ms s) (i + 1) c (if lstB ms s i = true then some i else o) = some j) ∨ ((∀ j, i ≤ j → j < i + (c + 1) → lstB ms s j = false) ∧ fo (lst ms s) (i + 1) c (if lstB ms s i = true then some i else o) = o)
    rcases lst_fo s c (i + 1) (if lstB ms s i = true then some i else o) with ⟨j, h1, h2, h3, h4⟩ | ⟨h1, h2⟩
    · exact Or.inl ⟨j, by omega, by omega, h3, h4⟩
    · cases hb : lstB ms s i with
      | true =>
        rw [hb, if_pos rfl] at h2
        exact Or.inl ⟨i, by omega, by omega, hb, by rw [if_pos rfl]; exact h2⟩
      | false =>
        rw [hb, if_neg (by decide)] at h2
        refine Or.inr ⟨fun j h3 h4 => ?_, by rw [if_neg (by decide)]; exact h2⟩
        by_cases e : j = i
        · rw [e]; exact hb
        · exact h1 j (by omega) (by omega)
theorem wt_eq {s : Int32} {np : Nat} (W : WN ms np) : wtF ms s np = (ff (wtP ms s (ms.2.1 38 0)) 0 np).map (· + 1) := by
  have hB : ∀ i, wtP ms s (ms.2.1 38 0) i = lstB ms s (i + 1) := fun i => by
    unfold wtP lstB
    cases decide (ms.2.1 31 (i + 1) = 0) <;> cases decide (ms.2.1 29 (i + 1) = s) <;> rfl
  unfold wtF
  rcases lst_fo (ms := ms) s np 1 none with ⟨j, h1, h2, h3, h4⟩ | ⟨h1, h2⟩
  · rw [h4]
    cases hf : ff (wtP ms s (ms.2.1 38 0)) 0 np with
    | none =>
      have := ff_none.mp hf (j - 1) (by omega) (by omega)
      rw [hB, show j - 1 + 1 = j by omega, h3] at this
      cases this
    | some k =>
      obtain ⟨-, g2, g3, -⟩ := ff_some.mp hf
      rw [hB] at g3
      obtain ⟨-, a2⟩ := (Bool.and_eq_true _ _).mp h3
      obtain ⟨a3, a4⟩ := (Bool.and_eq_true _ _).mp a2
      obtain ⟨-, b2⟩ := (Bool.and_eq_true _ _).mp g3
      obtain ⟨b3, b4⟩ := (Bool.and_eq_true _ _).mp b2
      have := W j (k + 1) (by omega) (by omega) (by omega) (by omega) (of_decide_eq_true a3) (of_decide_eq_true b3) ((of_decide_eq_true a4).trans (of_decide_eq_true b4).symm)
      rw [this]
      rfl
  · rw [h2]
    have : ff (wtP ms s (ms.2.1 38 0)) 0 np = none := ff_none.mpr (fun j g1 g2 => by rw [hB]; exact h1 (j + 1) (by omega) (by omega))
    rw [this]
    rfl
theorem c_val (so v : Int32) : f_X9_isValue σ so v = some (b2i (decide (0 ≤ so ∧ so ≤ 2) && valB so v), σ) := by
  unfold f_X9_isValue valB
  by_cases h0 : so = 0
  · rw [if_pos h0, if_pos h0, decide_eq_true (show 0 ≤ so ∧ so ≤ 2 by rw [h0]; decide), Bool.true_and]
    by_cases h1 : v < 0
    · rw [if_pos h1, decide_eq_false (fun z => absurd h1 (Int32.not_lt.mpr z.1))]; rfl
    · rw [if_neg h1]
      by_cases h2 : 8 ≤ v
      · rw [if_pos h2, decide_eq_false (fun z => absurd (Int32.le_trans h2 z.2) (by decide))]; rfl
      · obtain ⟨k, hk, rfl⟩ := b8 h1 (Int32.not_le.mp h2)
        rw [if_neg h2, decide_eq_true ⟨Int32.not_lt.mp h1, nI_le (a := k) (b := 7) (by omega) (by decide)⟩]; rfl
  rw [if_neg h0, if_neg h0]
  by_cases h1 : so = 1
  · rw [if_pos h1, c_isPlace, h_bd_s, decide_eq_true (show 0 ≤ so ∧ so ≤ 2 by rw [h1]; decide), Bool.true_and, if_neg (show ¬ so = 2 by rw [h1]; decide)]
    cases decide (0 ≤ v ∧ v ≤ 15) with
    | false => rw [if_pos (show b2i false = 0 ∨ b2i false = 1 from Or.inl rfl)]
    | true => rw [if_pos (show b2i true = 0 ∨ b2i true = 1 from Or.inr rfl)]
  rw [if_neg h1]
  by_cases h2 : so = 2
  · rw [if_pos h2, if_pos h2, decide_eq_true (show 0 ≤ so ∧ so ≤ 2 by rw [h2]; decide)]; rfl
  · rw [if_neg h2, if_neg h2, decide_eq_false (fun z => by
      obtain ⟨k, hk, e⟩ := nI_of2 (M := 2) (n := 2) (by decide) (Int32.not_lt.mpr z.1) z.2
      rcases (show k = 0 ∨ k = 1 ∨ k = 2 by omega) with e' | e' | e' <;> rw [e'] at e
      · exact h0 e
      · exact h1 e
      · exact h2 e)]
    rfl
theorem mnM_1 {s : Nat} {b l pl v : Int32} {k : Nat} (h : k ≠ 25) : (mnM ms s b l pl v).1 k = ms.1 k := by
  unfold mnM
  split
  · show (k_pI _ 25 _).1 k = _
    rw [pI_n1 h]
    rfl
  · rfl
/-- a REFERRAL -/
theorem a_refer (P : Rep fx σ x G ms) {n i np : Nat} (hn : ms.1 36 = nI n) (h : n ≤ 200) (hnp : ms.1 28 = nI np) (hnp2 : np ≤ 200) (hi : i < np) {k : Nat} (hk : k ≤ 8) (hk2 : ms.2.1 34 (i + 1) = nI k) : ∃ σ', f_X9_refer σ (some x) (some (G 7 i)) (ms.2.1 38 4) = some ((), σ') ∧ Rep fx σ' x G (rfrM ms n (i + 1)) ∧ Kp x 0 0 σ σ' := by
  obtain ⟨t1, -, -, -, -, -, -, v6, -⟩ := pkt P hnp hnp2 hi
  have P1 := Rep_pk P (k := 6) (v := nI k + 1) hnp hnp2 hi (by omega)
  have K1 := Kp_pk P (k := 6) (v := nI k + 1) hnp hnp2 hi
  have hv : h_iv (h_setI σ (G 7 i) 6 (nI k + 1)) (G 7 i) 6 = nI (k + 1) := by rw [iv_sI, nI_c1]
  have t2 : h_tg (h_setI σ (G 7 i) 6 (nI k + 1)) (G 7 i) = 4 := t1
  have e34 : ms.2.1 34 (i + 1) + 1 = nI (k + 1) := by rw [hk2, nI_c1]
  unfold f_X9_refer rfrM
  rw [gI_s t1, v6, hk2, h_b1_s, pI_s t1, h_b1_s, gI_s t2, hv, h_b1_s]
  have e0 : aS ms (6 + 28) (i + 1) (nI k + 1) = aS ms 34 (i + 1) (nI k + 1) := rfl
  by_cases h9 : k = 8
  · rw [if_neg (show ¬ nI (k + 1) < 9 by rw [h9]; decide), if_pos (show nI k + 1 = 9 by rw [h9]; decide), pI_s t2, h_b1_s]
    have P2 := Rep_pk P1 (k := 3) (v := 3) (i := i) hnp hnp2 hi (by omega)
    have K2 := Kp_pk P1 (k := 3) (v := 3) (i := i) hnp hnp2 hi
    exact ⟨_, rfl, P2, K1.tr0 K2⟩
  · have hlt : nI (k + 1) < 9 := nI_lt (a := k + 1) (b := 9) (by omega) (by decide)
    rw [if_pos hlt, if_neg (show ¬ nI k + 1 = 9 by rw [nI_c1]; intro z; rw [z] at hlt; exact absurd hlt (by decide)), rcv_s P1.2.1.1, h_b1_s]
    obtain ⟨σ', r1, r2, r3⟩ := a_ask P1 (i := i) (ms.2.1 38 4) hn h hnp hnp2 hi
    exact ⟨σ', by rw [r1, h_bd_s], r2, K1.tr0 r3⟩
theorem ignore (P : Rep fx σ' x G ms) {d s : Nat} (K : Kq x d s σ σ') : j_X9_takeReply_88 σ' (some x) = some ((), h_setI σ' x 12 (ms.1 40 + 1)) ∧ Rep fx (h_setI σ' x 12 (ms.1 40 + 1)) x G (ignM ms) ∧ Kq x d s σ (h_setI σ' x 12 (ms.1 40 + 1)) := by
  refine ⟨?_, Rep_xi P (k := 12) (by omega), K.tr (Kp_x P).q⟩
  unfold j_X9_takeReply_88
  rw [gI_s P.2.1.1, P.2.2.1.2.2.2.2.1, h_b1_s, pI_s P.2.1.1, h_b1_s]
/-- a note is made, and what it says is done -/
theorem a_hit (P : Rep fx σ x G ms) (H : Hd fx σ x ms) (hk : ms.2.1 38 6 = 2) (hz : h_sz σ + 2 ≤ h_cz σ) (hsl : h_sl σ + 6 ≤ h_ck σ) {t : Nat} (ht : ms.1 1 = nI t) (ht2 : t ≤ 1000000) {s n i np m : Nat} (hs : s < 8) (hps : ¬ ms.2.1 14 s = -1) (O : ON ms s) (hL : ∀ k, k < 48 → Ln (ms.2.1 20 k)) (hn : ms.1 36 = nI n) (hn2 : n ≤ 200) (hnp : ms.1 28 = nI np) (hnp2 : np ≤ 200) (hi : i < np) (hm : m ≤ 32) (hl : ms.2.1 38 3 = nI m) (hvb : vb m (ms.2.1 38 2) = true) {pl v' : Int32} (hvv : ms.2.1 38 5 = v' ∨ (fx = false ∧ pl = -1)) :
    ∃ τ σ', h_mk (rpl (h_sz σ) (pSp (ms.2.1 38 2) (ms.2.1 38 3) 0 0) σ) 2 4 = some (some (h_sz σ + 1), τ) ∧ j_X9_takeReply_133 τ (some x) (some (G 3 s)) (some (G 7 i)) pl (some (h_sz σ + 0)) (some (h_sz σ + 1)) (some (h_sz σ + 1)) = some ((), σ') ∧ Rep fx σ' x G (folM (mnM ms s (ms.2.1 38 2) (ms.2.1 38 3) pl v') n (i + 1) pl) ∧ Kq x 2 6 σ σ' := by
  have B := P.n0
  have h50 := P.1.1
  have h3 : ¬ ms.2.1 38 6 = 3 := by rw [hk]; decide
  have hmk : h_mk (rpl (h_sz σ) (pSp (ms.2.1 38 2) (ms.2.1 38 3) 0 0) σ) 2 4 = some (some (h_sz σ + 1), rpl (h_sz σ) ((0, 2, 0, 4, 0) :: pSp (ms.2.1 38 2) (ms.2.1 38 3) 0 0) σ) := E_mk B (l := pSp (ms.2.1 38 2) (ms.2.1 38 3) 0 0) (l' := (0, 2, 0, 4, 0) :: pSp (ms.2.1 38 2) (ms.2.1 38 3) 0 0) (c := 1) (w := 2) rfl rfl rfl (by omega) (by omega)
  have P1 := P.ext (Ext_rpl B ((0, 2, 0, 4, 0) :: pSp (ms.2.1 38 2) (ms.2.1 38 3) 0 0))
  have H1 : Hd fx (rpl (h_sz σ) ((0, 2, 0, 4, 0) :: pSp (ms.2.1 38 2) (ms.2.1 38 3) 0 0) σ) x ms := H.to (rpl_lo B (by omega) _)
  have hrc : h_rcv (rpl (h_sz σ) ((0, 2, 0, 4, 0) :: pSp (ms.2.1 38 2) (ms.2.1 38 3) 0 0) σ) (some (h_sz σ + 1)) 2 = some (h_sz σ + 1) := E_rcv B rfl
  have P2 := P.ext (Ext_rpl B (nN (ms.2.1 38 2) (ms.2.1 38 3) pl (ms.2.1 38 5) (ms.1 1 + 60)))
  have K2 : Kq x 2 6 σ (rpl (h_sz σ) (nN (ms.2.1 38 2) (ms.2.1 38 3) pl (ms.2.1 38 5) (ms.1 1 + 60)) σ) := Kq_rpl P _ (by exact Nat.le_refl 2) (by exact Nat.le_refl 6)
  have hini : f_X1_init (rpl (h_sz σ) ((0, 2, 0, 4, 0) :: pSp (ms.2.1 38 2) (ms.2.1 38 3) 0 0) σ) (some (h_sz σ + 1)) (some (h_sz σ + 0)) pl (ms.2.1 38 5) (ms.1 1) = some ((), rpl (h_sz σ) (nN (ms.2.1 38 2) (ms.2.1 38 3) pl (ms.2.1 38 5) (ms.1 1 + 60)) σ) := by
    unfold f_X1_init nN
    rw [h_b1_s, E_pR B (t := 2) (l' := (1, 1, 0, 0, 0) :: (0, 2, 0, 4, 0) :: pSp (ms.2.1 38 2) (ms.2.1 38 3) 0 0) (off := 1) (r := 0) rfl rfl, h_b1_s, E_pI B (t := 2) (l' := (2, 1, 1, 0, pl) :: (1, 1, 0, 0, 0) :: (0, 2, 0, 4, 0) :: pSp (ms.2.1 38 2) (ms.2.1 38 3) 0 0) (off := 1) rfl rfl, h_b1_s, E_pI B (t := 2) (l' := (2, 1, 2, 0, ms.2.1 38 5) :: (2, 1, 1, 0, pl) :: (1, 1, 0, 0, 0) :: (0, 2, 0, 4, 0) :: pSp (ms.2.1 38 2) (ms.2.1 38 3) 0 0) (off := 1) rfl rfl, h_b1_s, E_pI B (t := 2) (l' := (2, 1, 3, 0, ms.1 1 + 60) :: (2, 1, 2, 0, ms.2.1 38 5) :: (2, 1, 1, 0, pl) :: (1, 1, 0, 0, 0) :: (0, 2, 0, 4, 0) :: pSp (ms.2.1 38 2) (ms.2.1 38 3) 0 0) (off := 1) rfl rfl, h_b1_s]
  have hp2 : hP (rpl (h_sz σ) (nN (ms.2.1 38 2) (ms.2.1 38 3) pl (ms.2.1 38 5) (ms.1 1 + 60)) σ) (h_sz σ + 0) (ms.2.1 38 2) m := ⟨rpl_tg B 0 _, rpl_iv B 0 0 (nN (ms.2.1 38 2) (ms.2.1 38 3) pl (ms.2.1 38 5) (ms.1 1 + 60)) (Or.inl (show 0 < 2 by decide)), (rpl_iv B 0 1 (nN (ms.2.1 38 2) (ms.2.1 38 3) pl (ms.2.1 38 5) (ms.1 1 + 60)) (Or.inl (show 0 < 2 by decide))).trans hl, hm, hvb⟩
  have q1 : h_tg (rpl (h_sz σ) (nN (ms.2.1 38 2) (ms.2.1 38 3) pl (ms.2.1 38 5) (ms.1 1 + 60)) σ) (h_sz σ + 1) = 2 := rpl_tg B 1 _
  have q2 : h_rv (rpl (h_sz σ) (nN (ms.2.1 38 2) (ms.2.1 38 3) pl (ms.2.1 38 5) (ms.1 1 + 60)) σ) (h_sz σ + 1) 0 = some (h_sz σ + 0) := rpl_rv B 1 0 (nN (ms.2.1 38 2) (ms.2.1 38 3) pl (ms.2.1 38 5) (ms.1 1 + 60)) (Or.inl (show 1 < 2 by decide))
  have q3 : h_iv (rpl (h_sz σ) (nN (ms.2.1 38 2) (ms.2.1 38 3) pl (ms.2.1 38 5) (ms.1 1 + 60)) σ) (h_sz σ + 1) 1 = pl := rpl_iv B 1 1 (nN (ms.2.1 38 2) (ms.2.1 38 3) pl (ms.2.1 38 5) (ms.1 1 + 60)) (Or.inl (show 1 < 2 by decide))
  have q4 : h_iv (rpl (h_sz σ) (nN (ms.2.1 38 2) (ms.2.1 38 3) pl (ms.2.1 38 5) (ms.1 1 + 60)) σ) (h_sz σ + 1) 2 = ms.2.1 38 5 := rpl_iv B 1 2 (nN (ms.2.1 38 2) (ms.2.1 38 3) pl (ms.2.1 38 5) (ms.1 1 + 60)) (Or.inl (show 1 < 2 by decide))
  have q5 : h_iv (rpl (h_sz σ) (nN (ms.2.1 38 2) (ms.2.1 38 3) pl (ms.2.1 38 5) (ms.1 1 + 60)) σ) (h_sz σ + 1) 3 = ms.1 1 + 60 := rpl_iv B 1 3 (nN (ms.2.1 38 2) (ms.2.1 38 3) pl (ms.2.1 38 5) (ms.1 1 + 60)) (Or.inl (show 1 < 2 by decide))
  generalize rpl (h_sz σ) (nN (ms.2.1 38 2) (ms.2.1 38 3) pl (ms.2.1 38 5) (ms.1 1 + 60)) σ = τ2 at P2 K2 hini hp2 q1 q2 q3 q4 q5
  generalize rpl (h_sz σ) ((0, 2, 0, 4, 0) :: pSp (ms.2.1 38 2) (ms.2.1 38 3) 0 0) σ = τ1 at P1 H1 hmk hrc hini
  have I2 := P2.si hs hps
  obtain ⟨σ3, m1, m2, m3, m4⟩ := a_make P2 hs hps O hL ht ht2 (a1 := h_sz σ + 1) ⟨q1, h_sz σ + 0, _, _, q2, hp2⟩ q2 hp2 q3 q4 q5 (v' := v') hvv
  rw [← hl] at m2
  have hn' : (mnM ms s (ms.2.1 38 2) (ms.2.1 38 3) pl v').1 36 = nI n := by rw [mnM_1 (by decide)]; exact hn
  have hnp' : (mnM ms s (ms.2.1 38 2) (ms.2.1 38 3) pl v').1 28 = nI np := by rw [mnM_1 (by decide)]; exact hnp
  obtain ⟨σ4, g1, g2, g3⟩ := a_follow m2 (i := i) (a := h_sz σ + 1) (pl := pl) hn' hn2 hnp' hnp2 hi (by rw [m4.1]; exact q1) (by rw [m4.2.2.1]; exact q3)
  refine ⟨τ1, σ4, hmk, ?_, g2, (K2.tr m3).tr g3.q⟩
  have d5 : h_aI τ1 (some (x + 12)) 100 5 = some (ms.2.1 38 5) := (H1.at P1.2.1 (j := 5) (by omega) (nloose h3)).2
  have t1 : h_gI τ1 (some x) 10 9 = some (ms.1 1) := by rw [gI_s P1.2.1.1, P1.2.2.1.2.1]
  have t2 : h_gI τ2 (some x) 10 9 = some (ms.1 1) := by rw [gI_s P2.2.1.1, P2.2.2.1.2.1]
  have hnt : h_gR τ2 (some (G 3 s)) 8 4 = some (some (G 5 s)) := by rw [gR_s I2.1, I2.2.2.2.2.2.2.1.1]
  unfold j_X9_takeReply_133
  rw [(H1.at P1.2.1 (j := 0) (by omega) (nloose h3)).1, h_b1_s, d5, h_b1_s, t1, h_b1_s, hrc, h_b1_s, hini, h_bd_s, hnt, h_b1_s, t2, h_b1_s, rcv_s I2.2.2.2.2.2.2.1.2, h_b1_s, m1, h_bd_s, rcv_s m2.2.1.1, h_b1_s, g1, h_bd_s]
theorem a_reply (P : Rep fx σ x G ms) (H : Hd fx σ x ms) (hk : ms.2.1 38 6 = 2) (hfx : fx = false) (hz : h_sz σ + 2 ≤ h_cz σ) (hsl : h_sl σ + 6 ≤ h_ck σ) {t : Nat} (ht : ms.1 1 = nI t) (ht2 : t ≤ 1000000) {s n np : Nat} (hs : s < 8) (hps : ¬ ms.2.1 14 s = -1) (O : ON ms s) (hL : ∀ k, k < 48 → Ln (ms.2.1 20 k)) (hn : ms.1 36 = nI n) (hn2 : n ≤ 200) (hnp : ms.1 28 = nI np) (hnp2 : np ≤ 200) (W : WN ms np) (hst : ∀ i, i < np → ms.2.1 31 (i + 1) = 0 → ∃ k, k ≤ 8 ∧ ms.2.1 34 (i + 1) = nI k) :
    ∃ σ', f_X9_takeReply σ (some x) (nI s) = some ((), σ') ∧ Rep fx σ' x G (rplM ms n s (wtF ms (nI s) np)) ∧ Kq x 2 6 σ σ' := by
  have F := P.2.1
  have B := P.n0
  have h50 := P.1.1
  have h3 : ¬ ms.2.1 38 6 = 3 := by rw [hk]; decide
  have e5 := (H.at F (j := 0) (by omega) (nloose h3)).1
  have d0 : h_aI σ (some (x + 12)) 100 0 = some (ms.2.1 38 0) := (H.at F (j := 0) (by omega) (nloose h3)).2
  have d1 : h_aI σ (some (x + 12)) 100 1 = some (ms.2.1 38 1) := (H.at F (j := 1) (by omega) (nloose h3)).2
  have d2 : h_aI σ (some (x + 12)) 100 2 = some (ms.2.1 38 2) := (H.at F (j := 2) (by omega) (nloose h3)).2
  have d3 : h_aI σ (some (x + 12)) 100 3 = some (ms.2.1 38 3) := (H.at F (j := 3) (by omega) (nloose h3)).2
  have d4 : h_aI σ (some (x + 12)) 100 4 = some (ms.2.1 38 4) := (H.at F (j := 4) (by omega) (nloose h3)).2
  have hat := c_siteAt F P.2.2.2.2.2.2.2 (nI s)
  rw [siteB_i hs, decide_eq_true hps, if_pos rfl, nI_clamp (by omega)] at hat
  have hwt := c_waiting F P.2.2.1 P.2.2.2.2.2.1 (nI s) (ms.2.1 38 0) hnp hnp2
  rw [wt_eq W]
  unfold f_X9_takeReply
  rw [rcv_s F.1, h_b1_s, hat, h_bd_s, if_neg (fun z => by cases z), e5, h_b1_s, d1, h_b1_s, h_b1_s, d4, h_b1_s, h_b1_s, d0, h_b1_s, rcv_s F.1, h_b1_s, hwt, h_bd_s, e5, h_b1_s, d2, h_b1_s, h_b1_s, d3, h_b1_s]
  cases hv : vpB (ms.2.1 38 2) (ms.2.1 38 3) with
  | false =>
    obtain ⟨r1, r2, r3⟩ := ignore P (Kq.rf (x := x) (σ := σ))
    rw [of_no hv, h_bd_s]
    have hfin : rplM ms n s ((ff (wtP ms (nI s) (ms.2.1 38 0)) 0 np).map (· + 1)) = ignM ms := by
      cases ff (wtP ms (nI s) (ms.2.1 38 0)) 0 np with
      | none => rfl
      | some i =>
        show (if okR ms (i + 1) = true then _ else ignM ms) = ignM ms
        rw [if_neg (f_ne (by unfold okR; rw [hv]; cases decide (0 ≤ ms.2.1 38 1 ∧ ms.2.1 38 1 ≤ 2) <;> rfl))]
    refine ⟨_, ?_, by rw [hfin]; exact r2, r3.le (by omega) (by omega)⟩
    rw [if_pos rfl]
    by_cases hc : (ff (wtP ms (nI s) (ms.2.1 38 0)) 0 np).map (G 7) = none
    · rw [if_pos hc]; exact r1
    · rw [if_neg hc]; exact r1
  | true =>
    obtain ⟨m, hm, hl, hvb⟩ := vpB_nI hv
    have hof : f_X4_of σ (ms.2.1 38 2) (ms.2.1 38 3) = some (some (h_sz σ + 0), rpl (h_sz σ) (pSp (ms.2.1 38 2) (ms.2.1 38 3) 0 0) σ) := of_yes B (by omega) (by omega) hv 0 0
    have hp1 : hP (rpl (h_sz σ) (pSp (ms.2.1 38 2) (ms.2.1 38 3) 0 0) σ) (h_sz σ + 0) (ms.2.1 38 2) m := by rw [hl]; exact pxHP P hm hvb 0 0
    have K1 := pxK P (ms.2.1 38 2) (ms.2.1 38 3) 0 0
    have P1 := P.ext (Ext_rpl B (pSp (ms.2.1 38 2) (ms.2.1 38 3) 0 0))
    rw [hof, h_bd_s]
    cases hw : ff (wtP ms (nI s) (ms.2.1 38 0)) 0 np with
    | none =>
      obtain ⟨r1, r2, r3⟩ := ignore P1 K1
      exact ⟨_, by show (if none = none then _ else _) = _; rw [if_pos rfl]; exact r1, r2, r3.le (by omega) (by omega)⟩
    | some i =>
      obtain ⟨-, hi, hw2, -⟩ := ff_some.mp hw
      have hst0 : ms.2.1 31 (i + 1) = 0 := of_decide_eq_true ((Bool.and_eq_true _ _).mp hw2).1
      obtain ⟨k, hk8, hk34⟩ := hst i (by omega) hst0
      obtain ⟨t1, -, -, v2, -⟩ := pkt P1 hnp hnp2 (i := i) (by omega)
      show ∃ σ', (if some (G 7 i) = none then _ else _) = some ((), σ') ∧ Rep fx σ' x G (if okR ms (i + 1) = true then (if ms.2.1 38 1 = 0 then rfrM ms n (i + 1) else hitM ms n s (i + 1)) else ignM ms) ∧ _
      rw [show Option.map (G 7) (some i) = some (G 7 i) from rfl, if_neg (fun z => by cases z), if_neg (fun z => by cases z), gI_s t1, v2, h_b1_s, rcv_s hp1.1, h_b1_s, has_eq hp1, h_bd_s]
      obtain ⟨r1, r2, r3⟩ := ignore P1 K1
      have hok : okR ms (i + 1) = (ag m (ms.2.1 30 (i + 1)) (ms.2.1 38 2) && (decide (0 ≤ ms.2.1 38 1 ∧ ms.2.1 38 1 ≤ 2) && valB (ms.2.1 38 1) (ms.2.1 38 4))) := by
        unfold okR
        rw [hv, hl, ln_nI hm, ag_comm hm]
        cases decide (0 ≤ ms.2.1 38 1 ∧ ms.2.1 38 1 ≤ 2) <;> cases ag m (ms.2.1 30 (i + 1)) (ms.2.1 38 2) <;> rfl
      rw [hok]
      cases hag : ag m (ms.2.1 30 (i + 1)) (ms.2.1 38 2) with
      | false =>
        exact ⟨_, by rw [b2i_f, if_pos rfl]; exact r1, by rw [Bool.false_and, if_neg (by decide)]; exact r2, r3.le (by omega) (by omega)⟩
      | true =>
        rw [b2i_t, if_neg (by decide), c_val, h_bd_s, Bool.true_and]
        cases hval : (decide (0 ≤ ms.2.1 38 1 ∧ ms.2.1 38 1 ≤ 2) && valB (ms.2.1 38 1) (ms.2.1 38 4)) with
        | false =>
          exact ⟨_, by rw [b2i_f, if_pos rfl]; exact r1, by rw [if_neg (by decide)]; exact r2, r3.le (by omega) (by omega)⟩
        | true =>
          rw [b2i_t, if_neg (by decide), if_pos rfl]
          by_cases h0 : ms.2.1 38 1 = 0
          · rw [if_pos h0, if_pos h0, rcv_s P1.2.1.1, h_b1_s]
            obtain ⟨σ', g1, g2, g3⟩ := a_refer P1 hn hn2 hnp hnp2 (i := i) (by omega) hk8 hk34
            exact ⟨σ', by rw [g1, h_bd_s], g2, (K1.tr g3.q).le (by omega) (by omega)⟩
          · rw [if_neg h0, if_neg h0]
            unfold hitM
            by_cases h2 : ms.2.1 38 1 = 2
            · obtain ⟨τ, σ', g1, g2, g3, g4⟩ := a_hit P H hk hz hsl ht ht2 hs hps O hL hn hn2 hnp hnp2 (i := i) (by omega) hm hl hvb (pl := -1) (v' := 0) (Or.inr ⟨hfx, rfl⟩)
              exact ⟨σ', by rw [g1, h_bd_s, if_pos h2, g2], by rw [if_pos h2]; exact g3, g4⟩
            · obtain ⟨τ, σ', g1, g2, g3, g4⟩ := a_hit P H hk hz hsl ht ht2 hs hps O hL hn hn2 hnp hnp2 (i := i) (by omega) hm hl hvb (pl := ms.2.1 38 4) (v' := ms.2.1 38 5) (Or.inl rfl)
              exact ⟨σ', by rw [g1, h_bd_s, if_neg h2, g2], by rw [if_neg h2]; exact g3, g4⟩
end RPL
end
/-! from 95.data -/
section
/-! DATA comes; a SOLICIT comes -/
section DTA
variable {fx : Bool} {σ σ' : HS} {x : Nat} {G : Nat → Nat → Nat} {ms ms' : MS}
theorem los_post {n p : Nat} {v : Int32} {f : Nat → Int32} : losM (postM (k_pI ms 41 v) n f) p = postM (k_pI (losM ms p) 41 v) n f := by
  have e31 : ∀ {m : MS}, (postM m n f).2.1 31 p = m.2.1 31 p := postM_k (by decide)
  unfold losM
  rw [e31]
  show (if ms.2.1 31 p = 1 then _ else _) = _
  by_cases h : ms.2.1 31 p = 1
  · rw [if_pos h, if_pos h]
    unfold postM
    by_cases hn : n = 200
    · rw [if_pos hn, if_pos hn]
      rfl
    · rw [if_neg hn, if_neg hn]
      show ((_ : Nat → Int32), h_up2 (h_upA ms.2.1 37 _) 31 p 4, ms.2.2) = (_, h_upA (h_up2 ms.2.1 31 p 4) 37 _, ms.2.2)
      congr 2
      funext k j
      unfold h_up2 h_upA
      by_cases h1 : k = 37
      · have h2 : ¬ (k = 31 ∧ j = p) := fun z => by omega
        rw [if_neg h2, if_pos h1, if_pos h1]
        show _ = if j / 8 = n then f (j % 8) else (if 37 = 31 ∧ j = p then 4 else ms.2.1 37 j)
        rw [if_neg (show ¬ (37 = 31 ∧ j = p) from fun z => by omega)]
        rfl
      · rw [if_neg h1, if_neg h1]
  · rw [if_neg h, if_neg h]
/-- the fields behind the third of DATA are held loosely -/
theorem Rep_loose {n : Nat} {f g : Nat → Int32} (P : Rep fx σ x G (postM ms n f)) (hfx : fx = false) (hn : ms.1 36 = nI n) (hn2 : n ≤ 200) (h6 : f 6 = 3) (hfg : ∀ j, j < 8 → (j < 3 ∨ 5 < j) → f j = g j) : Rep fx σ x G (postM ms n g) := by
  have e1 : ∀ k, (postM ms n g).1 k = (postM ms n f).1 k := fun k => by unfold postM; split <;> rfl
  have e2 : ∀ k j, k ≠ 37 → (postM ms n g).2.1 k j = (postM ms n f).2.1 k j := fun k j h => by rw [postM_k h, postM_k h]
  have e3 : (postM ms n g).2.2 = (postM ms n f).2.2 := by rw [postM_L, postM_L]
  obtain ⟨Z, F, N, R, W, K, S, T⟩ := P
  refine ⟨Z, F, N.to Sm.rf (e1 _) (e1 _) (e1 _) (e1 _) (e1 _) (e1 _), ?_, W.to Sm.rf Sm.rf (e1 _) (fun _ => e2 _ _ (by decide)) (fun _ => e2 _ _ (by decide)), K.to Sm.rf (fun _ _ => Sm.rf) (e1 _) (fun k j _ _ => e2 _ _ (by omega)), S.to Sm.rf (fun _ _ => Sm.rf) (fun _ _ _ => Sm.rf) (e1 _) (fun k j _ _ => e2 _ _ (by omega)) e3, T.to Sm.rf (fun _ _ => Sm.rf) (e1 _) (fun k j _ _ => e2 _ _ (by omega))⟩
  obtain ⟨fi, m, a1, a2, a3, a4, a5, a6, a7⟩ := R
  refine ⟨fi, m, a1, a2, a3, a4, by rw [e1]; exact a5, by rw [e1]; exact a6, fun q j hq hj => ?_⟩
  have h := a7 q j hq hj
  rw [postM_37 (show 6 < 8 by omega), postM_37 hj] at h ⊢
  by_cases hc : n ≠ 200 ∧ q = n
  · rw [if_pos hc, if_pos hc] at h ⊢
    have g6 : g 6 = 3 := by rw [← hfg 6 (by omega) (by omega)]; exact h6
    by_cases hj2 : j < 3 ∨ 5 < j
    · rw [← hfg j hj hj2, g6]
      rw [h6] at h
      exact h
    · exact Or.inl ⟨hfx, g6, by omega, by omega⟩
  · rw [if_neg hc, if_neg hc] at h ⊢
    exact h
theorem a_passOn (P : Rep fx σ x G ms) (H : Hd fx σ x ms) (hfx : fx = false) {n np i pl : Nat} (hpl : pl < 16) (h7 : ms.2.1 38 7 = nI pl) (hn : ms.1 36 = nI n) (hn2 : n ≤ 200) (hnp : ms.1 28 = nI np) (hnp2 : np ≤ 200) (hi : i < np) (h1 : ms.2.1 38 1 = nI (i + 1)) (hW : ms.2.1 26 pl = -1 ∨ ∃ w, w < 8 ∧ ms.2.1 26 pl = nI w ∧ ¬ ms.2.1 14 w = -1) :
    ∃ σ', f_X9_passOn σ (some x) (some (G 7 i)) (nI pl) = some ((), σ') ∧ Rep fx σ' x G (if onB ms pl = true then solM (onM ms n (ms.2.1 26 pl).toNatClampNeg) (postN n) else losM ms (i + 1)) ∧ Kq x 0 0 σ σ' := by
  have F := P.2.1
  obtain ⟨t0, ⟨-, -, r2, r3, -⟩, -, -, -, ⟨t8, l8⟩, ⟨t9, l9⟩, -⟩ := id F
  obtain ⟨w1, w2⟩ := P.2.2.2.2.1 pl hpl
  have e2 : h_gR σ (some x) 10 2 = some (some (x + 8)) := by rw [gR_s t0, r2]
  have e3 : h_gR σ (some x) 10 3 = some (some (x + 9)) := by rw [gR_s t0, r3]
  have a8 : h_aI σ (some (x + 8)) 100 (nI pl) = some (ms.2.1 26 pl) := by rw [aI_s t8 l8 hpl (by decide), w1]
  have tp := (pkt P hnp hnp2 hi).1
  obtain ⟨σl, l1, l2, l3⟩ := a_lose P hnp hnp2 hi
  have hat := c_siteAt F P.2.2.2.2.2.2.2 (ms.2.1 26 pl)
  unfold f_X9_passOn
  rw [e2, h_b1_s, a8, h_b1_s, rcv_s t0, h_b1_s, hat, h_bd_s]
  rcases hW with hm | ⟨w, hw, hw2, hw3⟩
  · have hs : siteB ms (ms.2.1 26 pl) = false := by rw [hm]; exact siteB_no (Or.inl (by decide))
    refine ⟨σl, ?_, ?_, l3.q⟩
    · rw [hs, if_neg (show ¬ (false = true) by decide), if_pos rfl, rcv_s tp, h_b1_s, l1, h_bd_s]
    · rw [if_neg (f_ne (by unfold onB; rw [decide_eq_false (fun z => z hm)]; rfl))]
      exact l2
  · have hm : ¬ ms.2.1 26 pl = -1 := by rw [hw2]; exact nI_ne_m1 (by omega)
    obtain ⟨tl, tn, u1, u2, u3, u4, u5⟩ := w2 hm
    have hs : siteB ms (ms.2.1 26 pl) = true := by rw [hw2, siteB_i hw, decide_eq_true hw3]
    have a9 : h_aI σ (some (x + 9)) 100 (nI pl) = some (nI tl) := by rw [aI_s t9 l9 hpl (by decide), u1]
    have ti : h_gI σ (some x) 10 9 = some (nI tn) := by rw [gI_s t0, P.2.2.1.2.1, u3]
    have hsub : nI tn - nI tl = nI (tn - tl) := pk_sub u4
    have hwc : (ms.2.1 26 pl).toNatClampNeg = w := by rw [hw2, nI_clamp (by omega)]
    rw [hs, if_pos rfl, if_neg (fun z => by cases z), hwc, ti, h_b1_s, e3, h_b1_s, a9, h_b1_s, hsub]
    by_cases hlt : tn - tl < 30
    · have hon : onB ms pl = true := by
        unfold onB
        rw [decide_eq_true hm, u2, u3, decide_eq_true (nI_lt (a := tn) (b := tl + 30) (by omega) (by omega))]
        rfl
      rw [if_pos (show nI (tn - tl) < 30 from nI_lt (a := tn - tl) (b := 30) hlt (by decide)), if_pos hon]
      have e5 := (H.at F (j := 0) (by omega) (nloose3 (by omega))).1
      have d0 : h_aI σ (some (x + 12)) 100 0 = some (ms.2.1 38 0) := (H.at F (j := 0) (by omega) (nloose3 (by omega))).2
      have d2 : h_aI σ (some (x + 12)) 100 2 = some (ms.2.1 38 2) := (H.at F (j := 2) (by omega) (nloose3 (by omega))).2
      have Iw := P.si hw hw3
      obtain ⟨σ1, p1, p2, p3⟩ := a_postShort P hn hn2 3 (ms.2.1 14 w) (ms.2.1 38 0) (nI (i + 1)) (ms.2.1 38 2)
      have p2' : Rep fx σ1 x G (onM ms n w) := by
        refine Rep_loose p2 hfx hn hn2 rfl (fun j hj hj2 => ?_)
        rcases (show j = 0 ∨ j = 1 ∨ j = 2 ∨ j = 6 ∨ j = 7 by omega) with e | e | e | e | e <;> rw [e]
        · rfl
        · exact h1.symm
        · rfl
        · rfl
        · rfl
      have hn' : (onM ms n w).1 36 = nI (postN n) := postM_36 hn
      obtain ⟨σ2, s1, s2, s3⟩ := a_solicit p2' hn' (postN_le hn2) (ms.2.1 38 0) (ms.2.1 38 2) (nI pl)
      refine ⟨σ2, ?_, ?_, p3.q.tr s3.q⟩
      · rw [e5, h_b1_s, d0, h_b1_s, h_b1_s, d2, h_b1_s, gI_s Iw.1, Iw.2.1, h_b1_s, gI_s tp, (pkt P hnp hnp2 hi).2.1, h_b1_s, rcv_s t0, h_b1_s, p1, h_bd_s, rcv_s p2.2.1.1, h_b1_s, s1, h_bd_s]
      · unfold solM
        have e38 : ∀ j, (onM ms n w).2.1 38 j = ms.2.1 38 j := fun j => postM_k (by decide)
        rw [e38, e38, e38, h7]
        exact s2
    · have hoff : onB ms pl = false := by
        unfold onB
        rw [u2, u3, decide_eq_false (nI_nlt (a := tn) (b := tl + 30) (by omega) (by omega)), Bool.and_false]
      refine ⟨σl, ?_, ?_, l3.q⟩
      · rw [if_neg (show ¬ nI (tn - tl) < 30 from nI_nlt (a := tn - tl) (b := 30) (by omega) (by omega)), rcv_s tp, h_b1_s, l1, h_bd_s]
      · rw [if_neg (f_ne hoff)]
        exact l2
theorem a_data (P : Rep fx σ x G ms) (H : Hd fx σ x ms) (hfx : fx = false) {n np pl : Nat} (hpl : pl < 16) (h7 : ms.2.1 38 7 = nI pl) (hn : ms.1 36 = nI n) (hn2 : n ≤ 200) (hnp : ms.1 28 = nI np) (hnp2 : np ≤ 200) (hW : ms.2.1 26 pl = -1 ∨ ∃ w, w < 8 ∧ ms.2.1 26 pl = nI w ∧ ¬ ms.2.1 14 w = -1) :
    ∃ σ', f_X9_takeData σ (some x) (nI pl) = some ((), σ') ∧ Rep fx σ' x G (cameM ms n pl) ∧ Kq x 0 0 σ σ' := by
  have F := P.2.1
  have T := P.2.2.2.2.2.2.2
  have e5 := (H.at F (j := 0) (by omega) (nloose3 (by omega))).1
  have d0 : h_aI σ (some (x + 12)) 100 0 = some (ms.2.1 38 0) := (H.at F (j := 0) (by omega) (nloose3 (by omega))).2
  have d1 : h_aI σ (some (x + 12)) 100 1 = some (ms.2.1 38 1) := (H.at F (j := 1) (by omega) (nloose3 (by omega))).2
  have d2 : h_aI σ (some (x + 12)) 100 2 = some (ms.2.1 38 2) := (H.at F (j := 2) (by omega) (nloose3 (by omega))).2
  have hpa := c_packetAt F P.2.2.1 P.2.2.2.2.2.1 (ms.2.1 38 1)
  have hat := c_siteAt F T (ms.2.1 38 0)
  unfold f_X9_takeData cameM
  rw [e5, h_b1_s, d0, h_b1_s, h_b1_s, d2, h_b1_s, h_b1_s, d1, h_b1_s, rcv_s F.1, h_b1_s, hpa, h_bd_s, rcv_s F.1, h_b1_s, hat, h_bd_s]
  cases hsB : siteB ms (ms.2.1 38 0) with
  | false =>
    exact ⟨σ, by rw [if_neg (show ¬ (false = true) by decide), if_pos rfl], by rw [Bool.false_and, if_neg (by decide)]; exact P, Kq.rf⟩
  | true =>
    rw [if_pos rfl, if_neg (fun z => by cases z), Bool.true_and]
    cases hpk : decide (1 ≤ ms.2.1 38 1 ∧ ms.2.1 38 1 ≤ ms.1 28) with
    | false =>
      exact ⟨σ, by rw [if_neg (show ¬ (false = true) by decide), if_pos rfl], by rw [if_neg (by decide)]; exact P, Kq.rf⟩
    | true =>
      have g := of_decide_eq_true hpk
      rw [hnp] at g
      obtain ⟨i1, hi1, hi2⟩ := nI_of2 (M := nI np) (n := np) (nI_toInt (by omega)) (fun z => absurd (Int32.lt_of_le_of_lt g.1 z) (by decide)) g.2
      have hpos : 1 ≤ i1 := Nat.pos_of_ne_zero (fun z => by rw [hi2, z] at g; exact absurd g.1 (by decide))
      obtain ⟨i, rfl⟩ : ∃ i, i1 = i + 1 := ⟨i1 - 1, by omega⟩
      have hcl : (ms.2.1 38 1).toNatClampNeg = i + 1 := by rw [hi2, nI_clamp (by omega)]
      have tp := (pkt P hnp hnp2 (i := i) (by omega)).1
      rw [if_pos rfl, if_pos rfl, if_neg (fun z => by cases z), c_isPlace, h_bd_s, decide_eq_true (show 0 ≤ nI pl ∧ nI pl ≤ 15 from ⟨nI_pos' (by omega), nI_le (a := pl) (b := 15) (by omega) (by decide)⟩), b2i_t, if_neg (by decide), rcv_s F.1, h_b1_s, c_hostOf F T (nI_ne_m1 (by omega)), h_bd_s, hcl, show i + 1 - 1 = i by omega]
      cases hh : ff (fun s => decide (ms.2.1 14 s = nI pl)) 0 8 with
      | none =>
        obtain ⟨σ', r1, r2, r3⟩ := a_passOn P H hfx hpl h7 hn hn2 hnp hnp2 (i := i) (by omega) hi2 hW
        refine ⟨σ', ?_, r2, r3⟩
        rw [if_pos (show o2i none = -1 from rfl), rcv_s F.1, h_b1_s, r1, h_bd_s]
      | some hst =>
        obtain ⟨-, q2, q3, -⟩ := ff_some.mp hh
        have q4 := of_decide_eq_true q3
        have hps : ¬ ms.2.1 14 hst = -1 := by rw [q4]; exact nI_ne_m1 (by omega)
        have I := P.si (s := hst) (by omega) hps
        have e1 : h_gR σ (some x) 10 1 = some (some (x + 7)) := by rw [gR_s F.1, F.2.1.2.1]
        have e7 : h_aR σ (some (x + 7)) 108 (nI hst) = some (some (G 3 hst)) := by rw [aR_s F.2.2.2.2.1.1 F.2.2.2.2.1.2 (by omega) (by decide), ((T.2 hst (by omega)).2 hps).1]
        rw [if_neg (show ¬ o2i (some hst) = -1 from nI_ne_m1 (by omega)), e1, h_b1_s]
        show ∃ σ', h_b1 (h_aR σ (some (x + 7)) 108 (nI hst)) _ = some ((), σ') ∧ Rep fx σ' x G (if hasB ms hst (ms.2.1 38 2) = true then dlvM ms (i + 1) (nI hst) else solM (losM ms (i + 1)) n) ∧ _
        rw [e7, h_b1_s, rcv_s I.1, h_b1_s, c_hasEnd (by omega) I, h_bd_s]
        cases hb : hasB ms hst (ms.2.1 38 2) with
        | false =>
          obtain ⟨σ1, s1, s2, s3⟩ := a_solicit P hn hn2 (ms.2.1 38 0) (ms.2.1 38 2) (nI pl)
          have hnp' : (postM (k_pI ms 41 (ms.1 41 + 1)) n (mG (ms.2.1 38 2) (nI pl) 0 0 0 0 4 (ms.2.1 38 0))).1 28 = nI np := by rw [postM_s (by decide) (by decide), pI_n1 (by decide)]; exact hnp
          obtain ⟨σ2, l1, l2, l3⟩ := a_lose s2 hnp' hnp2 (i := i) (by omega)
          refine ⟨σ2, ?_, ?_, s3.q.tr l3.q⟩
          · rw [b2i_f, if_pos rfl, rcv_s F.1, h_b1_s, s1, h_bd_s, rcv_s (pkt s2 hnp' hnp2 (i := i) (by omega)).1, h_b1_s, l1, h_bd_s]
          · rw [if_neg (by decide)]
            unfold solM
            have e38 : ∀ j, (losM ms (i + 1)).2.1 38 j = ms.2.1 38 j := fun j => losM_k (by decide)
            rw [e38, e38, e38, losM_1, h7, ← los_post]
            exact l2
        | true =>
          obtain ⟨σ1, l1, l2, l3⟩ := a_deliver P (nI hst) hnp hnp2 (i := i) (by omega)
          refine ⟨σ1, ?_, by rw [if_pos rfl]; exact l2, l3.q⟩
          rw [b2i_t, if_neg (by decide), rcv_s tp, h_b1_s]
          show h_bd (f_X3_arriveAt σ (some (G 7 i)) (nI hst)) _ = _
          rw [l1, h_bd_s]
end DTA
end
/-! from 96.bring -/
section
/-! A MESSAGE IS CARRIED -/
/-- what is known of the reference when a message is in its hand -/
def RA (ms : MS) (np : Nat) : Prop := Tr ms ∧ (∀ k, k < 128 → Ln (ms.2.1 8 k)) ∧ (∀ k, k < 48 → Ln (ms.2.1 20 k)) ∧ (∀ i, i < 8 → UE ms i) ∧ (∃ t, t ≤ 1000000 ∧ ms.1 1 = nI t) ∧ (∀ s, s < 8 → ON ms s ∧ DN ms s) ∧ (np ≤ 200 ∧ ms.1 28 = nI np ∧ WN ms np ∧ ∀ i, i < np → ms.2.1 31 (i + 1) = 0 → ∃ k, k ≤ 8 ∧ ms.2.1 34 (i + 1) = nI k) ∧ (∀ p, p < 16 → ms.2.1 26 p = -1 ∨ ∃ w, w < 8 ∧ ms.2.1 26 p = nI w ∧ ¬ ms.2.1 14 w = -1) ∧ (ms.2.1 38 6 = 0 ∨ ms.2.1 38 6 = 1 ∨ ms.2.1 38 6 = 2 ∨ ms.2.1 38 6 = 3 ∨ ms.2.1 38 6 = 4) ∧ (ms.2.1 38 6 = 3 → ∃ pl, pl < 16 ∧ ms.2.1 38 7 = nI pl)
/-- how many cells a message's coming makes -/
def cz (k : Int32) : Nat := if k = 0 then 2 else if k = 1 then 1 else if k = 2 then 2 else 0
section BRG
variable {fx : Bool} {σ σ' : HS} {x : Nat} {G : Nat → Nat → Nat} {ms ms' : MS}
/-- alone, an endpoint has nothing but the best in it -/
theorem crowd_no (hL : ∀ k, k < 128 → Ln (ms.2.1 8 k)) (hP5 : ∀ k, k < 8 → Ln (ms.2.1 5 k)) {i : Nat} (hi : i < 8) (U : UE ms i) (ep : Int32) (hc : chiF ms i ep = none) : crowd ms i ep 32 (bestE ms ep i) = false := by
  obtain ⟨b1, b2⟩ := bestE_spec ms ep i hi hL
  have h1 : ff (inE ms ep 32 (bestE ms ep i)) (16 * i) 16 = none := ff_none.mpr (fun k g1 g2 => bool_f (fun z => by
    unfold inE at z
    obtain ⟨z1, z2⟩ := (Bool.and_eq_true _ _).mp z
    obtain ⟨z3, z4⟩ := (Bool.and_eq_true _ _).mp z2
    obtain ⟨z5, z6⟩ := (Bool.and_eq_true _ _).mp z4
    obtain ⟨w1, w2⟩ := Ln_nI (hL k (by omega))
    have e32 : ln (ms.2.1 8 k) = 32 := by have := of_decide_eq_true z5; omega
    have ek : ep = ms.2.1 7 k := ag_32 z6
    have hh : hitE ms ep k = true := by
      unfold hitE
      rw [z3, e32, ← ek, ag_refl (by omega)]
      rfl
    cases hb : bestE ms ep i with
    | none =>
      have := b2 hb k g1 g2
      rw [hh] at this
      cases this
    | some kb =>
      obtain ⟨c1, c2, c3⟩ := b1 kb hb
      have hle := c3 k g1 g2 hh
      obtain ⟨v1, v2⟩ := Ln_nI (hL kb (by omega))
      have e32b : ln (ms.2.1 8 kb) = 32 := by omega
      unfold hitE at c2
      obtain ⟨c4, c5⟩ := (Bool.and_eq_true _ _).mp c2
      rw [e32b] at c5
      have ekb := ag_32 c5
      have : k = kb := U k kb g1 g2 c1.1 c1.2 z3 c4 (by rw [ekb, ek]) (by rw [w1, v1, e32, e32b])
      rw [hb, this] at z1
      simp at z1))
  have h2 : ff (inC ms i ep 32) 0 8 = none := ff_none.mpr (fun c g1 g2 => bool_f (fun z => by
    unfold inC at z
    obtain ⟨z1, z2⟩ := (Bool.and_eq_true _ _).mp z
    obtain ⟨z3, z4⟩ := (Bool.and_eq_true _ _).mp z2
    have w2 := (Ln_nI (hP5 c (by omega))).2
    have e32 : ln (ms.2.1 5 c) = 32 := by have := of_decide_eq_true z3; omega
    have ek : ep = ms.2.1 4 c := ag_32 z4
    have := ff_none.mp hc c g1 g2
    rw [z1, e32, ← ek, ag_refl (by omega)] at this
    cases this))
  unfold crowd
  rw [h1, h2]
  rfl
theorem a_take (P : Rep fx σ x G ms) {n k : Nat} (hn : ms.1 36 = nI n) (hn2 : n ≤ 200) (hk : k < n) : ∃ σ1 σ2, f_X5_copy σ (some (x + 10)) (nI k) (some (x + 12)) = some ((), σ1) ∧ Rep fx σ1 x G ms ∧ f_X5_remove σ1 (some (x + 10)) (nI k) = some ((), σ2) ∧ Rep fx σ2 x G (takeM ms n k) ∧ Hd fx σ2 x (takeM ms n k) ∧ Kq x 0 0 σ σ2 := by
  obtain ⟨f, n', a1, a2, a3, a4, a5, a6, a7⟩ := id P.2.2.2.1
  have en : n' = n := (nI_eq (by omega) (by omega)).mp (a5.symm.trans hn)
  have hc := c_copy P.2.1 (q := k) a3 a1 (by omega)
  have W0 : WI [x + 12] σ (h_setA σ (x + 12) (va_cpy (h_iv σ (x + 11)) (h_iv σ (x + 12)) (8 * ring f k) 0 8)) := WI_A (by simp)
  have hv : ∀ j, j < 8 → h_iv (h_setA σ (x + 12) (va_cpy (h_iv σ (x + 11)) (h_iv σ (x + 12)) (8 * ring f k) 0 8)) (x + 12) j = cel σ x f k j := by
    intro j hj
    rw [iv_sA]
    unfold va_cpy cel
    rw [if_pos ⟨by omega, by omega⟩]
    rfl
  generalize h_setA σ (x + 12) (va_cpy (h_iv σ (x + 11)) (h_iv σ (x + 12)) (8 * ring f k) 0 8) = σ1 at hc W0 hv
  have W1 : WI [x + 10, x + 11, x + 12, x + 13] σ σ1 := W0.up (fun b hb => by simp only [List.mem_cons, List.mem_nil_iff, or_false] at hb ⊢; omega)
  have R1 : Rx fx σ1 x ms := P.2.2.2.1.to (W0.sm (by simp)) (W0.sm (by simp)) rfl rfl (fun _ => rfl)
  have P1 : Rep fx σ1 x G ms := Rep_row P W1 R1 (fun _ _ _ _ => rfl) (fun _ _ _ _ => rfl) rfl
  obtain ⟨σ2, r1, r2, r3⟩ := c_remove P1.2.1 P1.2.2.2.1 hn hn2 hk
  have W2 : WI [x + 10, x + 11, x + 12, x + 13] σ1 σ2 := r2.up (fun b hb => by simp only [List.mem_cons, List.mem_nil_iff, or_false] at hb ⊢; omega)
  have P2 : Rep fx σ2 x G (takeM ms n k) := Rep_row P1 W2 r3 (fun q h1 _ _ => takeM_s h1) (fun q j h1 h2 => takeM_k h1 h2) rfl
  refine ⟨σ1, σ2, hc, P1, r1, P2, fun j hj => ?_, (Kq_row P W1).tr (Kq_row P1 W2)⟩
  rw [takeM_38 (show 6 < 8 by omega), takeM_38 hj, (r2.sm (show x + 12 ∉ [x + 10, x + 11] by simp)).2.2.1, hv j hj]
  exact a7 k j (by omega) hj
/-- a message is carried: all kinds -/
theorem a_bring (P : Rep fx σ x G ms) (hfx : fx = false) (hz : h_sz σ + 2 ≤ h_cz σ) (hsl : h_sl σ + 7 ≤ h_ck σ) {n k np : Nat} (hn : ms.1 36 = nI n) (hn2 : n ≤ 200) (hk : k < n) (A : RA (takeM ms n k) np) : ∃ σ', f_X9_bring σ (some x) (nI k) = some ((), σ') ∧ Rep fx σ' x G (arrM (takeM ms n k) (n - 1) np) ∧ Kq x (cz ((takeM ms n k).2.1 38 6)) (4 * cz ((takeM ms n k).2.1 38 6)) σ σ' := by
  obtain ⟨σ1, σ2, c1, P1, c2, P2, H2, K2⟩ := a_take P hn hn2 hk
  have F := P.2.1
  have F1 := P1.2.1
  have F2 := P2.2.1
  have hn' : (takeM ms n k).1 36 = nI (n - 1) := takeM_36
  generalize takeM ms n k = m2 at P2 H2 A hn'
  obtain ⟨Tt, hL8, hL20, hU, ⟨t, ht2, ht⟩, hON, ⟨hnp2, hnp, hWN, hst⟩, hWS, hkd, hk3⟩ := A
  have hz2 : h_sz σ2 + 2 ≤ h_cz σ2 := by have := K2.2.1; have := K2.2.2.2.1; omega
  have hsl2 : h_sl σ2 + 7 ≤ h_ck σ2 := by have := K2.2.2.1; have := K2.2.2.2.2.1; omega
  have e5 := (H2.at F2 (j := 6) (by omega) (nloose3 (by omega))).1
  have d6 : h_aI σ2 (some (x + 12)) 100 6 = some (m2.2.1 38 6) := (H2.at F2 (j := 6) (by omega) (nloose3 (by omega))).2
  have d7 : h_aI σ2 (some (x + 12)) 100 7 = some (m2.2.1 38 7) := (H2.at F2 (j := 7) (by omega) (nloose3 (by omega))).2
  have e0 : h_gR σ2 (some x) 10 0 = some (some (x + 1)) := by rw [gR_s F2.1, F2.2.1.1]
  have hat := c_at F2 P2.2.2.2.2.2.2.1 (m2.2.1 38 7)
  have hsa := c_siteAt F2 P2.2.2.2.2.2.2.2 (m2.2.1 38 7)
  have pre : ∀ {y}, (if m2.2.1 38 6 = 0 then h_b1 (h_gR σ2 (some x) 10 0) fun x26 => h_b1 (h_rcv σ2 x26 9) fun _ => h_bd (f_X8_at σ2 x26 (m2.2.1 38 7)) fun r28 s29 => h_b1 (h_rcv s29 (some x) 10) fun _ => h_bd (f_X9_takeRegister s29 (some x) r28) fun _ s34 => some ((), s34) else if m2.2.1 38 6 = 1 then h_b1 (h_gR σ2 (some x) 10 0) fun x39 => h_b1 (h_rcv σ2 x39 9) fun _ => h_bd (f_X8_at σ2 x39 (m2.2.1 38 7)) fun r41 s42 => h_b1 (h_rcv s42 (some x) 10) fun _ => h_bd (f_X9_takeRequest s42 (some x) r41) fun _ s47 => some ((), s47) else if m2.2.1 38 6 = 2 then h_b1 (h_rcv σ2 (some x) 10) fun _ => h_bd (f_X9_takeReply σ2 (some x) (m2.2.1 38 7)) fun _ s53 => some ((), s53) else if m2.2.1 38 6 = 3 then h_b1 (h_rcv σ2 (some x) 10) fun _ => h_bd (f_X9_takeData σ2 (some x) (m2.2.1 38 7)) fun _ s59 => some ((), s59) else if m2.2.1 38 6 = 4 then h_b1 (h_rcv σ2 (some x) 10) fun _ => h_bd (f_X9_siteAt σ2 (some x) (m2.2.1 38 7)) fun r64 s65 => h_b1 (h_rcv s65 (some x) 10) fun _ => h_bd (f_X9_takeSolicit s65 (some x) r64) fun _ s70 => some ((), s70) else some ((), σ2)) = y → f_X9_bring σ (some x) (nI k) = y := by
    intro y hy
    unfold f_X9_bring
    rw [gR_s F.1, F.rRow, h_b1_s, gR_s F.1, F.rHand, h_b1_s, rcv_s F.rw6, h_b1_s, c1, h_bd_s, gR_s F1.1, F1.rRow, h_b1_s, rcv_s F1.rw6, h_b1_s, c2, h_bd_s, e5, h_b1_s, d7, h_b1_s, h_b1_s, d6, h_b1_s]
    exact hy
  have stay : Rep fx σ2 x G m2 ∧ Kq x (cz (m2.2.1 38 6)) (4 * cz (m2.2.1 38 6)) σ σ2 := ⟨P2, K2.le (by omega) (by omega)⟩
  unfold arrM
  rcases hkd with h0 | h1 | h2 | h3 | h4
  · rw [if_pos h0]
    cases hsv : srvB m2 (m2.2.1 38 7) with
    | false =>
      rw [hsv, if_neg (by decide)] at hat
      refine ⟨σ2, pre ?_, by rw [if_neg (by decide)]; exact stay.1, stay.2⟩
      rw [if_pos h0, e0, h_b1_s, rcv_s F2.2.2.1.1, h_b1_s, hat, h_bd_s, rcv_s F2.1, h_b1_s]
      unfold f_X9_takeRegister
      rw [if_pos rfl, h_bd_s]
    | true =>
      obtain ⟨i, hi, hi7, hpr⟩ := srvB_nI hsv
      have hcl : (m2.2.1 38 7).toNatClampNeg = i := by rw [hi7, nI_clamp (by omega)]
      rw [hsv, if_pos rfl, hcl] at hat
      obtain ⟨σ3, r1, r2, r3⟩ := a_register P2 H2 h0 Tt hz2 hsl2 ht ht2 hi hpr (hU i hi)
      refine ⟨σ3, pre ?_, by rw [if_pos rfl, hcl]; exact r2, (K2.tr r3).le (by rw [h0]; decide) (by rw [h0]; decide)⟩
      rw [if_pos h0, e0, h_b1_s, rcv_s F2.2.2.1.1, h_b1_s, hat, h_bd_s, rcv_s F2.1, h_b1_s, r1, h_bd_s]
  · have n0 : ¬ m2.2.1 38 6 = 0 := by rw [h1]; decide
    rw [if_neg n0, if_pos h1]
    cases hsv : srvB m2 (m2.2.1 38 7) with
    | false =>
      rw [hsv, if_neg (by decide)] at hat
      refine ⟨σ2, pre ?_, by rw [if_neg (by decide)]; exact stay.1, stay.2⟩
      rw [if_neg n0, if_pos h1, e0, h_b1_s, rcv_s F2.2.2.1.1, h_b1_s, hat, h_bd_s, rcv_s F2.1, h_b1_s]
      have d0 : h_aI σ2 (some (x + 12)) 100 0 = some (m2.2.1 38 0) := (H2.at F2 (j := 0) (by omega) (nloose3 (by omega))).2
      have d1 : h_aI σ2 (some (x + 12)) 100 1 = some (m2.2.1 38 1) := (H2.at F2 (j := 1) (by omega) (nloose3 (by omega))).2
      have d2 : h_aI σ2 (some (x + 12)) 100 2 = some (m2.2.1 38 2) := (H2.at F2 (j := 2) (by omega) (nloose3 (by omega))).2
      unfold f_X9_takeRequest
      rw [e5, h_b1_s, d0, h_b1_s, h_b1_s, d1, h_b1_s, h_b1_s, d2, h_b1_s, if_pos rfl, h_bd_s]
    | true =>
      obtain ⟨i, hi, hi7, hpr⟩ := srvB_nI hsv
      have hcl : (m2.2.1 38 7).toNatClampNeg = i := by rw [hi7, nI_clamp (by omega)]
      rw [hsv, if_pos rfl, hcl] at hat
      obtain ⟨σ3, r1, r2, r3⟩ := a_request P2 H2 h1 Tt hL8 (by omega) (by omega) hn' (by omega) hi hpr (hU i hi) (fun ep hc => crowd_no hL8 Tt.2.1 hi (hU i hi) ep hc)
      refine ⟨σ3, pre ?_, by rw [if_pos rfl, hcl]; exact r2, (K2.tr r3).le (by rw [h1]; decide) (by rw [h1]; decide)⟩
      rw [if_neg n0, if_pos h1, e0, h_b1_s, rcv_s F2.2.2.1.1, h_b1_s, hat, h_bd_s, rcv_s F2.1, h_b1_s, r1, h_bd_s]
  · have n0 : ¬ m2.2.1 38 6 = 0 := by rw [h2]; decide
    have n1 : ¬ m2.2.1 38 6 = 1 := by rw [h2]; decide
    rw [if_neg n0, if_neg n1, if_pos h2]
    cases hsB : siteB m2 (m2.2.1 38 7) with
    | false =>
      rw [hsB, if_neg (by decide)] at hsa
      refine ⟨σ2, pre ?_, by rw [if_neg (by decide)]; exact stay.1, stay.2⟩
      rw [if_neg n0, if_neg n1, if_pos h2, rcv_s F2.1, h_b1_s]
      unfold f_X9_takeReply
      rw [rcv_s F2.1, h_b1_s, hsa, h_bd_s, if_pos rfl, h_bd_s]
    | true =>
      obtain ⟨s, hs, hs7, hps⟩ := siteB_nI hsB
      have hcl : (m2.2.1 38 7).toNatClampNeg = s := by rw [hs7, nI_clamp (by omega)]
      obtain ⟨σ3, r1, r2, r3⟩ := a_reply P2 H2 h2 hfx hz2 (by omega) ht ht2 hs hps (hON s hs).1 hL20 hn' (by omega) hnp hnp2 hWN hst
      refine ⟨σ3, pre ?_, by rw [if_pos rfl, hcl, hs7]; exact r2, (K2.tr r3).le (by rw [h2]; decide) (by rw [h2]; decide)⟩
      rw [if_neg n0, if_neg n1, if_pos h2, rcv_s F2.1, h_b1_s, hs7, r1, h_bd_s]
  · have n0 : ¬ m2.2.1 38 6 = 0 := by rw [h3]; decide
    have n1 : ¬ m2.2.1 38 6 = 1 := by rw [h3]; decide
    have n2 : ¬ m2.2.1 38 6 = 2 := by rw [h3]; decide
    obtain ⟨pl, hpl, h7⟩ := hk3 h3
    have hcl : (m2.2.1 38 7).toNatClampNeg = pl := by rw [h7, nI_clamp (by omega)]
    obtain ⟨σ3, r1, r2, r3⟩ := a_data P2 H2 hfx hpl h7 hn' (by omega) hnp hnp2 (hWS pl hpl)
    refine ⟨σ3, pre ?_, by rw [if_neg n0, if_neg n1, if_neg n2, if_pos h3, hcl]; exact r2, (K2.tr r3).le (by rw [h3]; decide) (by rw [h3]; decide)⟩
    rw [if_neg n0, if_neg n1, if_neg n2, if_pos h3, rcv_s F2.1, h_b1_s, h7, r1, h_bd_s]
  · have n0 : ¬ m2.2.1 38 6 = 0 := by rw [h4]; decide
    have n1 : ¬ m2.2.1 38 6 = 1 := by rw [h4]; decide
    have n2 : ¬ m2.2.1 38 6 = 2 := by rw [h4]; decide
    have n3 : ¬ m2.2.1 38 6 = 3 := by rw [h4]; decide
    rw [if_neg n0, if_neg n1, if_neg n2, if_neg n3]
    cases hsB : siteB m2 (m2.2.1 38 7) with
    | false =>
      rw [hsB, if_neg (by decide)] at hsa
      refine ⟨σ2, pre ?_, by rw [if_neg (by decide)]; exact stay.1, stay.2⟩
      rw [if_neg n0, if_neg n1, if_neg n2, if_neg n3, if_pos h4, rcv_s F2.1, h_b1_s, hsa, h_bd_s, rcv_s F2.1, h_b1_s]
      unfold f_X9_takeSolicit
      rw [if_pos rfl, h_bd_s]
    | true =>
      obtain ⟨s, hs, hs7, hps⟩ := siteB_nI hsB
      have hcl : (m2.2.1 38 7).toNatClampNeg = s := by rw [hs7, nI_clamp (by omega)]
      rw [hsB, if_pos rfl, hcl] at hsa
      have I := P2.si hs hps
      have d0 : h_aI σ2 (some (x + 12)) 100 0 = some (m2.2.1 38 0) := (H2.at F2 (j := 0) (by omega) (nloose3 (by omega))).2
      have d1 : h_aI σ2 (some (x + 12)) 100 1 = some (m2.2.1 38 1) := (H2.at F2 (j := 1) (by omega) (nloose3 (by omega))).2
      have t9 : h_gI σ2 (some x) 10 9 = some (m2.1 1) := by rw [gI_s F2.1, P2.2.2.1.2.1]
      obtain ⟨σ3, r1, r2, r3⟩ := a_forget P2 hs hps (hON s hs).2 hL20 ht ht2 (m2.2.1 38 0) (m2.2.1 38 1)
      refine ⟨σ3, pre ?_, by rw [if_pos rfl, hcl]; exact r2, (K2.tr r3).le (by rw [h4]; decide) (by rw [h4]; decide)⟩
      rw [if_neg n0, if_neg n1, if_neg n2, if_neg n3, if_pos h4, rcv_s F2.1, h_b1_s, hsa, h_bd_s, rcv_s F2.1, h_b1_s]
      unfold f_X9_takeSolicit
      rw [if_neg (fun z => by cases z), gR_s I.1, I.2.2.2.2.2.2.1.1, h_b1_s, e5, h_b1_s, d0, h_b1_s, h_b1_s, d1, h_b1_s, t9, h_b1_s, rcv_s I.2.2.2.2.2.2.1.2, h_b1_s, r1, h_bd_s, h_bd_s]
end BRG
end
/-! from 97.send -/
section
/-! A PACKET STARTS -/
def pK (no s ep : Int32) : List Op := (2, 0, 5, 0, -1) :: (2, 0, 2, 0, ep) :: (2, 0, 1, 0, s) :: (2, 0, 0, 0, no) :: (0, 4, 0, 8, 0) :: []
section SND
variable {fx : Bool} {σ σ' : HS} {x : Nat} {G G' : Nat → Nat → Nat} {ms ms' : MS}
def gPk (G : Nat → Nat → Nat) (np a : Nat) : Nat → Nat → Nat := fun k j => if k = 7 ∧ j = np then a else G k j
theorem gPk_n {np a k j : Nat} (h : k ≠ 7 ∨ j ≠ np) : gPk G np a k j = G k j := if_neg (fun z => by omega)
theorem gPk_s {np a : Nat} : gPk G np a 7 np = a := if_pos ⟨rfl, rfl⟩
/-- the numbers of a packet that starts -/
def nwM (ms : MS) (np : Nat) (s ep : Int32) : MS := aS (aS (aS (k_pI ms 28 (nI (np + 1))) 29 (np + 1) s) 30 (np + 1) ep) 33 (np + 1) (-1)
theorem nw_k {np k j : Nat} {s ep : Int32} (h : j ≠ np + 1 ∨ (k ≠ 29 ∧ k ≠ 30 ∧ k ≠ 33)) : (nwM ms np s ep).2.1 k j = ms.2.1 k j := by
  unfold nwM
  rcases h with h | h
  · rw [aS_j h, aS_j h, aS_j h]; rfl
  · rw [aS_k h.2.2, aS_k h.2.1, aS_k h.1]; rfl
theorem nw_1 {np k : Nat} {s ep : Int32} (h : k ≠ 28) : (nwM ms np s ep).1 k = ms.1 k := pI_n1 h
theorem nw_28 {np : Nat} {s ep : Int32} : (nwM ms np s ep).1 28 = nI (np + 1) := by
  show (k_pI ms 28 (nI (np + 1))).1 28 = _
  exact pI_s1
theorem pk_make (B : N0 σ x) (hz : x + 1 ≤ h_cz σ) (hs : h_sl σ + 8 ≤ h_ck σ) (no s ep : Int32) : h_mk σ 4 8 = some (some (x + 0), rpl x [(0, 4, 0, 8, 0)] σ) ∧ h_rcv (rpl x [(0, 4, 0, 8, 0)] σ) (some (x + 0)) 4 = some (x + 0) ∧ f_X3_init (rpl x [(0, 4, 0, 8, 0)] σ) (some (x + 0)) no s ep = some ((), rpl x (pK no s ep) σ) := by
  refine ⟨E_mk B (l := []) (l' := [(0, 4, 0, 8, 0)]) (c := 0) (w := 0) rfl rfl rfl (by omega) (by omega), E_rcv B rfl, ?_⟩
  unfold f_X3_init pK
  rw [h_b1_s, E_pI B (t := 4) (l' := (2, 0, 0, 0, no) :: (0, 4, 0, 8, 0) :: []) (off := 0) rfl rfl, h_b1_s, E_pI B (t := 4) (l' := (2, 0, 1, 0, s) :: (2, 0, 0, 0, no) :: (0, 4, 0, 8, 0) :: []) (off := 0) rfl rfl, h_b1_s, E_pI B (t := 4) (l' := (2, 0, 2, 0, ep) :: (2, 0, 1, 0, s) :: (2, 0, 0, 0, no) :: (0, 4, 0, 8, 0) :: []) (off := 0) rfl rfl, h_b1_s, E_pI B (t := 4) (l' := (2, 0, 5, 0, -1) :: (2, 0, 2, 0, ep) :: (2, 0, 1, 0, s) :: (2, 0, 0, 0, no) :: (0, 4, 0, 8, 0) :: []) (off := 0) rfl rfl, h_b1_s]
set_option maxRecDepth 100000 in
theorem Rep_packet (P : Rep fx σ x G ms) {np : Nat} {s ep : Int32} (hnp : ms.1 28 = nI np) (hlt : np < 200) (hfr : ms.2.1 31 (np + 1) = 0 ∧ ms.2.1 32 (np + 1) = 0 ∧ ms.2.1 34 (np + 1) = 0 ∧ ms.2.1 35 (np + 1) = 0) : Rep fx (h_setI (h_setR (rpl (h_sz σ) (pK (nI (np + 1)) s ep) σ) (x + 14) np (some (h_sz σ + 0))) x 8 (nI (np + 1))) x (gPk G np (h_sz σ + 0)) (nwM ms np s ep) ∧ Kq x 1 8 σ (h_setI (h_setR (rpl (h_sz σ) (pK (nI (np + 1)) s ep) σ) (x + 14) np (some (h_sz σ + 0))) x 8 (nI (np + 1))) := by
  have B := P.n0
  have h50 := P.1.1
  have P0 := P
  have P1 := P.ext (Ext_rpl B (pK (nI (np + 1)) s ep))
  have K1 : Kq x 1 8 σ (rpl (h_sz σ) (pK (nI (np + 1)) s ep) σ) := Kq_rpl P _ (by exact Nat.le_refl 1) (by exact Nat.le_refl 8)
  have tg : h_tg (rpl (h_sz σ) (pK (nI (np + 1)) s ep) σ) (h_sz σ + 0) = 4 := rpl_tg B 0 _
  have iv : ∀ j r, ivL 0 j (pK (nI (np + 1)) s ep) = r → h_iv (rpl (h_sz σ) (pK (nI (np + 1)) s ep) σ) (h_sz σ + 0) j = r := fun j r e => (rpl_iv B 0 j (pK (nI (np + 1)) s ep) (Or.inl (show 0 < 1 by decide))).trans e
  have i0 := iv 0 _ rfl
  have i1 := iv 1 _ rfl
  have i2 := iv 2 _ rfl
  have i3 := iv 3 _ rfl
  have i4 := iv 4 _ rfl
  have i5 := iv 5 _ rfl
  have i6 := iv 6 _ rfl
  have i7 := iv 7 _ rfl
  have lt0 : ∀ i, i < np → G 7 i < h_sz σ := fun i hi => P0.lt (by rw [(pkt P0 hnp (by omega) hi).1]; decide)
  generalize rpl (h_sz σ) (pK (nI (np + 1)) s ep) σ = τ at P1 K1 tg i0 i1 i2 i3 i4 i5 i6 i7
  have hn : ∀ b, b ≠ x + 14 → b ≠ x → Sm τ (h_setI (h_setR τ (x + 14) np (some (h_sz σ + 0))) x 8 (nI (np + 1))) b := fun b g1 g2 => (Sm_R g1).tr (Sm_I g2)
  refine ⟨?_, K1.1, K1.2.1, K1.2.2.1, K1.2.2.2.1, K1.2.2.2.2.1, fun c g1 g2 => (K1.2.2.2.2.2 c g1 g2).tr (hn c (by omega) (by omega))⟩
  obtain ⟨Z, F, N, R, W, K, S, T⟩ := P1
  have ht : ∀ b, h_tg τ b ≠ 105 → h_tg τ b ≠ 10 → Sm τ (h_setI (h_setR τ (x + 14) np (some (h_sz σ + 0))) x 8 (nI (np + 1))) b := fun b g1 g2 => hn b (fun z => g1 (by rw [z]; exact F.2.2.2.2.2.2.2.2.2.2.2.1)) (fun z => g2 (by rw [z]; exact F.1))
  refine ⟨Z, ?_, ?_, R.to (hn _ (by omega) (by omega)) (hn _ (by omega) (by omega)) (nw_1 (by decide)) (nw_1 (by decide)) (fun _ => nw_k (Or.inr (by omega))), W.to (hn _ (by omega) (by omega)) (hn _ (by omega) (by omega)) (nw_1 (by decide)) (fun _ => nw_k (Or.inr (by omega))) (fun _ => nw_k (Or.inr (by omega))), ?_, ?_, ?_⟩
  · exact (F.to (Fs_R (a := x + 14) (k := np) (v := some (h_sz σ + 0)) (by omega) (by omega) (by omega))).to Fs_I
  · obtain ⟨n1, n2, n3, n4, n5, n6⟩ := N
    refine ⟨by rw [iv_sI, nw_28], by rw [iv_sIk (by omega), nw_1 (by decide)]; exact n2, by rw [iv_sIk (by omega), nw_1 (by decide)]; exact n3, by rw [iv_sIk (by omega), nw_1 (by decide)]; exact n4, by rw [iv_sIk (by omega), nw_1 (by decide)]; exact n5, by rw [iv_sIk (by omega), nw_1 (by decide)]; exact n6⟩
  · obtain ⟨np', k1, k2, k3, k4⟩ := K
    have en : np' = np := (nI_eq (by omega) (by omega)).mp (k2.symm.trans hnp)
    subst en
    refine ⟨np' + 1, by omega, nw_28, fun i j hi hj e => ?_, fun i hi => ?_⟩
    · by_cases e1 : i = np'
      · by_cases e2 : j = np'
        · rw [e1, e2]
        · rw [e1, gPk_s, gPk_n (Or.inr e2)] at e
          have := lt0 j (by omega)
          omega
      · by_cases e2 : j = np'
        · rw [e2, gPk_s, gPk_n (Or.inr e1)] at e
          have := lt0 i (by omega)
          omega
        · rw [gPk_n (Or.inr e1), gPk_n (Or.inr e2)] at e
          exact k3 i j (by omega) (by omega) e
    · by_cases e1 : i = np'
      · subst e1
        have sa := ht (h_sz σ + 0) (by rw [tg]; decide) (by rw [tg]; decide)
        rw [gPk_s, sa.1, sa.2.2.1, sa.2.2.1, sa.2.2.1, sa.2.2.1, sa.2.2.1, sa.2.2.1, sa.2.2.1, sa.2.2.1, i0, i1, i2, i3, i4, i5, i6, i7]
        have e29 : (nwM ms i s ep).2.1 29 (i + 1) = s := by unfold nwM; rw [aS_k (by decide), aS_k (by decide), aS_s]
        have e30 : (nwM ms i s ep).2.1 30 (i + 1) = ep := by unfold nwM; rw [aS_k (by decide), aS_s]
        have e33 : (nwM ms i s ep).2.1 33 (i + 1) = -1 := by unfold nwM; rw [aS_s]
        rw [e29, e30, e33, nw_k (k := 31) (Or.inr (by omega)), nw_k (k := 32) (Or.inr (by omega)), nw_k (k := 34) (Or.inr (by omega)), nw_k (k := 35) (Or.inr (by omega)), hfr.1, hfr.2.1, hfr.2.2.1, hfr.2.2.2]
        exact ⟨rv_sR, tg, rfl, rfl, rfl, rfl, rfl, rfl, rfl, rfl⟩
      · obtain ⟨b1, b2, b3⟩ := k4 i (by omega)
        have sa := ht (G 7 i) (by rw [b2]; decide) (by rw [b2]; decide)
        rw [gPk_n (Or.inr e1), sa.1, sa.2.2.1, sa.2.2.1, sa.2.2.1, sa.2.2.1, sa.2.2.1, sa.2.2.1, sa.2.2.1, sa.2.2.1, nw_k (Or.inl (by omega)), nw_k (Or.inl (by omega)), nw_k (Or.inl (by omega)), nw_k (Or.inl (by omega)), nw_k (Or.inl (by omega)), nw_k (Or.inl (by omega)), nw_k (Or.inl (by omega))]
        refine ⟨?_, b2, b3⟩
        show h_rv (h_setR τ (x + 14) np' (some (h_sz σ + 0))) (x + 14) i = _
        rw [rv_sRk e1]
        exact b1
  · exact (S.to (ms' := nwM ms np s ep) (hn _ (by omega) (by omega)) (fun b hb => ht b (by rcases hb with h | h | h | h <;> rw [h] <;> decide) (by rcases hb with h | h | h | h <;> rw [h] <;> decide)) (fun i hi hp => by obtain ⟨-, -, -, -, -, -, ⟨-, b1, -⟩, -⟩ := (S.2.2 i hi).2 hp; exact ht _ (by rw [b1]; decide) (by rw [b1]; decide)) (nw_1 (by decide)) (fun k j h1 h2 => nw_k (Or.inr (by omega))) rfl).g (fun k i hk => gPk_n (Or.inl (by omega)))
  · exact (T.to (ms' := nwM ms np s ep) (hn _ (by omega) (by omega)) (fun b hb => ht b (by rcases hb with h | h | h | h | h | h <;> rw [h] <;> decide) (by rcases hb with h | h | h | h | h | h <;> rw [h] <;> decide)) (nw_1 (by decide)) (fun k j h1 h2 => nw_k (Or.inr (by omega)))).g (fun k i h1 h2 => gPk_n (Or.inl (by omega)))
end SND
end
/-! from 98.send2 -/
section
/-! CALLS: send, carry, note -/
section SN2
variable {fx : Bool} {σ σ' : HS} {x : Nat} {G : Nat → Nat → Nat} {ms ms' : MS}
theorem DN.to {s : Nat} (D : DN ms s) (e1 : ms'.1 1 = ms.1 1) (e : ∀ k j, 19 ≤ k → k ≤ 24 → ms'.2.1 k j = ms.2.1 k j) : DN ms' s := by
  intro k k' h1 h2 h3 h4 l1 l2 hne
  have ll : ∀ j, liveN ms' j = liveN ms j := fun j => by unfold liveN; rw [e1, e 23 j (by omega) (by omega)]
  rw [ll] at l1 l2
  rw [e 19 k (by omega) (by omega), e 20 k (by omega) (by omega), e 19 k' (by omega) (by omega), e 20 k' (by omega) (by omega)]
  exact D k k' h1 h2 h3 h4 l1 l2 hne
/-- a packet starts -/
theorem a_start (P : Rep fx σ x G ms) {n s np i : Nat} (hs : s < 8) (hps : ¬ ms.2.1 14 s = -1) (D : DN ms s) (hL : ∀ k, k < 48 → Ln (ms.2.1 20 k)) (hn : ms.1 36 = nI n) (hn2 : n ≤ 200) (hnp : ms.1 28 = nI np) (hnp2 : np ≤ 200) (hi : i < np) (h29 : ms.2.1 29 (i + 1) = nI s) :
    ∃ σ', f_X9_start σ (some x) (some (G 7 i)) (some (G 3 s)) = some ((), σ') ∧ Rep fx σ' x G (if hasB ms s (ms.2.1 30 (i + 1)) = true then dlvM ms (i + 1) (nI s) else match ntF ms s (ms.2.1 30 (i + 1)) with | none => askM ms n (i + 1) 0 | some k => folM ms n (i + 1) (ms.2.1 21 k)) ∧ Kq x 0 0 σ σ' := by
  obtain ⟨t1, -, v1, v2, -⟩ := pkt P hnp hnp2 hi
  have I := P.si hs hps
  have F := P.2.1
  unfold f_X9_start
  rw [gI_s t1, v2, h_b1_s, rcv_s I.1, h_b1_s, c_hasEnd hs I, h_bd_s]
  cases hb : hasB ms s (ms.2.1 30 (i + 1)) with
  | true =>
    obtain ⟨σ1, r1, r2, r3⟩ := a_deliver P (nI s) hnp hnp2 hi
    refine ⟨σ1, ?_, by rw [if_pos rfl]; exact r2, r3.q⟩
    rw [b2i_t, if_neg (by decide), gI_s t1, v1, h29, h_b1_s, rcv_s t1, h_b1_s, r1, h_bd_s]
  | false =>
    obtain ⟨r, f1, f2⟩ := c_noteF I D hL hs (ms.2.1 30 (i + 1))
    have t9 : h_gI σ (some x) 10 9 = some (ms.1 1) := by rw [gI_s F.1, P.2.2.1.2.1]
    rw [b2i_f, if_pos rfl, gR_s I.1, I.2.2.2.2.2.2.1.1, h_b1_s, gI_s t1, v2, h_b1_s, t9, h_b1_s, rcv_s I.2.2.2.2.2.2.1.2, h_b1_s, f1, h_bd_s, if_neg (show ¬ (false = true) by decide)]
    cases hf : ntF ms s (ms.2.1 30 (i + 1)) with
    | none =>
      rw [hf] at f2
      have f2' : r = none := f2
      obtain ⟨σ1, r1, r2, r3⟩ := a_ask P 0 hn hn2 hnp hnp2 hi
      refine ⟨σ1, ?_, r2, r3.q⟩
      rw [if_pos f2', rcv_s F.1, h_b1_s, r1, h_bd_s]
    | some k =>
      rw [hf] at f2
      obtain ⟨a, g1, g2, g3⟩ := f2
      obtain ⟨σ1, r1, r2, r3⟩ := a_follow P (i := i) (a := a) (pl := ms.2.1 21 k) hn hn2 hnp hnp2 hi g2.1 g3.2.2.1
      refine ⟨σ1, ?_, r2, r3.q⟩
      rw [if_neg (by rw [g1]; exact fun z => by cases z), rcv_s F.1, h_b1_s, g1, r1, h_bd_s]
theorem k_send (h : Bt fx σ x ms) (hm : Rm σ) (I0 : MI ms) (hD : ∀ s, s < 8 → DN ms s) {n np : Nat} (hn : ms.1 36 = nI n) (hn2 : n ≤ 200) (hnp : ms.1 28 = nI np) (hnp2 : np ≤ 200) (hfr : ∀ i, np < i → i ≤ 200 → ms.2.1 31 i = 0 ∧ ms.2.1 32 i = 0 ∧ ms.2.1 34 i = 0 ∧ ms.2.1 35 i = 0) (a ep : Int32) : lcI cdL_send (f_X9_send σ (some x) a ep) (fun τ => f_X10_send τ (some (x + 15)) a ep) (some x) (some (x + 15)) (some (x + 49)) σ (fun τ => Bt fx τ x (if np = 200 then k_pI ms 0 1 else if siteB ms a = true then sendM ms n a.toNatClampNeg np ep else k_pI ms 0 2) ∧ Gw (1 + 1) (8 + 6) σ τ) := by
  obtain ⟨G, P⟩ := h.1
  have hp := p_send_eq ms a ep hn hn2 hnp hnp2 I0
  have g8 : h_gI σ (some x) 10 8 = some (nI np) := by rw [gI_s P.2.1.1, P.2.2.1.1, hnp]
  by_cases h200 : np = 200
  · rw [if_pos h200] at hp ⊢
    refine stepI h (σ1 := σ) (r := .error 2) (c0 := 1) ?_ (Or.inr ⟨2, rfl, rfl, by decide⟩) (Kq.rf.le (by omega) (by omega)) ⟨G, P.cd 1⟩ hp pI_s1 (fun τ V => q_X10_send V a ep)
    unfold f_X9_send
    rw [g8, h_b1_s, if_neg (show ¬ nI np < 200 from nI_nlt (a := np) (b := 200) (by omega) (by omega)), hm.thr]
  · rw [if_neg h200] at hp ⊢
    have hlt : nI np < 200 := nI_lt (a := np) (b := 200) (by omega) (by decide)
    have hat := c_siteAt P.2.1 P.2.2.2.2.2.2.2 a
    cases hsB : siteB ms a with
    | false =>
      rw [hsB, if_neg (by decide)] at hp hat
      rw [if_neg (by decide)]
      refine stepI h (σ1 := σ) (r := .error 1) (c0 := 2) ?_ (Or.inr ⟨1, rfl, rfl, by decide⟩) (Kq.rf.le (by omega) (by omega)) ⟨G, P.cd 2⟩ hp pI_s1 (fun τ V => q_X10_send V a ep)
      unfold f_X9_send
      rw [g8, h_b1_s, if_pos hlt, rcv_s P.2.1.1, h_b1_s, hat, h_bd_s, if_pos rfl, hm.thr]
    | true =>
      obtain ⟨s, hs, rfl, hps⟩ := siteB_nI hsB
      rw [hsB, if_pos rfl] at hp hat
      rw [if_pos rfl]
      rw [nI_clamp (by omega)] at hp hat ⊢
      have B := P.n0
      have hz : h_sz σ + 1 ≤ h_cz σ := by have := hm.1; omega
      have hsl : h_sl σ + 8 ≤ h_ck σ := by have := hm.2; omega
      obtain ⟨m1, m2, m3⟩ := pk_make B hz hsl (nI (np + 1)) (nI s) ep
      have Po : Rep fx σ x G (okM ms) := P.cd 0
      obtain ⟨P1, K1⟩ := Rep_packet Po (np := np) (s := nI s) (ep := ep) hnp (by omega) (hfr (np + 1) (by omega) (by omega))
      have P15 := P.ext (Ext_rpl B [(0, 4, 0, 8, 0)])
      have P2 := P.ext (Ext_rpl B (pK (nI (np + 1)) (nI s) ep))
      have tgp : h_tg (rpl (h_sz σ) (pK (nI (np + 1)) (nI s) ep) σ) (h_sz σ + 0) = 4 := rpl_tg B 0 _
      have es : startM ms (nI s) ep np = nwM (okM ms) np (nI s) ep := rfl
      have e14 : (nwM (okM ms) np (nI s) ep).2.1 14 s = ms.2.1 14 s := nw_k (Or.inr (by omega))
      have e29 : (nwM (okM ms) np (nI s) ep).2.1 29 (np + 1) = nI s := by unfold nwM; rw [aS_k (by decide), aS_k (by decide), aS_s]
      have e30 : (nwM (okM ms) np (nI s) ep).2.1 30 (np + 1) = ep := by unfold nwM; rw [aS_k (by decide), aS_s]
      have hD1 : DN (nwM (okM ms) np (nI s) ep) s := (hD s hs).to rfl (fun k j h1 h2 => nw_k (Or.inr (by omega)))
      have hL1 : ∀ k, k < 48 → Ln ((nwM (okM ms) np (nI s) ep).2.1 20 k) := fun k hk => by rw [nw_k (Or.inr (by omega))]; exact I0.2.2.2.2.2.1 k hk
      have e2 : h_gI (rpl (h_sz σ) [(0, 4, 0, 8, 0)] σ) (some x) 10 8 = some (nI np) := by rw [gI_s P15.2.1.1, P15.2.2.1.1, hnp]
      have e3 : h_gR (rpl (h_sz σ) (pK (nI (np + 1)) (nI s) ep) σ) (some x) 10 7 = some (some (x + 14)) := by rw [gR_s P2.2.1.1, P2.2.1.2.1.2.2.2.2.2.2.2]
      have e4 : h_gI (rpl (h_sz σ) (pK (nI (np + 1)) (nI s) ep) σ) (some x) 10 8 = some (nI np) := by rw [gI_s P2.2.1.1, P2.2.2.1.1, hnp]
      have t14 := P2.2.1.2.2.2.2.2.2.2.2.2.2.2
      have e5 : h_sR (rpl (h_sz σ) (pK (nI (np + 1)) (nI s) ep) σ) (some (x + 14)) 105 4 (nI np) (some (h_sz σ + 0)) = some (h_setR (rpl (h_sz σ) (pK (nI (np + 1)) (nI s) ep) σ) (x + 14) np (some (h_sz σ + 0))) := sR_s t14.1 t14.2 (by omega) (by decide) (decide_eq_true tgp)
      have n14 : x ≠ x + 14 := by omega
      have tx : h_tg (h_setR (rpl (h_sz σ) (pK (nI (np + 1)) (nI s) ep) σ) (x + 14) np (some (h_sz σ + 0))) x = 10 := P2.2.1.1
      have vx : h_iv (h_setR (rpl (h_sz σ) (pK (nI (np + 1)) (nI s) ep) σ) (x + 14) np (some (h_sz σ + 0))) x 8 = nI np := P2.2.2.1.1.trans hnp
      have hfun : ∀ {y}, (h_b1 (h_rcv (h_setI (h_setR (rpl (h_sz σ) (pK (nI (np + 1)) (nI s) ep) σ) (x + 14) np (some (h_sz σ + 0))) x 8 (nI (np + 1))) (some x) 10) fun _ => h_bd (f_X9_start (h_setI (h_setR (rpl (h_sz σ) (pK (nI (np + 1)) (nI s) ep) σ) (x + 14) np (some (h_sz σ + 0))) x 8 (nI (np + 1))) (some x) (some (h_sz σ + 0)) (some (G 3 s))) fun _ s31 => h_b1 (h_gI s31 (some (h_sz σ + 0)) 4 0) fun x35 => some (.ok x35, s31)) = y → f_X9_send σ (some x) (nI s) ep = y := by
        intro y hy
        unfold f_X9_send
        rw [g8, h_b1_s, if_pos hlt, rcv_s P.2.1.1, h_b1_s, hat, h_bd_s, if_neg (fun z => by cases z), m1, h_bd_s, e2, h_b1_s, m2, h_b1_s, nI_c1, m3, h_bd_s, e3, h_b1_s, e4, h_b1_s, e5, h_b1_s, gI_s tx, vx, h_b1_s, nI_c1, pI_s tx, h_b1_s]
        exact hy
      generalize h_setI (h_setR (rpl (h_sz σ) (pK (nI (np + 1)) (nI s) ep) σ) (x + 14) np (some (h_sz σ + 0))) x 8 (nI (np + 1)) = τ at P1 K1 hfun
      obtain ⟨σ3, r1, r2, r3⟩ := a_start P1 (n := n) (s := s) (np := np + 1) (i := np) hs (by rw [e14]; exact hps) hD1 hL1 (by rw [nw_1 (by decide)]; exact hn) hn2 nw_28 (by omega) (by omega) e29
      rw [gPk_s, gPk_n (Or.inl (by decide))] at r1
      rw [e30] at r2
      have hsend : sendM ms n s np ep = (if hasB (nwM (okM ms) np (nI s) ep) s ep = true then dlvM (nwM (okM ms) np (nI s) ep) (np + 1) (nI s) else match ntF (nwM (okM ms) np (nI s) ep) s ep with | none => askM (nwM (okM ms) np (nI s) ep) n (np + 1) 0 | some k => folM (nwM (okM ms) np (nI s) ep) n (np + 1) ((nwM (okM ms) np (nI s) ep).2.1 21 k)) := rfl
      rw [← hsend] at r2
      have e28 : (sendM ms n s np ep).1 28 = nI (np + 1) := by
        rw [hsend]
        split
        · rw [dlvM_1]; exact nw_28
        · split
          · rw [askM_s (by decide) (by decide) (by decide)]; exact nw_28
          · rw [folM_s (by decide) (by decide)]; exact nw_28
      have e0' : (sendM ms n s np ep).1 0 = 0 := by
        have : (nwM (okM ms) np (nI s) ep).1 0 = 0 := by rw [nw_1 (by decide)]; exact okM_0
        rw [hsend]
        split
        · rw [dlvM_1]; exact this
        · split
          · rw [askM_s (by decide) (by decide) (by decide)]; exact this
          · rw [folM_s (by decide) (by decide)]; exact this
      obtain ⟨q1, q2, -⟩ := pkt r2 e28 (by omega) (i := np) (by omega)
      rw [gPk_s] at q1 q2
      refine stepI h (σ1 := σ3) (r := .ok (nI (np + 1))) (c0 := 0) (hfun ?_) (Or.inl ⟨rfl, rfl⟩) (K1.tr r3) ⟨_, r2⟩ hp e0' (fun τ V => q_X10_send V (nI s) ep)
      rw [rcv_s P1.2.1.1, h_b1_s, r1, h_bd_s, gI_s q1, q2, h_b1_s]
theorem cz_le (k : Int32) : cz k ≤ 2 := by
  unfold cz
  by_cases h0 : k = 0
  · rw [if_pos h0]; omega
  rw [if_neg h0]
  by_cases h1 : k = 1
  · rw [if_pos h1]; omega
  rw [if_neg h1]
  by_cases h2 : k = 2
  · rw [if_pos h2]; omega
  rw [if_neg h2]; omega
theorem RA.ma {np : Nat} (A : RA ms np) : MA ms := by
  obtain ⟨Tt, hL8, -, hU, -, -, -, -, -, hk3⟩ := A
  exact ⟨hk3, fun sv ep hsv hc => crowd_no hL8 Tt.2.1 hsv (hU sv hsv) ep hc⟩
theorem k_carry (h : Bt fx σ x ms) (hm : Rm σ) (hfx : fx = false) {n np : Nat} (hn : ms.1 36 = nI n) (hn2 : n ≤ 200) (hnp : ms.1 28 = nI np) (hnp2 : np ≤ 200) (A : ∀ i, i < n → RA (takeM (okM ms) n i) np ∧ MI (takeM (okM ms) n i)) (h0 : ∀ i, i < n → (arrM (takeM (okM ms) n i) (n - 1) np).1 0 = 0) (a : Int32) : lcV cdL_carry (f_X9_carry σ (some x) a) (fun τ => f_X10_carry τ (some (x + 15)) a) (some x) (some (x + 15)) σ (fun τ => Bt fx τ x (if msgB n a = true then arrM (takeM (okM ms) n a.toNatClampNeg) (n - 1) np else noM ms) ∧ Gw (2 + 1) (8 + 6) σ τ) := by
  obtain ⟨G, P⟩ := h.1
  obtain ⟨r1, r2, r3⟩ := rowHas P hn hn2 a
  have hp := p_carry_eq ms a hn hn2 hnp hnp2 (fun i hi => ⟨(A i hi).2, (A i hi).1.ma⟩)
  by_cases hb : msgB n a = true
  · obtain ⟨k, hk, rfl⟩ := msgB_some hn2 hb
    rw [if_pos hb] at hp ⊢
    rw [nI_clamp (by omega)] at hp ⊢
    obtain ⟨σ1, c1, c2, c3⟩ := a_bring (P.cd 0) hfx (by have := hm.1; omega) (by have := hm.2; omega) (ms := okM ms) hn hn2 hk (A k hk).1
    have hcz : cz ((takeM (okM ms) n k).2.1 38 6) ≤ 2 := cz_le _
    refine stepV h (σ1 := σ1) (r := .ok ()) (c0 := 0) ?_ (Or.inl ⟨rfl, rfl⟩) (c3.le hcz (by omega)) ⟨G, c2⟩ hp (h0 k hk) (fun τ V => q_X10_carry V (nI k))
    unfold f_X9_carry
    rw [r1, h_b1_s, r2, h_b1_s, r3, h_bd_s, hb, if_neg (by decide), rcv_s P.2.1.1, h_b1_s, c1, h_bd_s]
  · have hb' := bool_f hb
    rw [if_neg hb] at hp ⊢
    refine stepV h (σ1 := σ) (r := .error 3) (c0 := 1) ?_ (Or.inr ⟨3, rfl, rfl⟩) (Kq.rf.le (by omega) (by omega)) ⟨G, P.cd 1⟩ hp noM_0 (fun τ V => q_X10_carry V a)
    unfold f_X9_carry
    rw [r1, h_b1_s, r2, h_b1_s, r3, h_bd_s, hb', if_pos (by rfl), hm.thr]
end SN2
end
/-! from 98a.register -/
section
/-! CALLS: register -/
section RGC
variable {fx : Bool} {σ σ' : HS} {x : Nat} {G : Nat → Nat → Nat} {ms ms' : MS}
/-- a site's last nonce -/
theorem Rep_nonce (P : Rep fx σ x G ms) {s : Nat} {pl : Int32} (hs : s < 8) (hp : ¬ ms.2.1 14 s = -1) : Rep fx (h_setI σ (G 3 s) 1 pl) x G (aS ms 18 s pl) ∧ Kq x 0 0 σ (h_setI σ (G 3 s) 1 pl) := by
  have I := P.si hs hp
  obtain ⟨a1, a2, a3, a4, ⟨a5, a6, a7⟩, ⟨c, c1, c2, c3⟩, ⟨a8, a9⟩, ⟨b1, b2, b3⟩, z, z1, z2, z3, z4⟩ := id I
  have hsm : ∀ q, q ≠ G 3 s → Sm σ (h_setI σ (G 3 s) 1 pl) q := fun q h3 => Sm_I h3
  have ek : ∀ k j, k ≠ 18 → (aS ms 18 s pl).2.1 k j = ms.2.1 k j := fun k j h => aS_k h
  have ne : ∀ {b c : Nat}, h_tg σ b ≠ h_tg σ c → b ≠ c := fun h z => h (by rw [z])
  have I1 : SiR fx (h_setI σ (G 3 s) 1 pl) G (aS ms 18 s pl) s := by
    have h25 : ∀ q, h_tg σ q = 2 ∨ h_tg σ q = 5 → Sm σ (h_setI σ (G 3 s) 1 pl) q := fun q hq => hsm q (ne (by rw [a1]; omega))
    have s4 := hsm (G 4 s) (ne (by rw [a1, a6]; decide))
    have s5 := hsm (G 5 s) (ne (by rw [a1, a9]; decide))
    have s6 := hsm (G 6 s) (ne (by rw [a1, b2]; decide))
    refine ⟨a1, by rw [iv_sIk (by decide), ek _ _ (by decide)]; exact a2, by rw [iv_sI, aS_s], by rw [iv_sIk (by decide), ek _ _ (by decide)]; exact a4, ⟨a5, a6, a7⟩, ⟨c, c1, by rw [ek _ _ (by decide)]; exact c2, fun k hk => ?_⟩, ⟨a8, a9⟩, ⟨b1, b2, b3⟩, z, z1, by rw [s5.2.2.1]; exact z2, fun j hj => ?_, ?_⟩
    · obtain ⟨p, n, d1, d2, d3⟩ := c3 k hk
      exact ⟨p, n, d1, by rw [ek _ _ (by decide)]; exact d2, by rw [ek _ _ (by decide)]; exact d3.to (h25 p (Or.inr d3.1))⟩
    · obtain ⟨a, d1, d2⟩ := z3 j hj
      exact ⟨a, d1, (d2.to h25).1⟩
    · have ec : lL (nP ((aS ms 18 s pl).1 1)) (nC (h_setI σ (G 3 s) 1 pl) (G 6 s)) 0 z = lL (nP (ms.1 1)) (nC σ (G 6 s)) 0 z := by
        show lL (nP (ms.1 1)) _ 0 z = _
        refine lL_congr z 0 (fun j _ hj => ?_)
        obtain ⟨a, d1, d2⟩ := z3 j (by omega)
        unfold nC
        rw [s6.2.2.2.1, d1]
        exact congrArg some (d2.to h25).2
      have em : lL (fun q => nP ((aS ms 18 s pl).1 1) q.1) (nM (aS ms 18 s pl)) (6 * s) 6 = lL (fun q => nP (ms.1 1) q.1) (nM ms) (6 * s) 6 := by
        show lL (fun q : N5 × Int32 => nP (ms.1 1) q.1) _ (6 * s) 6 = _
        refine lL_congr 6 (6 * s) (fun j _ _ => ?_)
        unfold nM
        rw [ek _ _ (by decide), ek _ _ (by decide), ek _ _ (by decide), ek _ _ (by decide), ek _ _ (by decide), ek _ _ (by decide)]
      rw [ec, em]
      exact z4
  exact ⟨Rep_one P hs hp P.1 (fun q g3 _ _ _ _ => hsm q g3) I1 (by rw [ek _ _ (by decide)]; exact hp) (fun _ _ _ => rfl) (fun k j h => ek k j (by omega)) rfl (fun t ht e => ⟨ek _ _ (by decide), ek _ _ (by decide), aS_j e⟩) (fun t k ht e hk => ⟨ek _ _ (by decide), ek _ _ (by decide)⟩) (fun t k j _ _ h1 _ _ _ => ek _ _ (by omega)), Kq_si P hs hp ⟨rfl, rfl, rfl, rfl⟩ (fun q g3 _ _ _ _ => hsm q g3)⟩
theorem g_reg {s cc : Nat} (hs : s < 8) (hcc : cc ≤ 4) : ∀ (c m k cnt : Nat) (σ : HS) (ms : MS), Rep fx σ x G ms → Tr ms → ¬ ms.2.1 14 s = -1 → ms.2.1 15 s = nI cc → k + c = cc → c < m → ∃ σ', g_X9_register_25 m σ (some x) (nI s) (some (G 3 s)) (nI cnt) (nI k) = some (.ok (nI (fo (stR s) (4 * s + k) c (ms, cnt)).2), σ') ∧ Rep fx σ' x G (fo (stR s) (4 * s + k) c (ms, cnt)).1 ∧ Kq x 0 0 σ σ'
  | 0, 0, k, cnt, σ, ms, _, _, _, _, _, h => absurd h (Nat.lt_irrefl 0)
  | c + 1, 0, k, cnt, σ, ms, _, _, _, _, _, h => absurd h (Nat.not_lt_zero _)
  | 0, m + 1, k, cnt, σ, ms, P, Tt, hps, h15, hk, _ => by
    have I := P.si hs hps
    refine ⟨σ, ?_, P, Kq.rf⟩
    rw [g_X9_register_25, gI_s I.1, I.2.2.2.1, h15, h_b1_s, if_pos (nI_le (a := cc) (b := k) (by omega) (by omega))]
    rfl
  | c + 1, m + 1, k, cnt, σ, ms, P, Tt, hps, h15, hk, hm => by
    have I := P.si hs hps
    have F := P.2.1
    obtain ⟨p, n, q1, q2, q3⟩ := c_px I h15 hcc (show k < cc by omega)
    have e0 : h_gR σ (some x) 10 0 = some (some (x + 1)) := by rw [gR_s F.1, F.2.1.1]
    have e2 : h_gR σ (some (G 3 s)) 8 2 = some (some (G 4 s)) := by rw [gR_s I.1, I.2.2.2.2.1.1]
    have how := c_ownerOf F P.2.2.2.2.2.2.1 Tt q3
    have hgo : g_X9_register_25 (m + 1) σ (some x) (nI s) (some (G 3 s)) (nI cnt) (nI k) = (h_bd (f_X8_ownerOf σ (some (x + 1)) (some p)) fun r16 s17 => if r16 = none then g_X9_register_25 m s17 (some x) (nI s) (some (G 3 s)) (nI cnt) (nI (k + 1)) else h_b1 (h_gI s17 (some (G 3 s)) 8 1) fun x22 => h_b1 (h_pI s17 (some (G 3 s)) 8 1 (x22 + 1)) fun s24 => h_b1 (h_gI s24 r16 7 0) fun x26 => h_b1 (h_gR s24 (some (G 3 s)) 8 2) fun x28 => h_b1 (h_aR s24 x28 106 (nI k)) fun x30 => h_b1 (h_gI s24 (some (G 3 s)) 8 0) fun x32 => h_b1 (h_gI s24 (some (G 3 s)) 8 1) fun x34 => h_b1 (h_rcv s24 (some x) 10) fun _ => h_bd (f_X9_postRegister s24 (some x) x26 (nI s) x30 x32 x34) fun _ s37 => g_X9_register_25 m s37 (some x) (nI s) (some (G 3 s)) (nI cnt + 1) (nI (k + 1))) := by
      rw [g_X9_register_25, gI_s I.1, I.2.2.2.1, h15, h_b1_s, if_neg (nI_ge (a := k) (b := cc) (by omega) (by omega)), e0, h_b1_s, e2, h_b1_s, q1, h_b1_s, rcv_s F.2.2.1.1, h_b1_s, nI_c1]
    have hst : stR s (4 * s + k) (ms, cnt) = (match ownE ms (ms.2.1 16 (4 * s + k)) (ln (ms.2.1 17 (4 * s + k))) with | none => (ms, cnt) | some w => (postM (aS ms 18 s (ms.2.1 18 s + 1)) (ms.1 36).toNatClampNeg (mG (nI s) (ms.2.1 16 (4 * s + k)) (ms.2.1 17 (4 * s + k)) (ms.2.1 14 s) (ms.2.1 18 s + 1) (tagF (nI s) (ms.2.1 16 (4 * s + k)) (ms.2.1 17 (4 * s + k)) (ms.2.1 14 s) (ms.2.1 18 s + 1)) 0 (nI w)), cnt + 1)) := rfl
    have hfo : fo (stR s) (4 * s + k) (c + 1) (ms, cnt) = fo (stR s) (4 * s + (k + 1)) c (stR s (4 * s + k) (ms, cnt)) := rfl
    rw [hfo]
    rw [q2, ln_nI q3.2.2.2.1] at hst
    rw [hgo, how, h_bd_s]
    cases ho : ownE ms (ms.2.1 16 (4 * s + k)) n with
    | none =>
      obtain ⟨σ', r1, r2, r3⟩ := g_reg hs hcc c m (k + 1) cnt σ ms P Tt hps h15 (by omega) (by omega)
      rw [ho] at hst
      have hst0 : stR s (4 * s + k) (ms, cnt) = (ms, cnt) := hst
      rw [hst0]
      refine ⟨σ', ?_, r2, r3⟩
      show (if none = none then _ else _) = _
      rw [if_pos rfl]
      exact r1
    | some w =>
      have hw : w < 8 := ownE_lt ho
      have hprw : pr ms w := ((ownE_iff Tt q3.2.2.2.1).mp ho).2.1
      obtain ⟨-, Iw⟩ := (P.2.2.2.2.2.2.1.2.2 w hw).2 hprw
      obtain ⟨P1, K1⟩ := Rep_nonce P (s := s) (pl := ms.2.1 18 s + 1) hs hps
      have hsm : ∀ q, q ≠ G 3 s → Sm σ (h_setI σ (G 3 s) 1 (ms.2.1 18 s + 1)) q := fun q hq => Sm_I hq
      have sp := hsm p (fun z => by have := q3.1; rw [z, I.1] at this; omega)
      have sw := hsm (G 0 w) (fun z => by have := Iw.1; rw [z, I.1] at this; omega)
      have s4 := hsm (G 4 s) (fun z => by have := I.2.2.2.2.1.2.1; rw [z, I.1] at this; omega)
      obtain ⟨n0, n1, n2⟩ := Rep_n P
      obtain ⟨σ2, g1, g2, g3⟩ := a_postRegister P1 (n := n0) n2 n1 (q3.to sp) (nI w) (nI s) (ms.2.1 14 s) (ms.2.1 18 s + 1)
      have v0 : h_iv (h_setI σ (G 3 s) 1 (ms.2.1 18 s + 1)) (G 3 s) 0 = ms.2.1 14 s := by rw [iv_sIk (by decide)]; exact I.2.1
      have v1 : h_iv (h_setI σ (G 3 s) 1 (ms.2.1 18 s + 1)) (G 3 s) 1 = ms.2.1 18 s + 1 := iv_sI
      have t3 : h_tg (h_setI σ (G 3 s) 1 (ms.2.1 18 s + 1)) (G 3 s) = 8 := I.1
      have e2' : h_gR (h_setI σ (G 3 s) 1 (ms.2.1 18 s + 1)) (some (G 3 s)) 8 2 = some (some (G 4 s)) := by rw [gR_s t3]; exact congrArg some I.2.2.2.2.1.1
      have q1' : h_aR (h_setI σ (G 3 s) 1 (ms.2.1 18 s + 1)) (some (G 4 s)) 106 (nI k) = some (some p) := by
        rw [aR_s (show h_tg (h_setI σ (G 3 s) 1 (ms.2.1 18 s + 1)) (G 4 s) = 106 from I.2.2.2.2.1.2.1) (show h_ln (h_setI σ (G 3 s) 1 (ms.2.1 18 s + 1)) (G 4 s) = 4 from I.2.2.2.2.1.2.2) (show k < 4 by omega) (by decide)]
        have := q1
        rw [aR_s I.2.2.2.2.1.2.1 I.2.2.2.2.1.2.2 (show k < 4 by omega) (by decide)] at this
        exact this
      have gw : h_gI (h_setI σ (G 3 s) 1 (ms.2.1 18 s + 1)) (some (G 0 w)) 7 0 = some (nI w) := by rw [gI_s (by rw [sw.1]; exact Iw.1), sw.2.2.1, Iw.2.1]
      have hcl : (ms.1 36).toNatClampNeg = n0 := by rw [n2, nI_clamp (by omega)]
      rw [ho, hcl] at hst
      have hst1 : stR s (4 * s + k) (ms, cnt) = (postM (aS ms 18 s (ms.2.1 18 s + 1)) n0 (mG (nI s) (ms.2.1 16 (4 * s + k)) (nI n) (ms.2.1 14 s) (ms.2.1 18 s + 1) (tagF (nI s) (ms.2.1 16 (4 * s + k)) (nI n) (ms.2.1 14 s) (ms.2.1 18 s + 1)) 0 (nI w)), cnt + 1) := hst
      rw [hst1, show Option.map (G 0) (some w) = some (G 0 w) from rfl]
      clear hst hst1
      generalize hm2 : postM (aS ms 18 s (ms.2.1 18 s + 1)) n0 (mG (nI s) (ms.2.1 16 (4 * s + k)) (nI n) (ms.2.1 14 s) (ms.2.1 18 s + 1) (tagF (nI s) (ms.2.1 16 (4 * s + k)) (nI n) (ms.2.1 14 s) (ms.2.1 18 s + 1)) 0 (nI w)) = m2 at g2
      have ek : ∀ q j, q ≠ 18 → q ≠ 37 → m2.2.1 q j = ms.2.1 q j := fun q j h1 h2 => by rw [← hm2, postM_k h2, aS_k h1]
      obtain ⟨σ3, r1, r2, r3⟩ := g_reg hs hcc c m (k + 1) (cnt + 1) σ2 m2 g2 (Tr_congr (fun q j h1 h2 => ek q j (by omega) (by omega)) Tt) (by rw [ek 14 s (by decide) (by decide)]; exact hps) (by rw [ek 15 s (by decide) (by decide)]; exact h15) (by omega) (by omega)
      refine ⟨σ3, ?_, r2, (K1.tr g3.q).tr r3⟩
      rw [if_neg (fun z => by cases z), gI_s I.1, I.2.2.1, h_b1_s, pI_s I.1, h_b1_s, gw, h_b1_s, e2', h_b1_s, q1', h_b1_s, gI_s t3, v0, h_b1_s, gI_s t3, v1, h_b1_s, rcv_s P1.2.1.1, h_b1_s, g1, h_bd_s, nI_c1]
      exact r1
theorem rgs_0 {s : Nat} : ∀ (c i : Nat) (q : MS × Nat), (fo (stR s) i c q).1.1 0 = q.1.1 0
  | 0, i, q => rfl
  | c + 1, i, q => by
    show (fo (stR s) (i + 1) c (stR s i q)).1.1 0 = _
    rw [rgs_0 c (i + 1)]
    unfold stR
    split
    · rfl
    · show (postM _ _ _).1 0 = _
      rw [postM_s (by decide) (by decide)]
      rfl
theorem k_register (h : Bt fx σ x ms) (hm : Rm σ) (I0 : MI ms) (Tt : Tr ms) (a : Int32) : lcI cdL_register (f_X9_register σ (some x) a) (fun τ => f_X10_register τ (some (x + 15)) a) (some x) (some (x + 15)) (some (x + 49)) σ (fun τ => Bt fx τ x (if siteB ms a = true then (rgsM ms a.toNatClampNeg).1 else noM ms) ∧ Gw (0 + 1) (0 + 6) σ τ) := by
  obtain ⟨G, P⟩ := h.1
  obtain ⟨n, n1, n2⟩ := Rep_n P
  have hp := p_register_eq ms a n2 n1 I0
  have hat := c_siteAt P.2.1 P.2.2.2.2.2.2.2 a
  cases hsB : siteB ms a with
  | false =>
    rw [hsB, if_neg (by decide)] at hp hat
    rw [if_neg (by decide)]
    refine stepI h (σ1 := σ) (r := .error 1) (c0 := 1) ?_ (Or.inr ⟨1, rfl, rfl, by decide⟩) Kq.rf ⟨G, P.cd 1⟩ hp noM_0 (fun τ V => q_X10_register V a)
    unfold f_X9_register
    rw [rcv_s P.2.1.1, h_b1_s, hat, h_bd_s, if_pos rfl, hm.thr]
  | true =>
    obtain ⟨s, hs, rfl, hps⟩ := siteB_nI hsB
    rw [hsB, if_pos rfl] at hp hat
    rw [if_pos rfl]
    rw [nI_clamp (by omega)] at hp hat ⊢
    obtain ⟨cc, c1, c2⟩ := I0.2.2.2.2.2.2.1 s hs
    obtain ⟨σ1, r1, r2, r3⟩ := g_reg (fx := fx) (x := x) (G := G) hs c2 cc h_hN 0 0 σ (okM ms) (P.cd 0) Tt hps c1 (by omega) (h_hN_lt (by omega))
    have er : rgsM ms s = fo (stR s) (4 * s + 0) cc (okM ms, 0) := by unfold rgsM; rw [c1, nI_clamp (by omega)]; rfl
    rw [← er] at r1 r2
    refine stepI h (σ1 := σ1) (r := .ok (nI (rgsM ms s).2)) (c0 := 0) ?_ (Or.inl ⟨rfl, rfl⟩) r3 ⟨G, r2⟩ hp ?_ (fun τ V => q_X10_register V (nI s))
    · unfold f_X9_register
      rw [rcv_s P.2.1.1, h_b1_s, hat, h_bd_s, if_neg (fun z => by cases z)]
      exact r1
    · rw [er, rgs_0]
      exact okM_0
end RGC
end
/-! from 98b.reads -/
section
/-! CALLS that read: truth, count -/
theorem filt_cnt {P : Nat → Bool} : ∀ (c i : Nat), ((List.range' i c).filter P).length = cnt P i c
  | 0, i => rfl
  | c + 1, i => by
    rw [List.range'_succ]
    show _ = (if P i = true then 1 else 0) + cnt P (i + 1) c
    by_cases h : P i = true
    · rw [List.filter_cons_of_pos h, List.length_cons, if_pos h, filt_cnt c (i + 1)]; omega
    · rw [List.filter_cons_of_neg h, if_neg h, filt_cnt c (i + 1)]; omega
theorem fo_cnt6 {P : Nat → Bool} : ∀ (c i a : Nat), fo (fun i a => a + cnt P (6 * i) 6) i c a = a + cnt P (6 * i) (6 * c)
  | 0, i, a => rfl
  | c + 1, i, a => by
    show fo (fun i a => a + cnt P (6 * i) 6) (i + 1) c (a + cnt P (6 * i) 6) = _
    rw [fo_cnt6 c (i + 1) (a + cnt P (6 * i) 6), show 6 * (c + 1) = 6 + 6 * c by omega, cnt_add, show 6 * (i + 1) = 6 * i + 6 by omega]
    omega
section RDC
variable {fx : Bool} {σ σ' : HS} {x : Nat} {G : Nat → Nat → Nat} {ms ms' : MS}
theorem c_siteNotes {s : Nat} (I : SiR fx σ G ms s) : f_X2_countThere σ (some (G 5 s)) (ms.1 1) = some (nI (cnt (liveN ms) (6 * s) 6), σ) := by
  obtain ⟨C, K, L, h1, h2, h3⟩ := I.ct
  rw [c_countThere K]
  have e1 := fa2_len _ _ h3
  have e2 := h1.length_eq
  rw [List.length_map] at e2
  have e3 : (lvI ms s).length = cnt (liveN ms) (6 * s) 6 := filt_cnt 6 (6 * s)
  rw [e1, e2, e3]
theorem c_countNotes (F : Fx σ x) (N : Nx σ x ms) (T : Tx fx σ x G ms) (hab : ∀ s, s < 8 → ms.2.1 14 s = -1 → cnt (liveN ms) (6 * s) 6 = 0) : f_X9_countNotes σ (some x) = some (nI (cnt (liveN ms) 0 48), σ) := by
  unfold f_X9_countNotes
  have key := lp_fold (S := Nat) (fun n a k => g_X9_countNotes_4 n σ (some x) (nI a) k) 8 (fun j a => a + cnt (liveN ms) (6 * j) 6) (fun a => some (nI a, σ)) (fun _ _ => True) (fun _ _ _ _ => trivial)
    (fun n a _ => by
      show g_X9_countNotes_4 (n + 1) σ (some x) (nI a) (nI 8) = _
      rw [g_X9_countNotes_4, if_pos (show (8 : Int32) ≤ nI 8 by decide)])
    (fun n j a hj _ => by
      show g_X9_countNotes_4 (n + 1) σ (some x) (nI a) (nI j) = g_X9_countNotes_4 n σ (some x) (nI (a + cnt (liveN ms) (6 * j) 6)) (nI (j + 1))
      obtain ⟨t0, ⟨-, r1, -⟩, -, -, ⟨t7, l7⟩, -⟩ := id F
      have e1 : h_gR σ (some x) 10 1 = some (some (x + 7)) := by rw [gR_s t0, r1]
      have e2 : h_aR σ (some (x + 7)) 108 (nI j) = some (h_rv σ (x + 7) j) := aR_s t7 l7 hj (by decide)
      rw [g_X9_countNotes_4, if_neg (show ¬ (8 : Int32) ≤ nI j from fun z => absurd (nI_lt (a := j) (b := 8) hj (by decide)) (Int32.not_lt.mpr z)), e1, h_b1_s, e2, h_b1_s, nI_c1]
      by_cases hp : ms.2.1 14 j = -1
      · rw [(T.2 j hj).1 hp, if_pos rfl, hab j hj hp]; rfl
      · obtain ⟨r3, I⟩ := (T.2 j hj).2 hp
        rw [r3, if_neg (fun z => by cases z), h_b1_s, e2, h_b1_s, r3, gR_s I.1, I.2.2.2.2.2.2.1.1, h_b1_s, gI_s t0, N.2.1, h_b1_s, rcv_s I.2.2.2.2.2.2.1.2, h_b1_s, c_siteNotes I, h_bd_s, nI_add]) 8 h_hN 0 0 trivial rfl (h_hN_lt (by decide))
  refine Eq.trans key ?_
  show some (nI (fo (fun i a => a + cnt (liveN ms) (6 * i) 6) 0 8 0), σ) = _
  rw [fo_cnt6 8 0 0, Nat.zero_add]
theorem k_count (h : Bt fx σ x ms) (hE : ∀ i, i < 8 → ms.2.1 3 i = 0 → cnt (liveE ms) (16 * i) 16 = 0) (hN : ∀ s, s < 8 → ms.2.1 14 s = -1 → cnt (liveN ms) (6 * s) 6 = 0) (w : Int32) : lcN (f_X9_count σ (some x) w) (fun τ => f_X10_count τ (some (x + 15)) w) (some x) (some (x + 15)) σ (fun τ => Bt fx τ x (okM ms) ∧ Gw 1 6 σ τ) := by
  obtain ⟨G, P⟩ := h.1
  exact stepN h (c_count P (c_countEntries P.2.1 P.2.2.2.2.2.2.1 hE) (c_countNotes P.2.1 P.2.2.1 P.2.2.2.2.2.2.2 hN) w) (p_count_eq ms w) rfl (q_X10_count h.2.1 w)
/-- the longest so far, and what the reference has of it -/
def lgR (σ : HS) (o : Option Nat) (q : Int32 × Int32) : Prop := match o with
  | none => q = (-1, -1)
  | some a => h_tg σ a = 1 ∧ h_iv σ a 1 = q.1 ∧ ∃ p b n, h_gR σ (some a) 1 0 = some (some p) ∧ hP σ p b n ∧ q.2 = nI n
theorem g_long (P : Rep fx σ x G ms) (hU : ∀ i, i < 8 → UE ms i) (hL : ∀ k, k < 128 → Ln (ms.2.1 8 k)) (hab : ∀ i, i < 8 → ms.2.1 3 i = 0 → ∀ k, 16 * i ≤ k → k < 16 * i + 16 → liveE ms k = false) (ep : Int32) : ∀ (c n j : Nat) (o : Option Nat) (q : Int32 × Int32), j + c = 8 → c < n → lgR σ o q → ∃ o', g_X8_longestEntry_5 n σ (some (x + 1)) ep (ms.1 1) o (nI j) = some (o', σ) ∧ lgR σ o' (fo (trS ms ep) j c q)
  | 0, 0, j, o, q, _, h, _ => absurd h (Nat.lt_irrefl 0)
  | c + 1, 0, j, o, q, _, h, _ => absurd h (Nat.not_lt_zero _)
  | 0, n + 1, j, o, q, hj, _, hr => by
    have : j = 8 := by omega
    subst this
    exact ⟨o, by rw [g_X8_longestEntry_5, if_pos (show (8 : Int32) ≤ nI 8 by decide)], hr⟩
  | c + 1, n + 1, j, o, q, hj, hn, hr => by
    have S := P.2.2.2.2.2.2.1
    obtain ⟨e1, e2⟩ := c_servers P.2.1 S (i := j) (by omega)
    have hlt : ¬ (8 : Int32) ≤ nI j := fun z => absurd (nI_lt (a := j) (b := 8) (by omega) (by decide)) (Int32.not_lt.mpr z)
    show ∃ o', _ ∧ lgR σ o' (fo (trS ms ep) (j + 1) c (trS ms ep j q))
    obtain ⟨b1, b2⟩ := bestE_spec ms ep j (by omega) hL
    by_cases hp : ms.2.1 3 j = 0
    · have hnone : bestE ms ep j = none := by
        cases hb : bestE ms ep j with
        | none => rfl
        | some k =>
          obtain ⟨g1, g2, -⟩ := b1 k hb
          unfold hitE at g2
          rw [hab j (by omega) hp k g1.1 g1.2] at g2
          cases g2
      have htr : trS ms ep j q = q := by unfold trS; rw [hnone]
      rw [htr]
      obtain ⟨o', r1, r2⟩ := g_long P hU hL hab ep c n (j + 1) o q (by omega) (by omega) hr
      refine ⟨o', ?_, r2⟩
      rw [g_X8_longestEntry_5, if_neg hlt, e1, h_b1_s, e2, h_b1_s, nI_c1, (S.2.2 j (by omega)).1 hp, if_pos rfl, if_pos rfl, r1]
    · obtain ⟨s1, I⟩ := (S.2.2 j (by omega)).2 hp
      obtain ⟨r, c1, c2⟩ := c_best (show j < 8 by omega) I (hU j (by omega)) hL ep
      have pre : ∀ {y}, (if r = none then g_X8_longestEntry_5 n σ (some (x + 1)) ep (ms.1 1) o (nI (j + 1)) else if o = none then g_X8_longestEntry_5 n σ (some (x + 1)) ep (ms.1 1) r (nI (j + 1)) else h_b1 (h_gR σ r 1 0) fun x18 => h_b1 (h_gI σ x18 5 1) fun x20 => h_b1 (h_gR σ o 1 0) fun x22 => h_b1 (h_gI σ x22 5 1) fun x24 => if x20 ≤ x24 then g_X8_longestEntry_5 n σ (some (x + 1)) ep (ms.1 1) o (nI (j + 1)) else g_X8_longestEntry_5 n σ (some (x + 1)) ep (ms.1 1) r (nI (j + 1))) = y → g_X8_longestEntry_5 (n + 1) σ (some (x + 1)) ep (ms.1 1) o (nI j) = y := by
        intro y hy
        rw [g_X8_longestEntry_5, if_neg hlt, e1, h_b1_s, e2, h_b1_s, nI_c1, s1, if_neg (fun z => by cases z), h_b1_s, e2, h_b1_s, s1, rcv_s I.1, h_b1_s, c1, h_bd_s]
        exact hy
      cases hb : bestE ms ep j with
      | none =>
        rw [hb] at c2
        have c2' : r = none := c2
        have htr : trS ms ep j q = q := by unfold trS; rw [hb]
        rw [htr]
        obtain ⟨o', r1, r2⟩ := g_long P hU hL hab ep c n (j + 1) o q (by omega) (by omega) hr
        exact ⟨o', pre (by rw [if_pos c2', r1]), r2⟩
      | some k =>
        rw [hb] at c2
        obtain ⟨g1, g2, j0, a, g3, g4, g5⟩ := c2
        obtain ⟨ta, pa, ba, na, w1, w2, w3, w4, -⟩ := ent_px I g4
        have e8 : ms.2.1 8 k = nI na := by rw [← w4, g5]; rfl
        have e9 : h_iv σ a 1 = ms.2.1 9 k := congrArg (fun q : E6 => q.2.2.1) g5
        have htr : trS ms ep j q = if q.2 < nI na then (ms.2.1 9 k, nI na) else q := by unfold trS; rw [hb]; show (if q.2 < ms.2.1 8 k then (ms.2.1 9 k, ms.2.1 8 k) else q) = _; rw [e8]
        rw [htr]
        have hnew : lgR σ (some a) (ms.2.1 9 k, nI na) := ⟨ta, e9, pa, ba, na, w1, w2, rfl⟩
        have gl : h_gI σ (some pa) 5 1 = some (nI na) := by rw [gI_s w2.1, w2.2.2.1]
        cases o with
        | none =>
          have hq : q = (-1, -1) := hr
          have hlt2 : q.2 < nI na := by
            rw [hq, Int32.lt_iff_toInt_lt, nI_toInt (by have := w2.2.2.2.1; omega)]
            show (-1 : Int32).toInt < _
            rw [show (-1 : Int32).toInt = -1 by decide]
            omega
          rw [if_pos hlt2]
          obtain ⟨o', r1, r2⟩ := g_long P hU hL hab ep c n (j + 1) (some a) _ (by omega) (by omega) hnew
          exact ⟨o', pre (by rw [if_neg (by rw [g3]; exact fun z => by cases z), if_pos rfl, g3, r1]), r2⟩
        | some a0 =>
          obtain ⟨u1, u2, p0, b0, n0, u3, u4, u5⟩ := id hr
          have gl0 : h_gI σ (some p0) 5 1 = some (nI n0) := by rw [gI_s u4.1, u4.2.2.1]
          by_cases hle : nI na ≤ nI n0
          · rw [if_neg (by rw [u5]; exact Int32.not_lt.mpr hle)]
            obtain ⟨o', r1, r2⟩ := g_long P hU hL hab ep c n (j + 1) (some a0) q (by omega) (by omega) hr
            exact ⟨o', pre (by rw [if_neg (by rw [g3]; exact fun z => by cases z), if_neg (fun z => by cases z), g3, w1, h_b1_s, gl, h_b1_s, u3, h_b1_s, gl0, h_b1_s, if_pos hle, r1]), r2⟩
          · rw [if_pos (by rw [u5]; exact Int32.not_le.mp hle)]
            obtain ⟨o', r1, r2⟩ := g_long P hU hL hab ep c n (j + 1) (some a) _ (by omega) (by omega) hnew
            exact ⟨o', pre (by rw [if_neg (by rw [g3]; exact fun z => by cases z), if_neg (fun z => by cases z), g3, w1, h_b1_s, gl, h_b1_s, u3, h_b1_s, gl0, h_b1_s, if_neg hle, r1]), r2⟩
theorem k_truth (h : Bt fx σ x ms) (hU : ∀ i, i < 8 → UE ms i) (hL : ∀ k, k < 128 → Ln (ms.2.1 8 k)) (hab : ∀ i, i < 8 → ms.2.1 3 i = 0 → ∀ k, 16 * i ≤ k → k < 16 * i + 16 → liveE ms k = false) (ep : Int32) : lcN (f_X9_truth σ (some x) ep) (fun τ => f_X10_truth τ (some (x + 15)) ep) (some x) (some (x + 15)) σ (fun τ => Bt fx τ x (okM ms) ∧ Gw 1 6 σ τ) := by
  obtain ⟨G, P⟩ := h.1
  have F := P.2.1
  obtain ⟨o, r1, r2⟩ := g_long P hU hL hab ep 8 h_hN 0 none (-1, -1) rfl (h_hN_lt (by decide)) rfl
  refine stepN h (v := (fo (trS ms ep) 0 8 (-1, -1)).1) ?_ (p_truth_eq ms ep hL) rfl (q_X10_truth h.2.1 ep)
  unfold f_X9_truth f_X8_longestEntry
  rw [gR_s F.1, F.2.1.1, h_b1_s, gI_s F.1, P.2.2.1.2.1, h_b1_s, rcv_s F.2.2.1.1, h_b1_s, show g_X8_longestEntry_5 h_hN σ (some (x + 1)) ep (ms.1 1) none 0 = some (o, σ) from r1, h_bd_s]
  cases o with
  | none =>
    have : fo (trS ms ep) 0 8 (-1, -1) = (-1, -1) := r2
    rw [if_pos rfl, this]
  | some a =>
    obtain ⟨t1, t2, -⟩ := r2
    rw [if_neg (fun z => by cases z), gI_s t1, t2, h_b1_s]
end RDC
end
