/-! A REPLY comes -/
def nN (b l pl v e : Int32) : List Op := (2, 1, 3, 0, e) :: (2, 1, 2, 0, v) :: (2, 1, 1, 0, pl) :: (1, 1, 0, 0, 0) :: (0, 2, 0, 4, 0) :: pSp b l 0 0
/-- no two packets wait with one nonce -/
def WN (ms : MS) (np : Nat) : Prop := ∀ i j, 1 ≤ i → i ≤ np → 1 ≤ j → j ≤ np → ms.2.1 31 i = 0 → ms.2.1 31 j = 0 → ms.2.1 32 i = ms.2.1 32 j → i = j
section RPL
variable {fx : Bool} {σ σ' : HS} {x : Nat} {G : Nat → Nat → Nat} {ms ms' : MS}
def lstB (ms : MS) (s : Int32) (i : Nat) : Bool := decide (ms.2.1 29 i = s) && (decide (ms.2.1 31 i = 0) && decide (ms.2.1 32 i = ms.2.1 38 0))
theorem lst_fo (s : Int32) : ∀ (c i : Nat) (o : Option Nat), (∃ j, i ≤ j ∧ j < i + c ∧ lstB ms s j = true ∧ fo (lst ms s) i c o = some j) ∨ ((∀ j, i ≤ j → j < i + c → lstB ms s j = false) ∧ fo (lst ms s) i c o = o)
  | 0, i, o => Or.inr ⟨fun j h1 h2 => by omega, rfl⟩
  | c + 1, i, o => by
    show (∃ j, i ≤ j ∧ j < i + (c + 1) ∧ lstB ms s j = true ∧ fo (lst ms s) (i + 1) c (if lstB ms s i = true then some i else o) = some j) ∨ ((∀ j, i ≤ j → j < i + (c + 1) → lstB ms s j = false) ∧ fo (lst ms s) (i + 1) c (if lstB ms s i = true then some i else o) = o)
    rcases lst_fo s c (i + 1) (if lstB ms s i = true then some i else o) with ⟨j, h1, h2, h3, h4⟩ | ⟨h1, h2⟩
    · exact Or.inl ⟨j, by omega, by omega, h3, h4⟩
    · cases hb : lstB ms s i with
      | true =>
        rw [hb, if_pos rfl] at h2
        exact Or.inl ⟨i, by omega, by omega, hb, by rw [if_pos rfl]; exact h2⟩
      | false =>
        rw [hb, if_neg (by decide)] at h2
        refine Or.inr ⟨fun j h3 h4 => ?_, by rw [if_neg (by decide)]; exact h2⟩
        by_cases e : j = i
        · rw [e]; exact hb
        · exact h1 j (by omega) (by omega)
theorem wt_eq {s : Int32} {np : Nat} (W : WN ms np) : wtF ms s np = (ff (wtP ms s (ms.2.1 38 0)) 0 np).map (· + 1) := by
  have hB : ∀ i, wtP ms s (ms.2.1 38 0) i = lstB ms s (i + 1) := fun i => by
    unfold wtP lstB
    cases decide (ms.2.1 31 (i + 1) = 0) <;> cases decide (ms.2.1 29 (i + 1) = s) <;> rfl
  unfold wtF
  rcases lst_fo (ms := ms) s np 1 none with ⟨j, h1, h2, h3, h4⟩ | ⟨h1, h2⟩
  · rw [h4]
    cases hf : ff (wtP ms s (ms.2.1 38 0)) 0 np with
    | none =>
      have := ff_none.mp hf (j - 1) (by omega) (by omega)
      rw [hB, show j - 1 + 1 = j by omega, h3] at this
      cases this
    | some k =>
      obtain ⟨-, g2, g3, -⟩ := ff_some.mp hf
      rw [hB] at g3
      obtain ⟨-, a2⟩ := (Bool.and_eq_true _ _).mp h3
      obtain ⟨a3, a4⟩ := (Bool.and_eq_true _ _).mp a2
      obtain ⟨-, b2⟩ := (Bool.and_eq_true _ _).mp g3
      obtain ⟨b3, b4⟩ := (Bool.and_eq_true _ _).mp b2
      have := W j (k + 1) (by omega) (by omega) (by omega) (by omega) (of_decide_eq_true a3) (of_decide_eq_true b3) ((of_decide_eq_true a4).trans (of_decide_eq_true b4).symm)
      rw [this]
      rfl
  · rw [h2]
    have : ff (wtP ms s (ms.2.1 38 0)) 0 np = none := ff_none.mpr (fun j g1 g2 => by rw [hB]; exact h1 (j + 1) (by omega) (by omega))
    rw [this]
    rfl
theorem c_val (so v : Int32) : f_X9_isValue σ so v = some (b2i (decide (0 ≤ so ∧ so ≤ 2) && valB so v), σ) := by
  unfold f_X9_isValue valB
  by_cases h0 : so = 0
  · rw [if_pos h0, if_pos h0, decide_eq_true (show 0 ≤ so ∧ so ≤ 2 by rw [h0]; decide), Bool.true_and]
    by_cases h1 : v < 0
    · rw [if_pos h1, decide_eq_false (fun z => absurd h1 (Int32.not_lt.mpr z.1))]; rfl
    · rw [if_neg h1]
      by_cases h2 : 8 ≤ v
      · rw [if_pos h2, decide_eq_false (fun z => absurd (Int32.le_trans h2 z.2) (by decide))]; rfl
      · obtain ⟨k, hk, rfl⟩ := b8 h1 (Int32.not_le.mp h2)
        rw [if_neg h2, decide_eq_true ⟨Int32.not_lt.mp h1, nI_le (a := k) (b := 7) (by omega) (by decide)⟩]; rfl
  rw [if_neg h0, if_neg h0]
  by_cases h1 : so = 1
  · rw [if_pos h1, c_isPlace, h_bd_s, decide_eq_true (show 0 ≤ so ∧ so ≤ 2 by rw [h1]; decide), Bool.true_and, if_neg (show ¬ so = 2 by rw [h1]; decide)]
    cases decide (0 ≤ v ∧ v ≤ 15) with
    | false => rw [if_pos (show b2i false = 0 ∨ b2i false = 1 from Or.inl rfl)]
    | true => rw [if_pos (show b2i true = 0 ∨ b2i true = 1 from Or.inr rfl)]
  rw [if_neg h1]
  by_cases h2 : so = 2
  · rw [if_pos h2, if_pos h2, decide_eq_true (show 0 ≤ so ∧ so ≤ 2 by rw [h2]; decide)]; rfl
  · rw [if_neg h2, if_neg h2, decide_eq_false (fun z => by
      obtain ⟨k, hk, e⟩ := nI_of2 (M := 2) (n := 2) (by decide) (Int32.not_lt.mpr z.1) z.2
      rcases (show k = 0 ∨ k = 1 ∨ k = 2 by omega) with e' | e' | e' <;> rw [e'] at e
      · exact h0 e
      · exact h1 e
      · exact h2 e)]
    rfl
theorem mnM_1 {s : Nat} {b l pl v : Int32} {k : Nat} (h : k ≠ 25) : (mnM ms s b l pl v).1 k = ms.1 k := by
  unfold mnM
  split
  · show (k_pI _ 25 _).1 k = _
    rw [pI_n1 h]
    rfl
  · rfl
/-- a REFERRAL -/
theorem a_refer (P : Rep fx σ x G ms) {n i np : Nat} (hn : ms.1 36 = nI n) (h : n ≤ 200) (hnp : ms.1 28 = nI np) (hnp2 : np ≤ 200) (hi : i < np) {k : Nat} (hk : k ≤ 8) (hk2 : ms.2.1 34 (i + 1) = nI k) : ∃ σ', f_X9_refer σ (some x) (some (G 7 i)) (ms.2.1 38 4) = some ((), σ') ∧ Rep fx σ' x G (rfrM ms n (i + 1)) ∧ Kp x 0 0 σ σ' := by
  obtain ⟨t1, -, -, -, -, -, -, v6, -⟩ := pkt P hnp hnp2 hi
  have P1 := Rep_pk P (k := 6) (v := nI k + 1) hnp hnp2 hi (by omega)
  have K1 := Kp_pk P (k := 6) (v := nI k + 1) hnp hnp2 hi
  have hv : h_iv (h_setI σ (G 7 i) 6 (nI k + 1)) (G 7 i) 6 = nI (k + 1) := by rw [iv_sI, nI_c1]
  have t2 : h_tg (h_setI σ (G 7 i) 6 (nI k + 1)) (G 7 i) = 4 := t1
  have e34 : ms.2.1 34 (i + 1) + 1 = nI (k + 1) := by rw [hk2, nI_c1]
  unfold f_X9_refer rfrM
  rw [gI_s t1, v6, hk2, h_b1_s, pI_s t1, h_b1_s, gI_s t2, hv, h_b1_s]
  have e0 : aS ms (6 + 28) (i + 1) (nI k + 1) = aS ms 34 (i + 1) (nI k + 1) := rfl
  by_cases h9 : k = 8
  · rw [if_neg (show ¬ nI (k + 1) < 9 by rw [h9]; decide), if_pos (show nI k + 1 = 9 by rw [h9]; decide), pI_s t2, h_b1_s]
    have P2 := Rep_pk P1 (k := 3) (v := 3) (i := i) hnp hnp2 hi (by omega)
    have K2 := Kp_pk P1 (k := 3) (v := 3) (i := i) hnp hnp2 hi
    exact ⟨_, rfl, P2, K1.tr0 K2⟩
  · have hlt : nI (k + 1) < 9 := nI_lt (a := k + 1) (b := 9) (by omega) (by decide)
    rw [if_pos hlt, if_neg (show ¬ nI k + 1 = 9 by rw [nI_c1]; intro z; rw [z] at hlt; exact absurd hlt (by decide)), rcv_s P1.2.1.1, h_b1_s]
    obtain ⟨σ', r1, r2, r3⟩ := a_ask P1 (i := i) (ms.2.1 38 4) hn h hnp hnp2 hi
    exact ⟨σ', by rw [r1, h_bd_s], r2, K1.tr0 r3⟩
theorem ignore (P : Rep fx σ' x G ms) {d s : Nat} (K : Kq x d s σ σ') : j_X9_takeReply_88 σ' (some x) = some ((), h_setI σ' x 12 (ms.1 40 + 1)) ∧ Rep fx (h_setI σ' x 12 (ms.1 40 + 1)) x G (ignM ms) ∧ Kq x d s σ (h_setI σ' x 12 (ms.1 40 + 1)) := by
  refine ⟨?_, Rep_xi P (k := 12) (by omega), K.tr (Kp_x P).q⟩
  unfold j_X9_takeReply_88
  rw [gI_s P.2.1.1, P.2.2.1.2.2.2.2.1, h_b1_s, pI_s P.2.1.1, h_b1_s]
/-- a note is made, and what it says is done -/
theorem a_hit (P : Rep fx σ x G ms) (H : Hd fx σ x ms) (hk : ms.2.1 38 6 = 2) (hz : h_sz σ + 2 ≤ h_cz σ) (hsl : h_sl σ + 6 ≤ h_ck σ) {t : Nat} (ht : ms.1 1 = nI t) (ht2 : t ≤ 1000000) {s n i np m : Nat} (hs : s < 8) (hps : ¬ ms.2.1 14 s = -1) (O : ON ms s) (hL : ∀ k, k < 48 → Ln (ms.2.1 20 k)) (hn : ms.1 36 = nI n) (hn2 : n ≤ 200) (hnp : ms.1 28 = nI np) (hnp2 : np ≤ 200) (hi : i < np) (hm : m ≤ 32) (hl : ms.2.1 38 3 = nI m) (hvb : vb m (ms.2.1 38 2) = true) {pl v' : Int32} (hvv : ms.2.1 38 5 = v' ∨ (fx = false ∧ pl = -1)) :
    ∃ τ σ', h_mk (rpl (h_sz σ) (pSp (ms.2.1 38 2) (ms.2.1 38 3) 0 0) σ) 2 4 = some (some (h_sz σ + 1), τ) ∧ j_X9_takeReply_133 τ (some x) (some (G 3 s)) (some (G 7 i)) pl (some (h_sz σ + 0)) (some (h_sz σ + 1)) (some (h_sz σ + 1)) = some ((), σ') ∧ Rep fx σ' x G (folM (mnM ms s (ms.2.1 38 2) (ms.2.1 38 3) pl v') n (i + 1) pl) ∧ Kq x 2 6 σ σ' := by
  have B := P.n0
  have h50 := P.1.1
  have h3 : ¬ ms.2.1 38 6 = 3 := by rw [hk]; decide
  have hmk : h_mk (rpl (h_sz σ) (pSp (ms.2.1 38 2) (ms.2.1 38 3) 0 0) σ) 2 4 = some (some (h_sz σ + 1), rpl (h_sz σ) ((0, 2, 0, 4, 0) :: pSp (ms.2.1 38 2) (ms.2.1 38 3) 0 0) σ) := E_mk B (l := pSp (ms.2.1 38 2) (ms.2.1 38 3) 0 0) (l' := (0, 2, 0, 4, 0) :: pSp (ms.2.1 38 2) (ms.2.1 38 3) 0 0) (c := 1) (w := 2) rfl rfl rfl (by omega) (by omega)
  have P1 := P.ext (Ext_rpl B ((0, 2, 0, 4, 0) :: pSp (ms.2.1 38 2) (ms.2.1 38 3) 0 0))
  have H1 : Hd fx (rpl (h_sz σ) ((0, 2, 0, 4, 0) :: pSp (ms.2.1 38 2) (ms.2.1 38 3) 0 0) σ) x ms := H.to (rpl_lo B (by omega) _)
  have hrc : h_rcv (rpl (h_sz σ) ((0, 2, 0, 4, 0) :: pSp (ms.2.1 38 2) (ms.2.1 38 3) 0 0) σ) (some (h_sz σ + 1)) 2 = some (h_sz σ + 1) := E_rcv B rfl
  have P2 := P.ext (Ext_rpl B (nN (ms.2.1 38 2) (ms.2.1 38 3) pl (ms.2.1 38 5) (ms.1 1 + 60)))
  have K2 : Kq x 2 6 σ (rpl (h_sz σ) (nN (ms.2.1 38 2) (ms.2.1 38 3) pl (ms.2.1 38 5) (ms.1 1 + 60)) σ) := Kq_rpl P _ (by exact Nat.le_refl 2) (by exact Nat.le_refl 6)
  have hini : f_X1_init (rpl (h_sz σ) ((0, 2, 0, 4, 0) :: pSp (ms.2.1 38 2) (ms.2.1 38 3) 0 0) σ) (some (h_sz σ + 1)) (some (h_sz σ + 0)) pl (ms.2.1 38 5) (ms.1 1) = some ((), rpl (h_sz σ) (nN (ms.2.1 38 2) (ms.2.1 38 3) pl (ms.2.1 38 5) (ms.1 1 + 60)) σ) := by
    unfold f_X1_init nN
    rw [h_b1_s, E_pR B (t := 2) (l' := (1, 1, 0, 0, 0) :: (0, 2, 0, 4, 0) :: pSp (ms.2.1 38 2) (ms.2.1 38 3) 0 0) (off := 1) (r := 0) rfl rfl, h_b1_s, E_pI B (t := 2) (l' := (2, 1, 1, 0, pl) :: (1, 1, 0, 0, 0) :: (0, 2, 0, 4, 0) :: pSp (ms.2.1 38 2) (ms.2.1 38 3) 0 0) (off := 1) rfl rfl, h_b1_s, E_pI B (t := 2) (l' := (2, 1, 2, 0, ms.2.1 38 5) :: (2, 1, 1, 0, pl) :: (1, 1, 0, 0, 0) :: (0, 2, 0, 4, 0) :: pSp (ms.2.1 38 2) (ms.2.1 38 3) 0 0) (off := 1) rfl rfl, h_b1_s, E_pI B (t := 2) (l' := (2, 1, 3, 0, ms.1 1 + 60) :: (2, 1, 2, 0, ms.2.1 38 5) :: (2, 1, 1, 0, pl) :: (1, 1, 0, 0, 0) :: (0, 2, 0, 4, 0) :: pSp (ms.2.1 38 2) (ms.2.1 38 3) 0 0) (off := 1) rfl rfl, h_b1_s]
  have hp2 : hP (rpl (h_sz σ) (nN (ms.2.1 38 2) (ms.2.1 38 3) pl (ms.2.1 38 5) (ms.1 1 + 60)) σ) (h_sz σ + 0) (ms.2.1 38 2) m := ⟨rpl_tg B 0 _, rpl_iv B 0 0 (nN (ms.2.1 38 2) (ms.2.1 38 3) pl (ms.2.1 38 5) (ms.1 1 + 60)) (Or.inl (show 0 < 2 by decide)), (rpl_iv B 0 1 (nN (ms.2.1 38 2) (ms.2.1 38 3) pl (ms.2.1 38 5) (ms.1 1 + 60)) (Or.inl (show 0 < 2 by decide))).trans hl, hm, hvb⟩
  have q1 : h_tg (rpl (h_sz σ) (nN (ms.2.1 38 2) (ms.2.1 38 3) pl (ms.2.1 38 5) (ms.1 1 + 60)) σ) (h_sz σ + 1) = 2 := rpl_tg B 1 _
  have q2 : h_rv (rpl (h_sz σ) (nN (ms.2.1 38 2) (ms.2.1 38 3) pl (ms.2.1 38 5) (ms.1 1 + 60)) σ) (h_sz σ + 1) 0 = some (h_sz σ + 0) := rpl_rv B 1 0 (nN (ms.2.1 38 2) (ms.2.1 38 3) pl (ms.2.1 38 5) (ms.1 1 + 60)) (Or.inl (show 1 < 2 by decide))
  have q3 : h_iv (rpl (h_sz σ) (nN (ms.2.1 38 2) (ms.2.1 38 3) pl (ms.2.1 38 5) (ms.1 1 + 60)) σ) (h_sz σ + 1) 1 = pl := rpl_iv B 1 1 (nN (ms.2.1 38 2) (ms.2.1 38 3) pl (ms.2.1 38 5) (ms.1 1 + 60)) (Or.inl (show 1 < 2 by decide))
  have q4 : h_iv (rpl (h_sz σ) (nN (ms.2.1 38 2) (ms.2.1 38 3) pl (ms.2.1 38 5) (ms.1 1 + 60)) σ) (h_sz σ + 1) 2 = ms.2.1 38 5 := rpl_iv B 1 2 (nN (ms.2.1 38 2) (ms.2.1 38 3) pl (ms.2.1 38 5) (ms.1 1 + 60)) (Or.inl (show 1 < 2 by decide))
  have q5 : h_iv (rpl (h_sz σ) (nN (ms.2.1 38 2) (ms.2.1 38 3) pl (ms.2.1 38 5) (ms.1 1 + 60)) σ) (h_sz σ + 1) 3 = ms.1 1 + 60 := rpl_iv B 1 3 (nN (ms.2.1 38 2) (ms.2.1 38 3) pl (ms.2.1 38 5) (ms.1 1 + 60)) (Or.inl (show 1 < 2 by decide))
  generalize rpl (h_sz σ) (nN (ms.2.1 38 2) (ms.2.1 38 3) pl (ms.2.1 38 5) (ms.1 1 + 60)) σ = τ2 at P2 K2 hini hp2 q1 q2 q3 q4 q5
  generalize rpl (h_sz σ) ((0, 2, 0, 4, 0) :: pSp (ms.2.1 38 2) (ms.2.1 38 3) 0 0) σ = τ1 at P1 H1 hmk hrc hini
  have I2 := P2.si hs hps
  obtain ⟨σ3, m1, m2, m3, m4⟩ := a_make P2 hs hps O hL ht ht2 (a1 := h_sz σ + 1) ⟨q1, h_sz σ + 0, _, _, q2, hp2⟩ q2 hp2 q3 q4 q5 (v' := v') hvv
  rw [← hl] at m2
  have hn' : (mnM ms s (ms.2.1 38 2) (ms.2.1 38 3) pl v').1 36 = nI n := by rw [mnM_1 (by decide)]; exact hn
  have hnp' : (mnM ms s (ms.2.1 38 2) (ms.2.1 38 3) pl v').1 28 = nI np := by rw [mnM_1 (by decide)]; exact hnp
  obtain ⟨σ4, g1, g2, g3⟩ := a_follow m2 (i := i) (a := h_sz σ + 1) (pl := pl) hn' hn2 hnp' hnp2 hi (by rw [m4.1]; exact q1) (by rw [m4.2.2.1]; exact q3)
  refine ⟨τ1, σ4, hmk, ?_, g2, (K2.tr m3).tr g3.q⟩
  have d5 : h_aI τ1 (some (x + 12)) 100 5 = some (ms.2.1 38 5) := (H1.at P1.2.1 (j := 5) (by omega) (nloose h3)).2
  have t1 : h_gI τ1 (some x) 10 9 = some (ms.1 1) := by rw [gI_s P1.2.1.1, P1.2.2.1.2.1]
  have t2 : h_gI τ2 (some x) 10 9 = some (ms.1 1) := by rw [gI_s P2.2.1.1, P2.2.2.1.2.1]
  have hnt : h_gR τ2 (some (G 3 s)) 8 4 = some (some (G 5 s)) := by rw [gR_s I2.1, I2.2.2.2.2.2.2.1.1]
  unfold j_X9_takeReply_133
  rw [(H1.at P1.2.1 (j := 0) (by omega) (nloose h3)).1, h_b1_s, d5, h_b1_s, t1, h_b1_s, hrc, h_b1_s, hini, h_bd_s, hnt, h_b1_s, t2, h_b1_s, rcv_s I2.2.2.2.2.2.2.1.2, h_b1_s, m1, h_bd_s, rcv_s m2.2.1.1, h_b1_s, g1, h_bd_s]
theorem a_reply (P : Rep fx σ x G ms) (H : Hd fx σ x ms) (hk : ms.2.1 38 6 = 2) (hfx : fx = false) (hz : h_sz σ + 2 ≤ h_cz σ) (hsl : h_sl σ + 6 ≤ h_ck σ) {t : Nat} (ht : ms.1 1 = nI t) (ht2 : t ≤ 1000000) {s n np : Nat} (hs : s < 8) (hps : ¬ ms.2.1 14 s = -1) (O : ON ms s) (hL : ∀ k, k < 48 → Ln (ms.2.1 20 k)) (hn : ms.1 36 = nI n) (hn2 : n ≤ 200) (hnp : ms.1 28 = nI np) (hnp2 : np ≤ 200) (W : WN ms np) (hst : ∀ i, i < np → ms.2.1 31 (i + 1) = 0 → ∃ k, k ≤ 8 ∧ ms.2.1 34 (i + 1) = nI k) :
    ∃ σ', f_X9_takeReply σ (some x) (nI s) = some ((), σ') ∧ Rep fx σ' x G (rplM ms n s (wtF ms (nI s) np)) ∧ Kq x 2 6 σ σ' := by
  have F := P.2.1
  have B := P.n0
  have h50 := P.1.1
  have h3 : ¬ ms.2.1 38 6 = 3 := by rw [hk]; decide
  have e5 := (H.at F (j := 0) (by omega) (nloose h3)).1
  have d0 : h_aI σ (some (x + 12)) 100 0 = some (ms.2.1 38 0) := (H.at F (j := 0) (by omega) (nloose h3)).2
  have d1 : h_aI σ (some (x + 12)) 100 1 = some (ms.2.1 38 1) := (H.at F (j := 1) (by omega) (nloose h3)).2
  have d2 : h_aI σ (some (x + 12)) 100 2 = some (ms.2.1 38 2) := (H.at F (j := 2) (by omega) (nloose h3)).2
  have d3 : h_aI σ (some (x + 12)) 100 3 = some (ms.2.1 38 3) := (H.at F (j := 3) (by omega) (nloose h3)).2
  have d4 : h_aI σ (some (x + 12)) 100 4 = some (ms.2.1 38 4) := (H.at F (j := 4) (by omega) (nloose h3)).2
  have hat := c_siteAt F P.2.2.2.2.2.2.2 (nI s)
  rw [siteB_i hs, decide_eq_true hps, if_pos rfl, nI_clamp (by omega)] at hat
  have hwt := c_waiting F P.2.2.1 P.2.2.2.2.2.1 (nI s) (ms.2.1 38 0) hnp hnp2
  rw [wt_eq W]
  unfold f_X9_takeReply
  rw [rcv_s F.1, h_b1_s, hat, h_bd_s, if_neg (fun z => by cases z), e5, h_b1_s, d1, h_b1_s, h_b1_s, d4, h_b1_s, h_b1_s, d0, h_b1_s, rcv_s F.1, h_b1_s, hwt, h_bd_s, e5, h_b1_s, d2, h_b1_s, h_b1_s, d3, h_b1_s]
  cases hv : vpB (ms.2.1 38 2) (ms.2.1 38 3) with
  | false =>
    obtain ⟨r1, r2, r3⟩ := ignore P (Kq.rf (x := x) (σ := σ))
    rw [of_no hv, h_bd_s]
    have hfin : rplM ms n s ((ff (wtP ms (nI s) (ms.2.1 38 0)) 0 np).map (· + 1)) = ignM ms := by
      cases ff (wtP ms (nI s) (ms.2.1 38 0)) 0 np with
      | none => rfl
      | some i =>
        show (if okR ms (i + 1) = true then _ else ignM ms) = ignM ms
        rw [if_neg (f_ne (by unfold okR; rw [hv]; cases decide (0 ≤ ms.2.1 38 1 ∧ ms.2.1 38 1 ≤ 2) <;> rfl))]
    refine ⟨_, ?_, by rw [hfin]; exact r2, r3.le (by omega) (by omega)⟩
    rw [if_pos rfl]
    by_cases hc : (ff (wtP ms (nI s) (ms.2.1 38 0)) 0 np).map (G 7) = none
    · rw [if_pos hc]; exact r1
    · rw [if_neg hc]; exact r1
  | true =>
    obtain ⟨m, hm, hl, hvb⟩ := vpB_nI hv
    have hof : f_X4_of σ (ms.2.1 38 2) (ms.2.1 38 3) = some (some (h_sz σ + 0), rpl (h_sz σ) (pSp (ms.2.1 38 2) (ms.2.1 38 3) 0 0) σ) := of_yes B (by omega) (by omega) hv 0 0
    have hp1 : hP (rpl (h_sz σ) (pSp (ms.2.1 38 2) (ms.2.1 38 3) 0 0) σ) (h_sz σ + 0) (ms.2.1 38 2) m := by rw [hl]; exact pxHP P hm hvb 0 0
    have K1 := pxK P (ms.2.1 38 2) (ms.2.1 38 3) 0 0
    have P1 := P.ext (Ext_rpl B (pSp (ms.2.1 38 2) (ms.2.1 38 3) 0 0))
    rw [hof, h_bd_s]
    cases hw : ff (wtP ms (nI s) (ms.2.1 38 0)) 0 np with
    | none =>
      obtain ⟨r1, r2, r3⟩ := ignore P1 K1
      exact ⟨_, by show (if none = none then _ else _) = _; rw [if_pos rfl]; exact r1, r2, r3.le (by omega) (by omega)⟩
    | some i =>
      obtain ⟨-, hi, hw2, -⟩ := ff_some.mp hw
      have hst0 : ms.2.1 31 (i + 1) = 0 := of_decide_eq_true ((Bool.and_eq_true _ _).mp hw2).1
      obtain ⟨k, hk8, hk34⟩ := hst i (by omega) hst0
      obtain ⟨t1, -, -, v2, -⟩ := pkt P1 hnp hnp2 (i := i) (by omega)
      show ∃ σ', (if some (G 7 i) = none then _ else _) = some ((), σ') ∧ Rep fx σ' x G (if okR ms (i + 1) = true then (if ms.2.1 38 1 = 0 then rfrM ms n (i + 1) else hitM ms n s (i + 1)) else ignM ms) ∧ _
      rw [show Option.map (G 7) (some i) = some (G 7 i) from rfl, if_neg (fun z => by cases z), if_neg (fun z => by cases z), gI_s t1, v2, h_b1_s, rcv_s hp1.1, h_b1_s, has_eq hp1, h_bd_s]
      obtain ⟨r1, r2, r3⟩ := ignore P1 K1
      have hok : okR ms (i + 1) = (ag m (ms.2.1 30 (i + 1)) (ms.2.1 38 2) && (decide (0 ≤ ms.2.1 38 1 ∧ ms.2.1 38 1 ≤ 2) && valB (ms.2.1 38 1) (ms.2.1 38 4))) := by
        unfold okR
        rw [hv, hl, ln_nI hm, ag_comm hm]
        cases decide (0 ≤ ms.2.1 38 1 ∧ ms.2.1 38 1 ≤ 2) <;> cases ag m (ms.2.1 30 (i + 1)) (ms.2.1 38 2) <;> rfl
      rw [hok]
      cases hag : ag m (ms.2.1 30 (i + 1)) (ms.2.1 38 2) with
      | false =>
        exact ⟨_, by rw [b2i_f, if_pos rfl]; exact r1, by rw [Bool.false_and, if_neg (by decide)]; exact r2, r3.le (by omega) (by omega)⟩
      | true =>
        rw [b2i_t, if_neg (by decide), c_val, h_bd_s, Bool.true_and]
        cases hval : (decide (0 ≤ ms.2.1 38 1 ∧ ms.2.1 38 1 ≤ 2) && valB (ms.2.1 38 1) (ms.2.1 38 4)) with
        | false =>
          exact ⟨_, by rw [b2i_f, if_pos rfl]; exact r1, by rw [if_neg (by decide)]; exact r2, r3.le (by omega) (by omega)⟩
        | true =>
          rw [b2i_t, if_neg (by decide), if_pos rfl]
          by_cases h0 : ms.2.1 38 1 = 0
          · rw [if_pos h0, if_pos h0, rcv_s P1.2.1.1, h_b1_s]
            obtain ⟨σ', g1, g2, g3⟩ := a_refer P1 hn hn2 hnp hnp2 (i := i) (by omega) hk8 hk34
            exact ⟨σ', by rw [g1, h_bd_s], g2, (K1.tr g3.q).le (by omega) (by omega)⟩
          · rw [if_neg h0, if_neg h0]
            unfold hitM
            by_cases h2 : ms.2.1 38 1 = 2
            · obtain ⟨τ, σ', g1, g2, g3, g4⟩ := a_hit P H hk hz hsl ht ht2 hs hps O hL hn hn2 hnp hnp2 (i := i) (by omega) hm hl hvb (pl := -1) (v' := 0) (Or.inr ⟨hfx, rfl⟩)
              exact ⟨σ', by rw [g1, h_bd_s, if_pos h2, g2], by rw [if_pos h2]; exact g3, g4⟩
            · obtain ⟨τ, σ', g1, g2, g3, g4⟩ := a_hit P H hk hz hsl ht ht2 hs hps O hL hn hn2 hnp hnp2 (i := i) (by omega) hm hl hvb (pl := ms.2.1 38 4) (v' := ms.2.1 38 5) (Or.inl rfl)
              exact ⟨σ', by rw [g1, h_bd_s, if_neg h2, g2], by rw [if_neg h2]; exact g3, g4⟩
end RPL
