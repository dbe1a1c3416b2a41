/-! from 89.posts -/
section
/-! POSTS with all six numbers: REPLY, REGISTER -/
section PST
variable {fx : Bool} {σ : HS} {x : Nat} {G : Nat → Nat → Nat} {ms : MS}
theorem hP_13 (F : Fx σ x) {p m : Nat} {b : Int32} (h : hP σ p b m) {k : Nat} {v : Int32} : hP (h_setI σ (x + 13) k v) p b m := h.to (Sm_I (fun z => by have := h.1; rw [z, F.d100] at this; omega))
theorem a_postReply (P : Rep fx σ x G ms) {n p m : Nat} {b : Int32} (hn : ms.1 36 = nI n) (h : n ≤ 200) (hp : hP σ p b m) (s no so va ve : Int32) : ∃ σ', f_X9_postReply σ (some x) s no so (some p) va ve = some ((), σ') ∧ Rep fx σ' x G (postM ms n (mG no so b (nI m) va ve 2 s)) ∧ Kp x 0 0 σ σ' := by
  have F := P.2.1
  have wf : ∀ {τ : HS} {k : Nat} {v : Int32}, Fx τ x → Fx (h_setI τ (x + 13) k v) x := fun {τ k v} F => (WI_I (L := [x + 13]) (by simp) : WI [x + 13] τ _).fx F
  have q0 := d_s (v := no) F (i := 0) (by omega)
  have F1 : Fx (h_setI σ (x + 13) 0 no) x := wf F
  have p1 := hP_13 F (k := 0) (v := no) hp
  have q1 := d_s (v := so) F1 (i := 1) (by omega)
  have F2 : Fx (h_setI (h_setI σ (x + 13) 0 no) (x + 13) 1 so) x := wf F1
  have p2 := hP_13 F1 (k := 1) (v := so) p1
  have q2 := d_s (v := b) F2 (i := 2) (by omega)
  have F3 : Fx (h_setI (h_setI (h_setI σ (x + 13) 0 no) (x + 13) 1 so) (x + 13) 2 b) x := wf F2
  have p3 := hP_13 F2 (k := 2) (v := b) p2
  have q3 := d_s (v := nI m) F3 (i := 3) (by omega)
  have F4 : Fx (h_setI (h_setI (h_setI (h_setI σ (x + 13) 0 no) (x + 13) 1 so) (x + 13) 2 b) (x + 13) 3 (nI m)) x := wf F3
  have q4 := d_s (v := va) F4 (i := 4) (by omega)
  have F5 : Fx (h_setI (h_setI (h_setI (h_setI (h_setI σ (x + 13) 0 no) (x + 13) 1 so) (x + 13) 2 b) (x + 13) 3 (nI m)) (x + 13) 4 va) x := wf F4
  have q5 := d_s (v := ve) F5 (i := 5) (by omega)
  obtain ⟨W, hv⟩ := d6 (σ := σ) (x := x) (a := no) (b := so) (c := b) (d := nI m) (e := va) (f := ve)
  obtain ⟨v0, v1, v2, v3, v4, v5⟩ := hv _ rfl
  have F6 := W.fx F
  obtain ⟨σ', r1, r2, r3⟩ := c_draft F P.2.2.2.1 hn h W v0 v1 v2 v3 v4 v5 (kd := 2) (to := s)
  refine ⟨σ', ?_, Rep_post P r2 r3, Kp_post P r2⟩
  unfold f_X9_postReply
  rw [q0.1, h_b1_s, (show h_sI σ (some (x + 13)) 100 0 no = _ from q0.2), h_b1_s, q1.1, h_b1_s, (show h_sI _ (some (x + 13)) 100 1 so = _ from q1.2), h_b1_s, q2.1, h_b1_s, gI_s p2.1, p2.2.1, h_b1_s, (show h_sI _ (some (x + 13)) 100 2 b = _ from q2.2), h_b1_s, q3.1, h_b1_s, gI_s p3.1, p3.2.2.1, h_b1_s, (show h_sI _ (some (x + 13)) 100 3 (nI m) = _ from q3.2), h_b1_s, q4.1, h_b1_s, (show h_sI _ (some (x + 13)) 100 4 va = _ from q4.2), h_b1_s, q5.1, h_b1_s, (show h_sI _ (some (x + 13)) 100 5 ve = _ from q5.2), h_b1_s, gR_s F6.1, F6.rRow, h_b1_s, gR_s F6.1, F6.rDraft, h_b1_s, rcv_s F6.rw6, h_b1_s, r1, h_bd_s]
theorem c_tag {p m : Nat} {b : Int32} (hp : hP σ p b m) (s pl no : Int32) : f_X9_tag σ s (some p) pl no = some (tagF s b (nI m) pl no, σ) := by
  have e : ∀ h v, f_X9_mix σ h v = some (mix h v, σ) := fun _ _ => rfl
  unfold f_X9_tag tagF
  rw [e, h_bd_s, gI_s hp.1, hp.2.1, h_b1_s, e, h_bd_s, gI_s hp.1, hp.2.2.1, h_b1_s, e, h_bd_s, e, h_bd_s, e, h_bd_s]
theorem a_postRegister (P : Rep fx σ x G ms) {n p m : Nat} {b : Int32} (hn : ms.1 36 = nI n) (h : n ≤ 200) (hp : hP σ p b m) (sv s pl no : Int32) : ∃ σ', f_X9_postRegister σ (some x) sv s (some p) pl no = some ((), σ') ∧ Rep fx σ' x G (postM ms n (mG s b (nI m) pl no (tagF s b (nI m) pl no) 0 sv)) ∧ Kp x 0 0 σ σ' := by
  have ht := fun {τ : HS} (hp : hP τ p b m) => c_tag hp s pl no
  generalize tagF s b (nI m) pl no = tg at ht ⊢
  have F := P.2.1
  have wf : ∀ {τ : HS} {k : Nat} {v : Int32}, Fx τ x → Fx (h_setI τ (x + 13) k v) x := fun {τ k v} F => (WI_I (L := [x + 13]) (by simp) : WI [x + 13] τ _).fx F
  have q0 := d_s (v := s) F (i := 0) (by omega)
  have F1 : Fx (h_setI σ (x + 13) 0 s) x := wf F
  have p1 := hP_13 F (k := 0) (v := s) hp
  have q1 := d_s (v := b) F1 (i := 1) (by omega)
  have F2 : Fx (h_setI (h_setI σ (x + 13) 0 s) (x + 13) 1 b) x := wf F1
  have p2 := hP_13 F1 (k := 1) (v := b) p1
  have q2 := d_s (v := nI m) F2 (i := 2) (by omega)
  have F3 : Fx (h_setI (h_setI (h_setI σ (x + 13) 0 s) (x + 13) 1 b) (x + 13) 2 (nI m)) x := wf F2
  have p3 := hP_13 F2 (k := 2) (v := nI m) p2
  have q3 := d_s (v := pl) F3 (i := 3) (by omega)
  have F4 : Fx (h_setI (h_setI (h_setI (h_setI σ (x + 13) 0 s) (x + 13) 1 b) (x + 13) 2 (nI m)) (x + 13) 3 pl) x := wf F3
  have p4 := hP_13 F3 (k := 3) (v := pl) p3
  have q4 := d_s (v := no) F4 (i := 4) (by omega)
  have F5 : Fx (h_setI (h_setI (h_setI (h_setI (h_setI σ (x + 13) 0 s) (x + 13) 1 b) (x + 13) 2 (nI m)) (x + 13) 3 pl) (x + 13) 4 no) x := wf F4
  have p5 := hP_13 F4 (k := 4) (v := no) p4
  have q5 := d_s (v := tg) F5 (i := 5) (by omega)
  obtain ⟨W, hv⟩ := d6 (σ := σ) (x := x) (a := s) (b := b) (c := nI m) (d := pl) (e := no) (f := tg)
  obtain ⟨v0, v1, v2, v3, v4, v5⟩ := hv _ rfl
  have F6 := W.fx F
  obtain ⟨σ', r1, r2, r3⟩ := c_draft F P.2.2.2.1 hn h W v0 v1 v2 v3 v4 v5 (kd := 0) (to := sv)
  refine ⟨σ', ?_, Rep_post P r2 r3, Kp_post P r2⟩
  unfold f_X9_postRegister
  rw [q0.1, h_b1_s, (show h_sI σ (some (x + 13)) 100 0 s = _ from q0.2), h_b1_s, q1.1, h_b1_s, gI_s p1.1, p1.2.1, h_b1_s, (show h_sI _ (some (x + 13)) 100 1 b = _ from q1.2), h_b1_s, q2.1, h_b1_s, gI_s p2.1, p2.2.2.1, h_b1_s, (show h_sI _ (some (x + 13)) 100 2 (nI m) = _ from q2.2), h_b1_s, q3.1, h_b1_s, (show h_sI _ (some (x + 13)) 100 3 pl = _ from q3.2), h_b1_s, q4.1, h_b1_s, (show h_sI _ (some (x + 13)) 100 4 no = _ from q4.2), h_b1_s, q5.1, h_b1_s, ht p5, h_bd_s, (show h_sI _ (some (x + 13)) 100 5 tg = _ from q5.2), h_b1_s, gR_s F6.1, F6.rRow, h_b1_s, gR_s F6.1, F6.rDraft, h_b1_s, rcv_s F6.rw6, h_b1_s, r1, h_bd_s]
/-- what the hand holds -/
def Hd (fx : Bool) (σ : HS) (x : Nat) (ms : MS) : Prop := ∀ j, j < 8 → loose fx (ms.2.1 38 6) j ∨ h_iv σ (x + 12) j = ms.2.1 38 j
theorem Hd.at (H : Hd fx σ x ms) (F : Fx σ x) {j : Nat} (hj : j < 8) (h : ¬ loose fx (ms.2.1 38 6) j) : h_gR σ (some x) 10 5 = some (some (x + 12)) ∧ h_aI σ (some (x + 12)) 100 (nI j) = some (ms.2.1 38 j) := by
  refine ⟨by rw [gR_s F.1, F.rHand], ?_⟩
  rw [aI_s F.h100 F.hln hj (by decide), (H j hj).resolve_left h]
end PST
end
/-! from 90.request -/
section
/-! A REQUEST comes -/
section RQS
variable {fx : Bool} {σ : HS} {x : Nat} {G : Nat → Nat → Nat} {ms : MS}
theorem nloose {kd : Int32} {j : Nat} (h : ¬ kd = 3) : ¬ loose fx kd j := fun z => h z.2.1
theorem nloose3 {kd : Int32} {j : Nat} (h : j < 3 ∨ 5 < j) : ¬ loose fx kd j := fun z => by have := z.2.2; omega
theorem pxHP (P : Rep fx σ x G ms) {b : Int32} {n : Nat} (hn : n ≤ 32) (hv : vb n b = true) (c p : Int32) : hP (rpl (h_sz σ) (pSp b (nI n) c p) σ) (h_sz σ + 0) b n := ⟨rpl_tg P.n0 0 _, rpl_iv P.n0 0 0 _ (Or.inl (show 0 < 1 by decide)), rpl_iv P.n0 0 1 _ (Or.inl (show 0 < 1 by decide)), hn, hv⟩
theorem pxK (P : Rep fx σ x G ms) (b l c p : Int32) : Kq x 1 2 σ (rpl (h_sz σ) (pSp b l c p) σ) := Kq_rpl P _ (by exact Nat.le_refl 1) (by exact Nat.le_refl 2)
theorem a_request (P : Rep fx σ x G ms) (H : Hd fx σ x ms) (hk : ms.2.1 38 6 = 1) (Tt : Tr ms) (hL : ∀ k, k < 128 → Ln (ms.2.1 8 k)) (hz : h_sz σ + 1 ≤ h_cz σ) (hs : h_sl σ + 2 ≤ h_ck σ) {n i : Nat} (hn : ms.1 36 = nI n) (hn2 : n ≤ 200) (hi : i < 8) (hpr : pr ms i) (U : UE ms i) (hcr : ∀ ep, chiF ms i ep = none → crowd ms i ep 32 (bestE ms ep i) = false) :
    ∃ σ', f_X9_takeRequest σ (some x) (some (G 0 i)) = some ((), σ') ∧ Rep fx σ' x G (reqM ms n i) ∧ Kq x 1 2 σ σ' := by
  have F := P.2.1
  have S := P.2.2.2.2.2.2.1
  have h3 : ¬ ms.2.1 38 6 = 3 := by rw [hk]; decide
  obtain ⟨e5, a0⟩ := H.at F (j := 0) (by omega) (nloose h3)
  obtain ⟨-, a1⟩ := H.at F (j := 1) (by omega) (nloose h3)
  obtain ⟨-, a2⟩ := H.at F (j := 2) (by omega) (nloose h3)
  have a0' : h_aI σ (some (x + 12)) 100 0 = some (ms.2.1 38 0) := a0
  have a1' : h_aI σ (some (x + 12)) 100 1 = some (ms.2.1 38 1) := a1
  have a2' : h_aI σ (some (x + 12)) 100 2 = some (ms.2.1 38 2) := a2
  have hat := c_siteAt F P.2.2.2.2.2.2.2 (ms.2.1 38 0)
  have e0 : h_gR σ (some x) 10 0 = some (some (x + 1)) := by rw [gR_s F.1, F.2.1.1]
  have pre : ∀ {y}, (h_bd (f_X9_siteAt σ (some x) (ms.2.1 38 0)) fun r14 s15 => if r14 = none then some ((), s15) else h_b1 (h_gR s15 (some (G 0 i)) 7 2) fun x20 => h_b1 (h_rcv s15 x20 5) fun _ => h_bd (f_X4_has s15 x20 (ms.2.1 38 2)) fun r22 s23 => if r22 = 0 then some ((), s23) else h_b1 (h_gR s23 (some x) 10 0) fun x28 => h_b1 (h_rcv s23 x28 9) fun _ => h_bd (f_X8_childWith s23 x28 (some (G 0 i)) (ms.2.1 38 2)) fun r30 s31 => if r30 = none then h_b1 (h_gI s31 (some x) 10 9) fun x36 => h_b1 (h_rcv s31 (some (G 0 i)) 7) fun _ => h_bd (f_X6_best s31 (some (G 0 i)) (ms.2.1 38 2) x36) fun r38 s39 => h_b1 (h_gR s39 (some x) 10 0) fun x43 => h_b1 (h_gI s39 (some x) 10 9) fun x45 => h_b1 (h_rcv s39 x43 9) fun _ => h_bd (f_X8_piece s39 x43 (some (G 0 i)) r38 (ms.2.1 38 2) x45) fun r47 s48 => if r38 = none then h_b1 (h_rcv s48 (some x) 10) fun _ => h_bd (f_X9_postReply s48 (some x) (ms.2.1 38 0) (ms.2.1 38 1) 2 r47 0 0) fun _ s54 => some ((), s54) else h_b1 (h_gI s48 r38 1 2) fun x58 => h_b1 (h_gI s48 r38 1 3) fun x60 => h_b1 (h_rcv s48 (some x) 10) fun _ => h_bd (f_X9_postReply s48 (some x) (ms.2.1 38 0) (ms.2.1 38 1) 1 r47 x58 x60) fun _ s63 => some ((), s63) else h_b1 (h_gR s31 r30 7 2) fun x67 => h_b1 (h_gI s31 r30 7 0) fun x69 => h_b1 (h_rcv s31 (some x) 10) fun _ => h_bd (f_X9_postReply s31 (some x) (ms.2.1 38 0) (ms.2.1 38 1) 0 x67 x69 0) fun _ s72 => some ((), s72)) = y → f_X9_takeRequest σ (some x) (some (G 0 i)) = y := by
    intro y hy
    unfold f_X9_takeRequest
    rw [e5, h_b1_s, a0', h_b1_s, h_b1_s, a1', h_b1_s, h_b1_s, a2', h_b1_s, if_neg (fun z => by cases z), rcv_s F.1, h_b1_s]
    exact hy
  unfold reqM
  cases hsB : siteB ms (ms.2.1 38 0) with
  | false =>
    rw [hsB, if_neg (by decide)] at hat
    refine ⟨σ, pre (by rw [hat, h_bd_s, if_pos rfl]), ?_, Kq.rf.le (by omega) (by omega)⟩
    rw [Bool.false_and, if_neg (by decide)]
    exact P
  | true =>
    rw [hsB, if_pos rfl] at hat
    obtain ⟨-, q, hq, hPq⟩ := c_sv S F hi hpr
    have hag : ag (ln (ms.2.1 5 i)) (ms.2.1 4 i) (ms.2.1 38 2) = ag (pL ms i) (ms.2.1 38 2) (pB ms i) := ag_comm hPq.2.2.2.1
    rw [Bool.true_and, hag]
    cases hga : ag (pL ms i) (ms.2.1 38 2) (pB ms i) with
    | false =>
      refine ⟨σ, pre (by rw [hat, h_bd_s, if_neg (fun z => by cases z), hq, h_b1_s, rcv_s hPq.1, h_b1_s, has_eq hPq, h_bd_s, hga, if_pos (by rfl)]), ?_, Kq.rf.le (by omega) (by omega)⟩
      rw [if_neg (by decide)]
      exact P
    | true =>
      rw [if_pos rfl]
      have hch := c_childWith F S Tt hi hpr (ms.2.1 38 2)
      cases hcf : chiF ms i (ms.2.1 38 2) with
      | some c =>
        rw [hcf] at hch
        have hch' : f_X8_childWith σ (some (x + 1)) (some (G 0 i)) (ms.2.1 38 2) = some (some (G 0 c), σ) := hch
        obtain ⟨-, c2, c3, -⟩ := ff_some.mp hcf
        have hc6 := of_decide_eq_true ((Bool.and_eq_true _ _).mp c3).1
        have hprc : pr ms c := ch_pr Tt (by omega) hi hc6
        obtain ⟨-, q', hq', hPq'⟩ := c_sv S F (c := c) (by omega) hprc
        obtain ⟨-, Ic⟩ := (S.2.2 c (by omega)).2 hprc
        obtain ⟨σ', r1, r2, r3⟩ := a_postReply P hn hn2 hPq' (ms.2.1 38 0) (ms.2.1 38 1) 0 (nI c) 0
        refine ⟨σ', pre ?_, ?_, r3.q.le (by omega) (by omega)⟩
        · rw [hat, h_bd_s, if_neg (fun z => by cases z), hq, h_b1_s, rcv_s hPq.1, h_b1_s, has_eq hPq, h_bd_s, hga, if_neg (by decide), e0, h_b1_s, rcv_s F.2.2.1.1, h_b1_s, hch', h_bd_s, if_neg (fun z => by cases z), hq', h_b1_s, gI_s Ic.1, Ic.2.1, h_b1_s, rcv_s F.1, h_b1_s, r1, h_bd_s]
        · have e5' : ms.2.1 5 c = nI (pL ms c) := (Ln_nI (Tt.2.1 c (by omega))).1
          show Rep fx σ' x G (postM ms n (mG (ms.2.1 38 1) 0 (ms.2.1 4 c) (ms.2.1 5 c) (nI c) 0 2 (ms.2.1 38 0)))
          rw [e5']
          exact r2
      | none =>
        rw [hcf] at hch
        have hch' : f_X8_childWith σ (some (x + 1)) (some (G 0 i)) (ms.2.1 38 2) = some (none, σ) := hch
        obtain ⟨-, I⟩ := (S.2.2 i hi).2 hpr
        obtain ⟨r, hb, hr⟩ := c_best hi I U hL (ms.2.1 38 2)
        have hcr' := hcr (ms.2.1 38 2) hcf
        have t9 : h_gI σ (some x) 10 9 = some (ms.1 1) := by rw [gI_s F.1, P.2.2.1.2.1]
        have head : ∀ {y}, (h_bd (f_X8_piece σ (some (x + 1)) (some (G 0 i)) r (ms.2.1 38 2) (ms.1 1)) fun r47 s48 => if r = none then h_b1 (h_rcv s48 (some x) 10) fun _ => h_bd (f_X9_postReply s48 (some x) (ms.2.1 38 0) (ms.2.1 38 1) 2 r47 0 0) fun _ s54 => some ((), s54) else h_b1 (h_gI s48 r 1 2) fun x58 => h_b1 (h_gI s48 r 1 3) fun x60 => h_b1 (h_rcv s48 (some x) 10) fun _ => h_bd (f_X9_postReply s48 (some x) (ms.2.1 38 0) (ms.2.1 38 1) 1 r47 x58 x60) fun _ s63 => some ((), s63)) = y → f_X9_takeRequest σ (some x) (some (G 0 i)) = y := by
          intro y hy
          refine pre ?_
          rw [hat, h_bd_s, if_neg (fun z => by cases z), hq, h_b1_s, rcv_s hPq.1, h_b1_s, has_eq hPq, h_bd_s, hga, if_neg (by decide), e0, h_b1_s, rcv_s F.2.2.1.1, h_b1_s, hch', h_bd_s, if_pos rfl, t9, h_b1_s, rcv_s I.1, h_b1_s, hb, h_bd_s, e0, h_b1_s, t9, h_b1_s, rcv_s F.2.2.1.1, h_b1_s]
          exact hy
        have hpie : pieL ms i (ms.2.1 38 2) = ff (fun n => !crowd ms i (ms.2.1 38 2) n (bestE ms (ms.2.1 38 2) i)) (match bestE ms (ms.2.1 38 2) i with | none => ln (ms.2.1 5 i) | some k => ln (ms.2.1 8 k)) (33 - (match bestE ms (ms.2.1 38 2) i with | none => ln (ms.2.1 5 i) | some k => ln (ms.2.1 8 k))) := rfl
        show ∃ σ', _ ∧ Rep fx σ' x G (match pieL ms i (ms.2.1 38 2) with | some L => repM ms n i L | none => ms) ∧ _
        cases hbe : bestE ms (ms.2.1 38 2) i with
        | none =>
          rw [hbe] at hr hpie hcr'
          have hr0 : r = none := hr
          obtain ⟨L, L1, L2, L3⟩ := c_pie P Tt hi hpr U hL hz hs (ms.2.1 38 2) hr (32 - pL ms i) h_hN (pL ms i) (by have := hPq.2.2.2.1; omega) (h_hN_lt (by omega)) hcr'
          have hpie' : pieL ms i (ms.2.1 38 2) = some L := hpie.trans L2
          rw [hpie']
          have P1 := P.ext (Ext_rpl P.n0 (pSp (ms.2.1 38 2 &&& mk L) (nI L) 0 0))
          have hp1 := pxHP P (b := ms.2.1 38 2 &&& mk L) L1 (vb_cut L1 _) 0 0
          have K1 := pxK P (ms.2.1 38 2 &&& mk L) (nI L) 0 0
          have hpc : f_X8_piece σ (some (x + 1)) (some (G 0 i)) r (ms.2.1 38 2) (ms.1 1) = some (some (h_sz σ + 0), rpl (h_sz σ) (pSp (ms.2.1 38 2 &&& mk L) (nI L) 0 0) σ) := by
            unfold f_X8_piece
            rw [if_pos hr0, hq, h_b1_s, gI_s hPq.1, hPq.2.2.1, h_b1_s, L3]
          generalize rpl (h_sz σ) (pSp (ms.2.1 38 2 &&& mk L) (nI L) 0 0) σ = τ at P1 hp1 K1 hpc
          obtain ⟨σ', r1, r2, r3⟩ := a_postReply P1 hn hn2 hp1 (ms.2.1 38 0) (ms.2.1 38 1) 2 0 0
          refine ⟨σ', head ?_, ?_, K1.tr r3.q⟩
          · rw [hpc, h_bd_s, if_pos hr0, rcv_s P1.2.1.1, h_b1_s, r1, h_bd_s]
          · show Rep fx σ' x G (repM ms n i L)
            unfold repM
            rw [hbe]
            exact r2
        | some k =>
          rw [hbe] at hr hpie hcr'
          obtain ⟨g1, g2, j, a, g3, g4, g5⟩ := id hr
          obtain ⟨ta, pa, ba, na, w1, w2, w3, w4, -⟩ := ent_px I g4
          have e8 : ms.2.1 8 k = nI na := by rw [← w4, g5]; rfl
          obtain ⟨L, L1, L2, L3⟩ := c_pie P Tt hi hpr U hL hz hs (ms.2.1 38 2) hr (32 - na) h_hN na (by have := w2.2.2.2.1; omega) (h_hN_lt (by omega)) hcr'
          have hpie' : pieL ms i (ms.2.1 38 2) = some L := by
            refine hpie.trans ?_
            show ff _ (ln (ms.2.1 8 k)) (33 - ln (ms.2.1 8 k)) = some L
            rw [e8, ln_nI w2.2.2.2.1]
            exact L2
          rw [hpie']
          have P1 := P.ext (Ext_rpl P.n0 (pSp (ms.2.1 38 2 &&& mk L) (nI L) 0 0))
          have hp1 := pxHP P (b := ms.2.1 38 2 &&& mk L) L1 (vb_cut L1 _) 0 0
          have K1 := pxK P (ms.2.1 38 2 &&& mk L) (nI L) 0 0
          have sa := rpl_lo P.n0 (a := a) (P.lt (by rw [ta]; decide)) (pSp (ms.2.1 38 2 &&& mk L) (nI L) 0 0)
          have hpc : f_X8_piece σ (some (x + 1)) (some (G 0 i)) r (ms.2.1 38 2) (ms.1 1) = some (some (h_sz σ + 0), rpl (h_sz σ) (pSp (ms.2.1 38 2 &&& mk L) (nI L) 0 0) σ) := by
            unfold f_X8_piece
            rw [if_neg (by rw [g3]; exact fun z => by cases z)]
            have : h_gR σ r 1 0 = some (some pa) := by rw [g3]; exact w1
            rw [this, h_b1_s, gI_s w2.1, w2.2.2.1, h_b1_s, L3]
          generalize rpl (h_sz σ) (pSp (ms.2.1 38 2 &&& mk L) (nI L) 0 0) σ = τ at P1 hp1 K1 hpc sa
          obtain ⟨σ', r1, r2, r3⟩ := a_postReply P1 hn hn2 hp1 (ms.2.1 38 0) (ms.2.1 38 1) 1 (ms.2.1 10 k) (ms.2.1 11 k)
          refine ⟨σ', head ?_, ?_, K1.tr r3.q⟩
          · have v2 : h_gI τ r 1 2 = some (ms.2.1 10 k) := by rw [g3, gI_s (by rw [sa.1]; exact ta), sa.2.2.1]; exact congrArg (fun q : E6 => some q.2.2.2.1) g5
            have v3 : h_gI τ r 1 3 = some (ms.2.1 11 k) := by rw [g3, gI_s (by rw [sa.1]; exact ta), sa.2.2.1]; exact congrArg (fun q : E6 => some q.2.2.2.2.1) g5
            rw [hpc, h_bd_s, if_neg (by rw [g3]; exact fun z => by cases z), v2, h_b1_s, v3, h_b1_s, rcv_s P1.2.1.1, h_b1_s, r1, h_bd_s]
          · show Rep fx σ' x G (repM ms n i L)
            unfold repM
            rw [hbe]
            exact r2
end RQS
end
/-! from 91.register -/
section
/-! A REGISTER comes: where its entry goes -/
section RGT
variable {fx : Bool} {σ σ' : HS} {x : Nat} {G : Nat → Nat → Nat} {ms ms' : MS}
theorem c_slot {i p n : Nat} {b : Int32} (I : SvR σ G ms i) (hp : hP σ p b n) : ∃ r, f_X6_slotFor σ (some (G 0 i)) (some p) (ms.1 1) = some (r, σ) ∧ ((∃ j a, at_ σ (G 1 i) (ms.1 1) j a ∧ ((eV σ a).1 = b ∧ (eV σ a).2.1 = nI n) ∧ r = nI j) ∨ ((∀ j a, at_ σ (G 1 i) (ms.1 1) j a → ¬ ((eV σ a).1 = b ∧ (eV σ a).2.1 = nI n)) ∧ ((r = -1 ∧ ∀ j, j < 16 → ∃ a, at_ σ (G 1 i) (ms.1 1) j a) ∨ ∃ j, j < 16 ∧ r = nI j ∧ ∀ a, ¬ at_ σ (G 1 i) (ms.1 1) j a))) := by
  have key : ∀ (c m j : Nat) (fr : Int32), j + c = 16 → c < m → (∀ j' a, j' < j → at_ σ (G 1 i) (ms.1 1) j' a → ¬ ((eV σ a).1 = b ∧ (eV σ a).2.1 = nI n)) → ((fr = -1 ∧ ∀ j', j' < j → ∃ a, at_ σ (G 1 i) (ms.1 1) j' a) ∨ ∃ j', j' < 16 ∧ fr = nI j' ∧ ∀ a, ¬ at_ σ (G 1 i) (ms.1 1) j' a) → ∃ r, g_X6_slotFor_5 m σ (some (G 0 i)) (some p) (ms.1 1) fr (nI j) = some (r, σ) ∧ ((∃ j a, at_ σ (G 1 i) (ms.1 1) j a ∧ ((eV σ a).1 = b ∧ (eV σ a).2.1 = nI n) ∧ r = nI j) ∨ ((∀ j a, at_ σ (G 1 i) (ms.1 1) j a → ¬ ((eV σ a).1 = b ∧ (eV σ a).2.1 = nI n)) ∧ ((r = -1 ∧ ∀ j, j < 16 → ∃ a, at_ σ (G 1 i) (ms.1 1) j a) ∨ ∃ j, j < 16 ∧ r = nI j ∧ ∀ a, ¬ at_ σ (G 1 i) (ms.1 1) j a))) := by
    intro c
    induction c with
    | zero =>
      intro m j fr hj hm h1 h2
      obtain ⟨m', rfl⟩ : ∃ m', m = m' + 1 := ⟨m - 1, by omega⟩
      have : j = 16 := by omega
      subst this
      exact ⟨fr, by rw [g_X6_slotFor_5, if_pos (show (16 : Int32) ≤ nI 16 by decide)], Or.inr ⟨fun j a h => h1 j a h.1 h, h2⟩⟩
    | succ c ih =>
      intro m j fr hj hm h1 h2
      obtain ⟨m', rfl⟩ : ∃ m', m = m' + 1 := ⟨m - 1, by omega⟩
      have hlt : ¬ (16 : Int32) ≤ nI j := fun z => absurd (nI_lt (a := j) (b := 16) (by omega) (by decide)) (Int32.not_lt.mpr z)
      rcases live_at I (show j < 16 by omega) (ms.1 1) with ⟨l1, l2⟩ | ⟨l1, a, l2⟩
      · obtain ⟨r, r1, r2⟩ := ih m' (j + 1) (nI j) (by omega) (by omega) (fun j' a g1 g2 => by
          by_cases e : j' = j
          · rw [e] at g2; exact absurd g2 (l2 a)
          · exact h1 j' a (by omega) g2) (Or.inr ⟨j, by omega, rfl, l2⟩)
        exact ⟨r, by rw [g_X6_slotFor_5, if_neg hlt, rcv_s I.1, h_b1_s, l1, h_bd_s, if_pos rfl, nI_c1, r1], r2⟩
      · obtain ⟨t1, p', b', n', q1, q2, q3, q4, q5, q6⟩ := ent_px I l2
        have uq : ∀ a', at_ σ (G 1 i) (ms.1 1) j a' → a' = a := fun a' z => Option.some.inj (z.2.1.symm.trans l2.2.1)
        have hsame := same_eq q2 hp
        cases hc : (decide (b' = b) && decide (n' = n)) with
        | false =>
          rw [hc] at hsame
          have hno : ¬ ((eV σ a).1 = b ∧ (eV σ a).2.1 = nI n) := fun z => by
            rw [q3, q4] at z
            have en : n' = n := (nI_eq (by have := q2.2.2.2.1; omega) (by have := hp.2.2.2.1; omega)).mp z.2
            rw [decide_eq_true z.1, decide_eq_true en] at hc
            cases hc
          obtain ⟨r, r1, r2⟩ := ih m' (j + 1) fr (by omega) (by omega) (fun j' a' g1 g2 => by
            by_cases e : j' = j
            · rw [e] at g2; rw [uq a' g2]; exact hno
            · exact h1 j' a' (by omega) g2) (by
              rcases h2 with ⟨g1, g2⟩ | g
              · refine Or.inl ⟨g1, fun j' hj' => ?_⟩
                by_cases e : j' = j
                · rw [e]; exact ⟨a, l2⟩
                · exact g2 j' (by omega)
              · exact Or.inr g)
          exact ⟨r, by rw [g_X6_slotFor_5, if_neg hlt, rcv_s I.1, h_b1_s, l1, h_bd_s, if_neg (by decide), q5, h_b1_s, q6, h_b1_s, q1, h_b1_s, rcv_s q2.1, h_b1_s, hsame, h_bd_s, if_pos (by rfl), nI_c1, r1], r2⟩
        | true =>
          rw [hc] at hsame
          obtain ⟨g1, g2⟩ := (Bool.and_eq_true _ _).mp hc
          refine ⟨nI j, by rw [g_X6_slotFor_5, if_neg hlt, rcv_s I.1, h_b1_s, l1, h_bd_s, if_neg (by decide), q5, h_b1_s, q6, h_b1_s, q1, h_b1_s, rcv_s q2.1, h_b1_s, hsame, h_bd_s, if_neg (by decide)], Or.inl ⟨j, a, l2, ⟨by rw [q3]; exact of_decide_eq_true g1, by rw [q4, of_decide_eq_true g2]⟩, rfl⟩⟩
  exact key 16 h_hN 0 (-1) rfl (h_hN_lt (by decide)) (fun j' a h _ => absurd h (Nat.not_lt_zero _)) (Or.inl ⟨rfl, fun j' h => absurd h (Nat.not_lt_zero _)⟩)
/-- the nonce is above all those that were taken -/
theorem c_fresh {i s : Nat} (hs : s < 8) (I : SvR σ G ms i) (no : Int32) : f_X6_isFresh σ (some (G 0 i)) (nI s) no = some (b2i (decide (ms.2.2 (8 * i + s) < no.toInt64)), σ) := by
  obtain ⟨a1, -, -, -, -, ⟨a9, b1, b2⟩, b3, -⟩ := I
  have e1 : h_aL σ (some (G 2 i)) 101 (nI s) = some (h_lv σ (G 2 i) s) := aL_s b1 b2 hs (by decide)
  unfold f_X6_isFresh
  rw [if_neg (nI_pos (by omega)), if_neg (show ¬ (8 : Int32) ≤ nI s from fun z => absurd (nI_lt (a := s) (b := 8) hs (by decide)) (Int32.not_lt.mpr z)), gR_s a1, a9, h_b1_s, e1, h_b1_s]
  have hb := Int32.le_toInt no
  have hb2 := Int32.toInt_lt no
  have hcmp : ∀ y : Int64, (lg_cmp no.toInt64 y ≤ 0) ↔ ¬ y < no.toInt64 := by
    intro y
    unfold lg_cmp
    by_cases h : y < no.toInt64
    · rw [if_pos (show no.toInt64 > y from h)]
      exact ⟨fun z => absurd z (by decide), fun z => absurd h z⟩
    · rw [if_neg (show ¬ no.toInt64 > y from h)]
      refine ⟨fun _ => h, fun _ => ?_⟩
      split <;> decide
  have iff2 : h_lv σ (G 2 i) s < no.toInt64 ↔ ms.2.2 (8 * i + s) < no.toInt64 := by
    rcases b3 s hs with ⟨h1, h2⟩ | ⟨h1, -⟩
    · rw [h1, h2, Int64.lt_iff_toInt_lt, Int64.lt_iff_toInt_lt, Int32.toInt_toInt64]
      rw [show (-9223372036854775808 : Int64).toInt = -9223372036854775808 by decide, show (-3000000000 : Int64).toInt = -3000000000 by decide]
      constructor <;> intro _ <;> omega
    · rw [h1]
  by_cases h : ms.2.2 (8 * i + s) < no.toInt64
  · rw [if_neg (fun z => (hcmp _).mp z (iff2.mpr h)), decide_eq_true h]; rfl
  · rw [if_pos ((hcmp _).mpr (fun z => h (iff2.mp z))), decide_eq_false h]; rfl
/-- one server alone has changed -/
theorem Rep_srv (P : Rep fx σ x G ms) {i : Nat} (hi : i < 8) (hpr : pr ms i) (Z' : Zx σ' x) (hsm : ∀ b, b ≠ G 1 i → b ≠ G 2 i → Sm σ σ' b) (I' : SvR σ' G ms' i) (e1 : ∀ k, k ≠ 0 → ms'.1 k = ms.1 k) (e2 : ∀ k j, k < 7 ∨ 12 < k → ms'.2.1 k j = ms.2.1 k j) (en : ∀ t k j, t < 8 → t ≠ i → 7 ≤ k → k ≤ 12 → 16 * t ≤ j → j < 16 * t + 16 → ms'.2.1 k j = ms.2.1 k j) (e3 : ∀ t s, t < 8 → t ≠ i → s < 8 → ms'.2.2 (8 * t + s) = ms.2.2 (8 * t + s)) : Rep fx σ' x G ms' := by
  obtain ⟨Z, F, N, R, W, K, S, T⟩ := P
  obtain ⟨-, -, -, -, ⟨-, c7, -⟩, ⟨-, d1, -⟩, -⟩ := ((S.2.2 i hi).2 hpr).2
  have ht : ∀ b, h_tg σ b ≠ 103 → h_tg σ b ≠ 101 → Sm σ σ' b := fun b g1 g2 => hsm b (fun z => g1 (by rw [z]; exact c7)) (fun z => g2 (by rw [z]; exact d1))
  obtain ⟨f0, f1, f2, f3, f4, f5, f6, f7, f8, f9, f10, f11⟩ := id F
  have x0 : Sm σ σ' x := ht _ (by rw [f0]; decide) (by rw [f0]; decide)
  have x1 : Sm σ σ' (x + 1) := ht _ (by rw [f2.1]; decide) (by rw [f2.1]; decide)
  have x2 : Sm σ σ' (x + 2) := ht _ (by rw [f3.1]; decide) (by rw [f3.1]; decide)
  have x7 : Sm σ σ' (x + 7) := ht _ (by rw [f4.1]; decide) (by rw [f4.1]; decide)
  have x8 : Sm σ σ' (x + 8) := ht _ (by rw [f5.1]; decide) (by rw [f5.1]; decide)
  have x9 : Sm σ σ' (x + 9) := ht _ (by rw [f6.1]; decide) (by rw [f6.1]; decide)
  have x10 : Sm σ σ' (x + 10) := ht _ (by rw [f7.1]; decide) (by rw [f7.1]; decide)
  have x11 : Sm σ σ' (x + 11) := ht _ (by rw [f8.1]; decide) (by rw [f8.1]; decide)
  have x12 : Sm σ σ' (x + 12) := ht _ (by rw [f9.1]; decide) (by rw [f9.1]; decide)
  have x13 : Sm σ σ' (x + 13) := ht _ (by rw [f10.1]; decide) (by rw [f10.1]; decide)
  have x14 : Sm σ σ' (x + 14) := ht _ (by rw [f11.1]; decide) (by rw [f11.1]; decide)
  have F' : Fx σ' x := by
    unfold Fx
    rw [x0.1, x0.2.2.2.1, x0.2.2.2.1, x0.2.2.2.1, x0.2.2.2.1, x0.2.2.2.1, x0.2.2.2.1, x0.2.2.2.1, x0.2.2.2.1, x1.1, x1.2.2.2.1, x2.1, x2.2.1, x7.1, x7.2.1, x8.1, x8.2.1, x9.1, x9.2.1, x10.1, x10.2.2.2.1, x11.1, x11.2.1, x12.1, x12.2.1, x13.1, x13.2.1, x14.1, x14.2.1]
    exact F
  have ep : ∀ t, pr ms' t ↔ pr ms t := fun t => by unfold pr; rw [e2 3 t (by omega)]
  refine ⟨Z', F', N.to x0 (e1 _ (by decide)) (e1 _ (by decide)) (e1 _ (by decide)) (e1 _ (by decide)) (e1 _ (by decide)) (e1 _ (by decide)), R.to x10 x11 (e1 _ (by decide)) (e1 _ (by decide)) (fun _ => e2 _ _ (by omega)), W.to x8 x9 (e1 _ (by decide)) (fun _ => e2 _ _ (by omega)) (fun _ => e2 _ _ (by omega)), K.to x14 (fun b hb => ht b (by rw [hb]; decide) (by rw [hb]; decide)) (e1 _ (by decide)) (fun k j h1 h2 => e2 _ _ (by omega)), ⟨fun t u ht hu p1 p2 h => S.1 t u ht hu ((ep t).mp p1) ((ep u).mp p2) h, fun t ht p => S.2.1 t ht ((ep t).mp p), fun t htt => ⟨fun h => ?_, fun h => ?_⟩⟩, T.to x7 (fun b hb => ?_) (e1 _ (by decide)) (fun k j h1 h2 => e2 _ _ (by omega))⟩
  · rw [x2.2.2.2.1]
    rw [e2 3 t (by omega)] at h
    exact (S.2.2 t htt).1 h
  · have hp := (ep t).mp h
    obtain ⟨r1, I⟩ := (S.2.2 t htt).2 hp
    refine ⟨by rw [x2.2.2.2.1]; exact r1, ?_⟩
    by_cases e : t = i
    · rw [e]; exact I'
    · have hsm' : ∀ b, b ≠ G 1 i → b ≠ G 2 i → Sm σ σ' b := hsm
      obtain ⟨a1, a2, a3, ⟨p, a4, a5⟩, ⟨a6, a7, a8⟩, ⟨a9, b1, b2⟩, b3, b4, b5⟩ := id I
      have n1 : G 1 t ≠ G 1 i := fun z => e (S.1 t i htt hi hp hpr (Or.inl z))
      have n2 : G 2 t ≠ G 2 i := fun z => e (S.1 t i htt hi hp hpr (Or.inr (Or.inl z)))
      have s0 := ht (G 0 t) (by rw [a1]; decide) (by rw [a1]; decide)
      have s1 := hsm (G 1 t) n1 (fun z => by rw [z, d1] at a7; omega)
      have s2 := hsm (G 2 t) (fun z => by rw [z, c7] at b1; omega) n2
      have h15 : ∀ b, h_tg σ b = 1 ∨ h_tg σ b = 5 → Sm σ σ' b := fun b hb => ht b (by omega) (by omega)
      have I1 : SvR σ' G ms t := by
        refine ⟨by rw [s0.1]; exact a1, by rw [s0.2.2.1]; exact a2, by rw [s0.2.2.1]; exact a3, ⟨p, by rw [s0.2.2.2.1]; exact a4, a5.to (h15 p (Or.inr a5.1))⟩, ⟨by rw [s0.2.2.2.1]; exact a6, by rw [s1.1]; exact a7, by rw [s1.2.1]; exact a8⟩, ⟨by rw [s0.2.2.2.1]; exact a9, by rw [s2.1]; exact b1, by rw [s2.2.1]; exact b2⟩, fun s hs => by rw [s2.2.2.2.2]; exact b3 s hs, fun j hj a ha => ?_, ?_⟩
        · rw [s1.2.2.2.1] at ha
          exact ((b4 j hj a ha).to h15).1
        · have ec : eL (ms.1 1) (eC σ' (G 1 t)) 0 16 = eL (ms.1 1) (eC σ (G 1 t)) 0 16 := by
            refine eL_congr 16 0 (fun j _ hj => ?_)
            unfold eC
            rw [s1.2.2.2.1]
            cases hr : h_rv σ (G 1 t) j with
            | none => rfl
            | some a => exact congrArg some ((b4 j (by omega) a hr).to h15).2
          rw [ec]
          exact b5
      exact I1.num (e1 _ (by decide)) (e2 _ _ (by omega)) (e2 _ _ (by omega)) (e2 _ _ (by omega)) (fun k j h1 h2 h3 h4 => en t k j htt e h1 h2 h3 h4) (fun s hs => e3 t s htt e hs)
  · rcases hb with h | h | h | h | h | h <;> exact ht b (by rw [h]; decide) (by rw [h]; decide)
end RGT
end
/-! from 92.register2 -/
section
/-! A REGISTER comes: its entry -/
def eN (b l s pl no e : Int32) : List Op := (2, 1, 4, 0, e) :: (2, 1, 3, 0, no) :: (2, 1, 2, 0, pl) :: (2, 1, 1, 0, s) :: (1, 1, 0, 0, 0) :: (0, 1, 0, 5, 0) :: pSp b l 0 0
section RG2
variable {fx : Bool} {σ σ' : HS} {x : Nat} {G : Nat → Nat → Nat} {ms ms' : MS}
theorem slot_rel {i n : Nat} {b r : Int32} (I : SvR σ G ms i) (U : UE ms i) (h : (∃ j a, at_ σ (G 1 i) (ms.1 1) j a ∧ ((eV σ a).1 = b ∧ (eV σ a).2.1 = nI n) ∧ r = nI j) ∨ ((∀ j a, at_ σ (G 1 i) (ms.1 1) j a → ¬ ((eV σ a).1 = b ∧ (eV σ a).2.1 = nI n)) ∧ ((r = -1 ∧ ∀ j, j < 16 → ∃ a, at_ σ (G 1 i) (ms.1 1) j a) ∨ ∃ j, j < 16 ∧ r = nI j ∧ ∀ a, ¬ at_ σ (G 1 i) (ms.1 1) j a))) :
    (∃ j a e, r = nI j ∧ at_ σ (G 1 i) (ms.1 1) j a ∧ entF ms i b (nI n) = some e ∧ e ∈ rIx ms i ∧ eMv ms e = eV σ a) ∨ (entF ms i b (nI n) = none ∧ ((r = -1 ∧ freF ms i = none) ∨ ∃ j e, r = nI j ∧ j < 16 ∧ (∀ a, ¬ at_ σ (G 1 i) (ms.1 1) j a) ∧ freF ms i = some e ∧ (16 * i ≤ e ∧ e < 16 * i + 16) ∧ e ∉ rIx ms i)) := by
  have hlen := I.pm.length_eq
  rw [List.length_map, List.length_map] at hlen
  rcases h with ⟨j, a, h1, h2, h3⟩ | ⟨h1, h2⟩
  · obtain ⟨k, k1, k2, k3⟩ := ent_to I h1
    cases hf : entF ms i b (nI n) with
    | none =>
      have := ff_none.mp hf k k1.1 k1.2
      rw [k2, decide_eq_true (show ms.2.1 7 k = b by rw [← h2.1, ← k3]; rfl), decide_eq_true (show ms.2.1 8 k = nI n by rw [← h2.2, ← k3]; rfl)] at this
      cases this
    | some e =>
      obtain ⟨g1, g2, g3, -⟩ := ff_some.mp hf
      obtain ⟨g4, g5⟩ := (Bool.and_eq_true _ _).mp g3
      obtain ⟨g6, g7⟩ := (Bool.and_eq_true _ _).mp g5
      have ek : k = e := U k e k1.1 k1.2 g1 g2 k2 g4 (by rw [of_decide_eq_true g6, ← h2.1, ← k3]; rfl) (by rw [of_decide_eq_true g7, ← h2.2, ← k3]; rfl)
      subst ek
      exact Or.inl ⟨j, a, k, h3, h1, rfl, rIx_mem.mpr ⟨k1, k2⟩, k3⟩
  · have hno : entF ms i b (nI n) = none := by
      cases hf : entF ms i b (nI n) with
      | none => rfl
      | some e =>
        obtain ⟨g1, g2, g3, -⟩ := ff_some.mp hf
        obtain ⟨g4, g5⟩ := (Bool.and_eq_true _ _).mp g3
        obtain ⟨g6, g7⟩ := (Bool.and_eq_true _ _).mp g5
        obtain ⟨j, a, q1, q2⟩ := ent_of I ⟨g1, g2⟩ g4
        exact absurd ⟨by rw [q2]; exact of_decide_eq_true g6, by rw [q2]; exact of_decide_eq_true g7⟩ (h1 j a q1)
    refine Or.inr ⟨hno, ?_⟩
    rcases h2 with ⟨h3, h4⟩ | ⟨j, h3, h4, h5⟩
    · refine Or.inl ⟨h3, ?_⟩
      cases hf : freF ms i with
      | none => rfl
      | some e =>
        obtain ⟨g1, g2, g3, -⟩ := ff_some.mp hf
        have hlt : (rIx ms i).length < (List.range' (16 * i) 16).length := List.length_filter_lt_length_iff_exists.mpr ⟨e, by rw [List.mem_range'_1]; exact ⟨g1, g2⟩, fun z => by rw [z] at g3; cases g3⟩
        have hall : cIx σ (G 1 i) (ms.1 1) = List.range' 0 16 := List.filter_eq_self.mpr (fun j hj => by
          rw [List.mem_range'_1] at hj
          exact (List.mem_filter.mp (cIx_mem.mpr (h4 j (by omega)))).2)
        rw [hall] at hlen
        rw [List.length_range'] at hlen hlt
        omega
    · refine Or.inr ?_
      have hlt : (cIx σ (G 1 i) (ms.1 1)).length < (List.range' 0 16).length := List.length_filter_lt_length_iff_exists.mpr ⟨j, by rw [List.mem_range'_1]; omega, fun z => by
        obtain ⟨a, ha⟩ := cIx_mem.mp (List.mem_filter.mpr ⟨by rw [List.mem_range'_1]; omega, z⟩)
        exact h5 a ha⟩
      cases hf : freF ms i with
      | none =>
        have hall : rIx ms i = List.range' (16 * i) 16 := List.filter_eq_self.mpr (fun k hk => by
          rw [List.mem_range'_1] at hk
          have := ff_none.mp hf k hk.1 hk.2
          cases hl : liveE ms k with
          | true => rfl
          | false => rw [hl] at this; cases this)
        rw [hall, List.length_range'] at hlen
        rw [List.length_range'] at hlt
        omega
      | some e =>
        obtain ⟨g1, g2, g3, -⟩ := ff_some.mp hf
        exact ⟨j, e, h4, h3, h5, rfl, ⟨g1, g2⟩, fun z => by rw [(rIx_mem.mp z).2] at g3; cases g3⟩
theorem c_room {i p n : Nat} {b : Int32} (I : SvR σ G ms i) (U : UE ms i) (hp : hP σ p b n) (s : Int32) : f_X6_hasRoom σ (some (G 0 i)) (some p) s (ms.1 1) = some (b2i (slotM ms i s b (nI n)).isSome, σ) := by
  obtain ⟨r, r1, r2⟩ := c_slot I hp
  unfold f_X6_hasRoom slotM
  rw [rcv_s I.1, h_b1_s, r1, h_bd_s]
  rcases slot_rel I U r2 with ⟨j, a, e, h1, h2, h3, h4, h5⟩ | ⟨h1, ⟨h2, h3⟩ | ⟨j, e, h2, h3, h4, h5, -⟩⟩
  · obtain ⟨t1, p', b', n', q1, q2, q3, q4, q5, q6⟩ := ent_px I h2
    rcases live_at I h2.1 (ms.1 1) with ⟨-, l2⟩ | ⟨l1, -⟩
    · exact absurd h2 (l2 a)
    · have hsite : h_gI σ (some a) 1 1 = some (ms.2.1 9 e) := by rw [gI_s t1]; exact congrArg (fun q : E6 => some q.2.2.1) h5.symm
      rw [h3, h1, if_neg (nI_pos (by have := h2.1; omega)), rcv_s I.1, h_b1_s, l1, h_bd_s, if_neg (by decide), q5, h_b1_s, q6, h_b1_s, hsite, h_b1_s]
      show (if ms.2.1 9 e = s then some (1, σ) else some (0, σ)) = some (b2i (if ms.2.1 9 e = s then some e else none).isSome, σ)
      by_cases hs : ms.2.1 9 e = s
      · rw [if_pos hs, if_pos hs]; rfl
      · rw [if_neg hs, if_neg hs]; rfl
  · rw [h1, h2, if_pos (by decide)]
    show _ = some (b2i (freF ms i).isSome, σ)
    rw [h3]; rfl
  · rcases live_at I h3 (ms.1 1) with ⟨l1, -⟩ | ⟨-, a, l2⟩
    · rw [h1, h2, if_neg (nI_pos (by omega)), rcv_s I.1, h_b1_s, l1, h_bd_s, if_pos rfl]
      show _ = some (b2i (freF ms i).isSome, σ)
      rw [h5]; rfl
    · exact absurd l2 (h4 a)
/-- the numbers of a new entry -/
def setM (ms : MS) (sv e : Nat) (s : Nat) (b l pl no : Int32) : MS := aS (aS (aS (aS (aS (aS (lS ms (8 * sv + s) no.toInt64) 7 e b) 8 e l) 9 e (nI s)) 10 e pl) 11 e no) 12 e (ms.1 1 + 180)
theorem setM_k {sv e s k j : Nat} {b l pl no : Int32} (h : j ≠ e ∨ k < 7 ∨ 12 < k) : (setM ms sv e s b l pl no).2.1 k j = ms.2.1 k j := by
  unfold setM
  rcases h with h | h
  · rw [aS_j h, aS_j h, aS_j h, aS_j h, aS_j h, aS_j h]; rfl
  · rw [aS_k (by omega), aS_k (by omega), aS_k (by omega), aS_k (by omega), aS_k (by omega), aS_k (by omega)]; rfl
theorem setM_e {sv e s : Nat} {b l pl no : Int32} : eMv (setM ms sv e s b l pl no) e = (b, l, nI s, pl, no, ms.1 1 + 180) := by
  unfold eMv setM
  rw [aS_k (show 7 ≠ 12 by decide), aS_k (show 7 ≠ 11 by decide), aS_k (show 7 ≠ 10 by decide), aS_k (show 7 ≠ 9 by decide), aS_k (show 7 ≠ 8 by decide), aS_s, aS_k (show 8 ≠ 12 by decide), aS_k (show 8 ≠ 11 by decide), aS_k (show 8 ≠ 10 by decide), aS_k (show 8 ≠ 9 by decide), aS_s, aS_k (show 9 ≠ 12 by decide), aS_k (show 9 ≠ 11 by decide), aS_k (show 9 ≠ 10 by decide), aS_s, aS_k (show 10 ≠ 12 by decide), aS_k (show 10 ≠ 11 by decide), aS_s, aS_k (show 11 ≠ 12 by decide), aS_s, aS_s]
theorem setM_L {sv e s j : Nat} {b l pl no : Int32} : (setM ms sv e s b l pl no).2.2 j = if j = 8 * sv + s then no.toInt64 else ms.2.2 j := rfl
theorem setM_live {sv e s k : Nat} {b l pl no : Int32} (hl : ms.1 1 < ms.1 1 + 180) : liveE (setM ms sv e s b l pl no) k = if k = e then true else liveE ms k := by
  by_cases h : k = e
  · rw [if_pos h, h]
    have : (setM ms sv e s b l pl no).2.1 12 e = ms.1 1 + 180 := congrArg (fun q : E6 => q.2.2.2.2.2) setM_e
    unfold liveE
    rw [this]
    exact decide_eq_true hl
  · rw [if_neg h]
    unfold liveE
    rw [setM_k (Or.inl h)]
    rfl
/-- an entry is kept -/
theorem a_keep (P : Rep fx σ x G ms) {i s p n a1 : Nat} {b pl no : Int32} (hi : i < 8) (hpr : pr ms i) (U : UE ms i) (hs : s < 8) {t : Nat} (ht : ms.1 1 = nI t) (ht2 : t ≤ 1000000) (hp : hP σ p b n) (ha : h_tg σ a1 = 1) (hap : h_rv σ a1 0 = some p) (hv1 : h_iv σ a1 1 = nI s) (hv2 : h_iv σ a1 2 = pl) (hv3 : h_iv σ a1 3 = no) (hv4 : h_iv σ a1 4 = ms.1 1 + 180) {e : Nat} (hsl : slotM ms i (nI s) b (nI n) = some e) :
    ∃ σ', f_X6_keep σ (some (G 0 i)) (some a1) (ms.1 1) = some ((), σ') ∧ Rep fx σ' x G (setM ms i e s b (nI n) pl no) ∧ Kq x 0 0 σ σ' := by
  obtain ⟨-, I⟩ := (P.2.2.2.2.2.2.1.2.2 i hi).2 hpr
  obtain ⟨r, r1, r2⟩ := c_slot I hp
  have h180 : ms.1 1 < ms.1 1 + 180 := by
    rw [ht, show nI t + 180 = nI (t + 180) from nI_add t 180]
    exact nI_lt (by omega) (by omega)
  obtain ⟨a_1, a_2, a_3, a_4, ⟨a6, a7, a8⟩, ⟨a9, b1, b2⟩, b3, b4, -⟩ := id I
  have n12 : G 1 i ≠ G 2 i := fun z => by rw [z, b1] at a7; omega
  -- the place on either side
  have hsel : ∃ j, r = nI j ∧ j < 16 ∧ (16 * i ≤ e ∧ e < 16 * i + 16) ∧ (((cIx σ (G 1 i) (ms.1 1)).erase j).map (fun j => (eC σ (G 1 i) j).getD (eMv ms 0))).Perm (((rIx ms i).erase e).map (eMv ms)) := by
    unfold slotM at hsl
    rcases slot_rel I U r2 with ⟨j, a, e', h1, h2, h3, h4, h5⟩ | ⟨h1, ⟨h2, h3⟩ | ⟨j, e', h2, h3, h4, h5, h6, h7⟩⟩
    · rw [h3] at hsl
      have hsl' : (if ms.2.1 9 e' = nI s then some e' else none) = some e := hsl
      have ee : e' = e := by
        by_cases hc : ms.2.1 9 e' = nI s
        · rw [if_pos hc] at hsl'; exact Option.some.inj hsl'
        · rw [if_neg hc] at hsl'; cases hsl'
      subst ee
      refine ⟨j, h1, h2.1, (rIx_mem.mp h4).1, ?_⟩
      have hj : j ∈ cIx σ (G 1 i) (ms.1 1) := cIx_mem.mpr ⟨a, h2⟩
      have q1 := ((List.perm_cons_erase hj).map (fun j => (eC σ (G 1 i) j).getD (eMv ms 0))).symm.trans (I.pm.trans ((List.perm_cons_erase h4).map (eMv ms)))
      rw [List.map_cons, List.map_cons, at_v h2, h5] at q1
      exact q1.cons_inv
    · rw [h1, h3] at hsl
      cases hsl
    · rw [h1] at hsl
      have ee : e' = e := Option.some.inj (h5.symm.trans hsl)
      subst ee
      refine ⟨j, h2, h3, h6, ?_⟩
      rw [List.erase_of_not_mem h7, List.erase_of_not_mem (fun z => by obtain ⟨a, ha⟩ := cIx_mem.mp z; exact h4 a ha)]
      exact I.pm
  obtain ⟨j, hj1, hj2, he, hpm⟩ := hsel
  have w1 : h_sR σ (some (G 1 i)) 103 1 (nI j) (some a1) = some (h_setR σ (G 1 i) j (some a1)) := sR_s a7 a8 hj2 (by decide) (decide_eq_true ha)
  have w2 : h_sL (h_setR σ (G 1 i) j (some a1)) (some (G 2 i)) 101 (nI s) no.toInt64 = some (h_setL (h_setR σ (G 1 i) j (some a1)) (G 2 i) s no.toInt64) := sL_s (σ := h_setR σ (G 1 i) j (some a1)) b1 b2 hs (by decide)
  have hsm : ∀ q, q ≠ G 1 i → q ≠ G 2 i → Sm σ (h_setL (h_setR σ (G 1 i) j (some a1)) (G 2 i) s no.toInt64) q := fun q g1 g2 => (Sm_R g1).tr (Sm_L g2)
  have ek : ∀ k q, k < 7 ∨ 12 < k → (setM ms i e s b (nI n) pl no).2.1 k q = ms.2.1 k q := fun k q h => setM_k (Or.inr h)
  have n01 : G 0 i ≠ G 1 i := fun z => by rw [z, a7] at a_1; omega
  have n02 : G 0 i ≠ G 2 i := fun z => by rw [z, b1] at a_1; omega
  have h15 : ∀ q, h_tg σ q = 1 ∨ h_tg σ q = 5 → Sm σ (h_setL (h_setR σ (G 1 i) j (some a1)) (G 2 i) s no.toInt64) q := fun q hq => hsm q (fun z => by rw [z, a7] at hq; omega) (fun z => by rw [z, b1] at hq; omega)
  have hok1 : eOk σ a1 := ⟨ha, p, b, n, hap, hp⟩
  have hnew : eV σ a1 = (b, nI n, nI s, pl, no, ms.1 1 + 180) := by
    unfold eV
    rw [hap, hv1, hv2, hv3, hv4]
    show (h_iv σ p 0, h_iv σ p 1, _) = _
    rw [hp.2.1, hp.2.2.1]
  generalize hσ2 : h_setL (h_setR σ (G 1 i) j (some a1)) (G 2 i) s no.toInt64 = σ2 at w2 hsm h15
  have hrv : ∀ j', h_rv σ2 (G 1 i) j' = if j' = j then some a1 else h_rv σ (G 1 i) j' := fun j' => by
    rw [← hσ2]
    show h_rv (h_setR σ (G 1 i) j (some a1)) (G 1 i) j' = _
    by_cases ej : j' = j
    · rw [ej, rv_sR, if_pos rfl]
    · rw [rv_sRk ej, if_neg ej]
  have hlv : ∀ s', h_lv σ2 (G 2 i) s' = if s' = s then no.toInt64 else h_lv σ (G 2 i) s' := fun s' => by
    rw [← hσ2]
    by_cases es : s' = s
    · rw [es, lv_sL, if_pos rfl]
    · rw [lv_sLk es, if_neg es]; rfl
  have htg : ∀ q, h_tg σ2 q = h_tg σ q := fun q => by rw [← hσ2]; rfl
  have hln : ∀ q, h_ln σ2 q = h_ln σ q := fun q => by rw [← hσ2]; rfl
  have hz : h_sz σ2 = h_sz σ ∧ h_sl σ2 = h_sl σ ∧ h_cz σ2 = h_cz σ ∧ h_ck σ2 = h_ck σ := by rw [← hσ2]; exact ⟨rfl, rfl, rfl, rfl⟩
  have hat : ∀ j' a', at_ σ2 (G 1 i) (ms.1 1) j' a' ↔ (j' = j ∧ a' = a1) ∨ (j' ≠ j ∧ at_ σ (G 1 i) (ms.1 1) j' a') := by
    intro j' a'
    unfold at_
    rw [hrv]
    by_cases ej : j' = j
    · rw [if_pos ej]
      constructor
      · intro hh
        exact Or.inl ⟨ej, (Option.some.inj hh.2.1).symm⟩
      · intro hh
        rcases hh with ⟨-, h2⟩ | ⟨h1, -⟩
        · refine ⟨by omega, by rw [h2], ?_⟩
          rw [h2, (h15 a1 (Or.inl ha)).2.2.1, hv4]
          exact h180
        · exact absurd ej h1
    · rw [if_neg ej]
      constructor
      · intro hh
        have tg1 := (b4 j' hh.1 a' hh.2.1).1
        rw [(h15 a' (Or.inl tg1)).2.2.1] at hh
        exact Or.inr ⟨ej, hh⟩
      · intro hh
        rcases hh with ⟨h1, -⟩ | ⟨-, h2⟩
        · exact absurd h1 ej
        · have tg1 := (b4 j' h2.1 a' h2.2.1).1
          refine ⟨h2.1, h2.2.1, ?_⟩
          rw [(h15 a' (Or.inl tg1)).2.2.1]
          exact h2.2.2
  have hc' : (cIx σ2 (G 1 i) (ms.1 1)).Perm (j :: (cIx σ (G 1 i) (ms.1 1)).erase j) := by
    have nd : (j :: (cIx σ (G 1 i) (ms.1 1)).erase j).Nodup := List.nodup_cons.mpr ⟨fun z => ((List.Nodup.mem_erase_iff cIx_nd).mp z).1 rfl, List.Nodup.erase _ cIx_nd⟩
    refine (List.perm_ext_iff_of_nodup cIx_nd nd).mpr (fun k => ?_)
    rw [List.mem_cons, List.Nodup.mem_erase_iff cIx_nd, cIx_mem, cIx_mem]
    constructor
    · intro ⟨a', h⟩
      rcases (hat k a').mp h with ⟨h1, -⟩ | ⟨h1, h2⟩
      · exact Or.inl h1
      · exact Or.inr ⟨h1, a', h2⟩
    · intro h
      rcases h with h | ⟨h1, a', h2⟩
      · exact ⟨a1, (hat k a1).mpr (Or.inl ⟨h, rfl⟩)⟩
      · exact ⟨a', (hat k a').mpr (Or.inr ⟨h1, h2⟩)⟩
  have hr' : (rIx (setM ms i e s b (nI n) pl no) i).Perm (e :: (rIx ms i).erase e) := by
    have nd : (e :: (rIx ms i).erase e).Nodup := List.nodup_cons.mpr ⟨fun z => ((List.Nodup.mem_erase_iff rIx_nd).mp z).1 rfl, List.Nodup.erase _ rIx_nd⟩
    refine (List.perm_ext_iff_of_nodup rIx_nd nd).mpr (fun k => ?_)
    rw [List.mem_cons, List.Nodup.mem_erase_iff rIx_nd, rIx_mem, rIx_mem, setM_live h180]
    by_cases ek : k = e
    · rw [if_pos ek]; exact ⟨fun _ => Or.inl ek, fun _ => ⟨by rw [ek]; exact he, rfl⟩⟩
    · rw [if_neg ek]; exact ⟨fun z => Or.inr ⟨ek, z⟩, fun z => (z.resolve_left ek).2⟩
  have hnew2 : eV σ2 a1 = (b, nI n, nI s, pl, no, ms.1 1 + 180) := by rw [(hok1.to h15).2, hnew]
  have hperm : (eL ((setM ms i e s b (nI n) pl no).1 1) (eC σ2 (G 1 i)) 0 16).Perm (eL ((setM ms i e s b (nI n) pl no).1 1) (eM (setM ms i e s b (nI n) pl no)) (16 * i) 16) := by
    rw [eM_ix, eL_ix (d := eMv ms 0)]
    refine (hc'.map _).trans (List.Perm.trans ?_ (hr'.map _).symm)
    rw [List.map_cons, List.map_cons, setM_e]
    have e1 : (eC σ2 (G 1 i) j).getD (eMv ms 0) = (b, nI n, nI s, pl, no, ms.1 1 + 180) := by
      unfold eC
      rw [hrv, if_pos rfl]
      exact hnew2
    rw [e1]
    refine List.Perm.cons _ ?_
    have e2 : ((cIx σ (G 1 i) (ms.1 1)).erase j).map (fun j => (eC σ2 (G 1 i) j).getD (eMv ms 0)) = ((cIx σ (G 1 i) (ms.1 1)).erase j).map (fun j => (eC σ (G 1 i) j).getD (eMv ms 0)) := List.map_congr_left (fun k hk => by
      obtain ⟨k1, k2⟩ := (List.Nodup.mem_erase_iff cIx_nd).mp hk
      obtain ⟨a', h⟩ := cIx_mem.mp k2
      show (eC σ2 (G 1 i) k).getD _ = (eC σ (G 1 i) k).getD _
      unfold eC
      rw [hrv, if_neg k1, h.2.1]
      exact ((b4 k h.1 a' h.2.1).to h15).2)
    have e3 : ((rIx ms i).erase e).map (eMv (setM ms i e s b (nI n) pl no)) = ((rIx ms i).erase e).map (eMv ms) := List.map_congr_left (fun k hk => by
      have k1 := ((List.Nodup.mem_erase_iff rIx_nd).mp hk).1
      unfold eMv
      rw [setM_k (Or.inl k1), setM_k (Or.inl k1), setM_k (Or.inl k1), setM_k (Or.inl k1), setM_k (Or.inl k1), setM_k (Or.inl k1)])
    rw [e2, e3]
    exact hpm
  have I' : SvR σ2 G (setM ms i e s b (nI n) pl no) i := by
    have s0 := hsm (G 0 i) n01 n02
    have epB : pB (setM ms i e s b (nI n) pl no) i = pB ms i := ek 4 i (by omega)
    have epL : pL (setM ms i e s b (nI n) pl no) i = pL ms i := by unfold pL; rw [ek 5 i (by omega)]
    obtain ⟨pp, c1, c2⟩ := a_4
    refine ⟨by rw [htg]; exact a_1, by rw [s0.2.2.1]; exact a_2, by rw [s0.2.2.1, ek 6 i (by omega)]; exact a_3, ⟨pp, by rw [s0.2.2.2.1]; exact c1, by rw [epB, epL]; exact c2.to (h15 pp (Or.inr c2.1))⟩, ⟨by rw [s0.2.2.2.1]; exact a6, by rw [htg]; exact a7, by rw [hln]; exact a8⟩, ⟨by rw [s0.2.2.2.1]; exact a9, by rw [htg]; exact b1, by rw [hln]; exact b2⟩, fun s' hs' => ?_, fun j' hj' a' ha' => ?_, hperm⟩
    · rw [hlv, setM_L]
      by_cases es : s' = s
      · rw [if_pos es, if_pos (by omega)]
        exact Or.inr ⟨rfl, no, rfl⟩
      · rw [if_neg es, if_neg (by omega)]
        exact b3 s' hs'
    · rw [hrv] at ha'
      by_cases ej : j' = j
      · rw [if_pos ej] at ha'
        rw [← Option.some.inj ha']
        exact (hok1.to h15).1
      · rw [if_neg ej] at ha'
        exact ((b4 j' hj' a' ha').to h15).1
  refine ⟨σ2, ?_, Rep_srv P hi hpr ?_ hsm I' (fun _ _ => rfl) ek (fun t k q _ hne h1 h2 h3 h4 => setM_k (Or.inl (by omega))) (fun t s' _ hne hs' => by rw [setM_L, if_neg (by omega)]), by omega, by omega, by omega, hz.2.2.1, hz.2.2.2, fun q h1 h2 => hsm q (fun z => ?_) (fun z => ?_)⟩
  · have g1 : h_gI (h_setR σ (G 1 i) j (some a1)) (some a1) 1 1 = some (nI s) := by rw [gI_s (show h_tg (h_setR σ (G 1 i) j (some a1)) a1 = 1 from ha)]; exact congrArg some hv1
    have g2 : h_gI (h_setR σ (G 1 i) j (some a1)) (some a1) 1 3 = some no := by rw [gI_s (show h_tg (h_setR σ (G 1 i) j (some a1)) a1 = 1 from ha)]; exact congrArg some hv3
    have g3 : h_gR (h_setR σ (G 1 i) j (some a1)) (some (G 0 i)) 7 4 = some (some (G 2 i)) := by
      rw [gR_s (show h_tg (h_setR σ (G 1 i) j (some a1)) (G 0 i) = 7 from a_1), (Sm_R n01).2.2.2.1]
      exact congrArg some a9
    unfold f_X6_keep
    rw [gR_s ha, hap, h_b1_s, rcv_s a_1, h_b1_s, r1, h_bd_s, hj1, if_neg (nI_pos (by omega)), gR_s a_1, a6, h_b1_s, w1, h_b1_s, g3, h_b1_s, g1, h_b1_s, g2, h_b1_s, w2, h_b1_s]
  · unfold Zx
    rw [show h_tg σ2 = h_tg σ from funext htg, hz.1]
    exact P.1
  · have := P.1.2.2 q h1 h2
    rw [z, a7] at this
    omega
  · have := P.2.2.2.2.2.2.1.2.1 i hi hpr
    omega
end RG2
end
/-! from 93.register3 -/
section
/-! A REGISTER comes: all of it -/
section RG3
variable {fx : Bool} {σ σ' : HS} {x : Nat} {G : Nat → Nat → Nat} {ms ms' : MS}
theorem Hd.to (H : Hd fx σ x ms) (s : Sm σ σ' (x + 12)) : Hd fx σ' x ms := fun j hj => by
  rw [s.2.2.1]
  exact H j hj
/-- refused -/
theorem refuse (P : Rep fx σ' x G ms) {d s : Nat} (K : Kq x d s σ σ') : (h_b1 (h_gI σ' (some x) 10 11) fun v => h_b1 (h_pI σ' (some x) 10 11 (v + 1)) fun q => (some ((), q) : Option (Unit × HS))) = some ((), h_setI σ' x 11 (ms.1 39 + 1)) ∧ Rep fx (h_setI σ' x 11 (ms.1 39 + 1)) x G (refM ms) ∧ Kq x d s σ (h_setI σ' x 11 (ms.1 39 + 1)) := by
  refine ⟨?_, Rep_xi P (k := 11) (by omega), K.tr (Kp_x P).q⟩
  rw [gI_s P.2.1.1, P.2.2.1.2.2.2.1, h_b1_s, pI_s P.2.1.1, h_b1_s]
theorem a_register (P : Rep fx σ x G ms) (H : Hd fx σ x ms) (hk : ms.2.1 38 6 = 0) (Tt : Tr ms) (hz : h_sz σ + 2 ≤ h_cz σ) (hs : h_sl σ + 7 ≤ h_ck σ) {t : Nat} (ht : ms.1 1 = nI t) (ht2 : t ≤ 1000000) {i : Nat} (hi : i < 8) (hpr : pr ms i) (U : UE ms i) :
    ∃ σ', f_X9_takeRegister σ (some x) (some (G 0 i)) = some ((), σ') ∧ Rep fx σ' x G (regM ms i) ∧ Kq x 2 7 σ σ' := by
  have F := P.2.1
  have B := P.n0
  have h50 := P.1.1
  have h3 : ¬ ms.2.1 38 6 = 3 := by rw [hk]; decide
  have hd : ∀ j, j < 8 → h_aI σ (some (x + 12)) 100 (nI j) = some (ms.2.1 38 j) := fun j hj => (H.at F hj (nloose h3)).2
  have e5 := (H.at F (j := 0) (by omega) (nloose h3)).1
  have d0 : h_aI σ (some (x + 12)) 100 0 = some (ms.2.1 38 0) := hd 0 (by omega)
  have d1 : h_aI σ (some (x + 12)) 100 1 = some (ms.2.1 38 1) := hd 1 (by omega)
  have d2 : h_aI σ (some (x + 12)) 100 2 = some (ms.2.1 38 2) := hd 2 (by omega)
  have d3 : h_aI σ (some (x + 12)) 100 3 = some (ms.2.1 38 3) := hd 3 (by omega)
  have d4 : h_aI σ (some (x + 12)) 100 4 = some (ms.2.1 38 4) := hd 4 (by omega)
  have bad : goodR ms i = false → regM ms i = refM ms := fun h => by unfold regM; rw [h, if_neg (by decide)]
  unfold f_X9_takeRegister
  rw [if_neg (fun z => by cases z), e5, h_b1_s, d0, h_b1_s, h_b1_s, d3, h_b1_s, h_b1_s, d4, h_b1_s, h_b1_s, d1, h_b1_s, h_b1_s, d2, h_b1_s]
  cases hv : vpB (ms.2.1 38 1) (ms.2.1 38 2) with
  | false =>
    obtain ⟨r1, r2, r3⟩ := refuse P (Kq.rf (x := x) (σ := σ))
    refine ⟨_, by rw [of_no hv, h_bd_s, if_pos rfl]; exact r1, ?_, r3.le (by omega) (by omega)⟩
    rw [bad (by unfold goodR; rw [hv]; cases siteB ms (ms.2.1 38 0) <;> cases decide (0 ≤ ms.2.1 38 3 ∧ ms.2.1 38 3 ≤ 15) <;> rfl)]
    exact r2
  | true =>
    obtain ⟨n, hn, hl, hvb⟩ := vpB_nI hv
    have hof := of_yes B (by omega) (by omega) hv 0 0
    have hp1 : hP (rpl (h_sz σ) (pSp (ms.2.1 38 1) (ms.2.1 38 2) 0 0) σ) (h_sz σ + 0) (ms.2.1 38 1) n := by rw [hl]; exact pxHP P hn hvb 0 0
    have K1 := pxK P (ms.2.1 38 1) (ms.2.1 38 2) 0 0
    have P1 := P.ext (Ext_rpl B (pSp (ms.2.1 38 1) (ms.2.1 38 2) 0 0))
    have H1 : Hd fx (rpl (h_sz σ) (pSp (ms.2.1 38 1) (ms.2.1 38 2) 0 0) σ) x ms := H.to (rpl_lo B (by omega) _)
    have hof' : f_X4_of σ (ms.2.1 38 1) (ms.2.1 38 2) = some (some (h_sz σ + 0), rpl (h_sz σ) (pSp (ms.2.1 38 1) (ms.2.1 38 2) 0 0) σ) := hof
    have hmkE : h_mk (rpl (h_sz σ) (pSp (ms.2.1 38 1) (ms.2.1 38 2) 0 0) σ) 1 5 = some (some (h_sz σ + 1), rpl (h_sz σ) ((0, 1, 0, 5, 0) :: pSp (ms.2.1 38 1) (ms.2.1 38 2) 0 0) σ) := E_mk B (l := pSp (ms.2.1 38 1) (ms.2.1 38 2) 0 0) (l' := (0, 1, 0, 5, 0) :: pSp (ms.2.1 38 1) (ms.2.1 38 2) 0 0) (c := 1) (w := 2) rfl rfl rfl (by omega) (by omega)
    generalize hτ : rpl (h_sz σ) (pSp (ms.2.1 38 1) (ms.2.1 38 2) 0 0) σ = τ at hp1 K1 P1 H1 hof' hmkE
    obtain ⟨f1, f2, f3⟩ := refuse P1 K1
    have fin : goodR ms i = false ∨ slotM ms i (ms.2.1 38 0) (ms.2.1 38 1) (ms.2.1 38 2) = none → Rep fx (h_setI τ x 11 (ms.1 39 + 1)) x G (regM ms i) := fun h => by
      have : regM ms i = refM ms := by
        rcases h with h | h
        · exact bad h
        · unfold regM slotR
          rw [h]
          split <;> rfl
      rw [this]
      exact f2
    have F1 := P1.2.1
    have hat := c_siteAt F1 P1.2.2.2.2.2.2.2 (ms.2.1 38 0)
    rw [hof', h_bd_s, if_neg (fun z => by cases z), rcv_s F1.1, h_b1_s, hat, h_bd_s]
    cases hsB : siteB ms (ms.2.1 38 0) with
    | false =>
      exact ⟨_, by rw [if_neg (show ¬ (false = true) by decide), if_pos rfl]; exact f1, fin (Or.inl (by unfold goodR; rw [hsB]; rfl)), f3.le (by omega) (by omega)⟩
    | true =>
      obtain ⟨s, hs8, hs0, hps⟩ := siteB_nI hsB
      rw [if_pos rfl, if_neg (fun z => by cases z), c_isPlace, h_bd_s]
      by_cases hpl : 0 ≤ ms.2.1 38 3 ∧ ms.2.1 38 3 ≤ 15
      · rw [decide_eq_true hpl, b2i_t, if_neg (by decide)]
        have d5 : h_aI τ (some (x + 12)) 100 5 = some (ms.2.1 38 5) := (H1.at F1 (j := 5) (by omega) (nloose h3)).2
        have htag := c_tag hp1 (ms.2.1 38 0) (ms.2.1 38 3) (ms.2.1 38 4)
        rw [← hl] at htag
        have hgood : goodR ms i = (decide (tagF (ms.2.1 38 0) (ms.2.1 38 1) (ms.2.1 38 2) (ms.2.1 38 3) (ms.2.1 38 4) = ms.2.1 38 5) && (decide (ownE ms (ms.2.1 38 1) (ln (ms.2.1 38 2)) = some i) && decide (ms.2.2 (8 * i + (ms.2.1 38 0).toNatClampNeg) < (ms.2.1 38 4).toInt64))) := by
          unfold goodR
          rw [hsB, hv, decide_eq_true hpl]
          simp only [Bool.true_and]
        generalize tagF (ms.2.1 38 0) (ms.2.1 38 1) (ms.2.1 38 2) (ms.2.1 38 3) (ms.2.1 38 4) = tg at htag hgood
        rw [(H1.at F1 (j := 0) (by omega) (nloose h3)).1, h_b1_s, d5, h_b1_s, htag, h_bd_s]
        by_cases htg : ms.2.1 38 5 = tg
        · have hown : (ownE ms (ms.2.1 38 1) (ln (ms.2.1 38 2)) = some i) ↔ ownB ms (ms.2.1 38 1) n i = true := by rw [hl, ln_nI hn, ownE_iff Tt hn, ownB_iff Tt hi hpr]
          rw [if_pos htg, gR_s F1.1, F1.2.1.1, h_b1_s, rcv_s F1.2.2.1.1, h_b1_s, c_owns F1 P1.2.2.2.2.2.2.1 Tt hi hpr hp1, h_bd_s]
          obtain ⟨-, I1⟩ := (P1.2.2.2.2.2.2.1.2.2 i hi).2 hpr
          cases hob : ownB ms (ms.2.1 38 1) n i with
          | false =>
            exact ⟨_, by rw [b2i_f, if_pos rfl]; exact f1, fin (Or.inl (by rw [hgood, decide_eq_false (show ¬ ownE ms (ms.2.1 38 1) (ln (ms.2.1 38 2)) = some i from fun z => by rw [hown.mp z] at hob; cases hob), Bool.false_and, Bool.and_false])), f3.le (by omega) (by omega)⟩
          | true =>
            have hfr := c_fresh hs8 I1 (ms.2.1 38 4)
            rw [← hs0] at hfr
            rw [b2i_t, if_neg (by decide), rcv_s I1.1, h_b1_s, hfr, h_bd_s]
            have hcl : (ms.2.1 38 0).toNatClampNeg = s := by rw [hs0, nI_clamp (by omega)]
            by_cases hfre : ms.2.2 (8 * i + s) < (ms.2.1 38 4).toInt64
            · have hroom := c_room I1 U hp1 (ms.2.1 38 0)
              rw [← hl] at hroom
              have hgt : goodR ms i = true := by rw [hgood, decide_eq_true htg.symm, decide_eq_true (hown.mpr hob), hcl, decide_eq_true hfre]; rfl
              have t9 : h_gI τ (some x) 10 9 = some (ms.1 1) := by rw [gI_s F1.1, P1.2.2.1.2.1]
              rw [decide_eq_true hfre, b2i_t, if_neg (by decide), t9, h_b1_s, rcv_s I1.1, h_b1_s, hroom, h_bd_s]
              cases hsl : slotM ms i (ms.2.1 38 0) (ms.2.1 38 1) (ms.2.1 38 2) with
              | none =>
                exact ⟨_, by rw [if_pos (by rfl)]; exact f1, fin (Or.inr hsl), f3.le (by omega) (by omega)⟩
              | some e =>
                rw [if_neg (show ¬ b2i (some e).isSome = 0 from (by decide : ¬ (1 : Int32) = 0)), hmkE, h_bd_s]
                have P2 := P.ext (Ext_rpl B (eN (ms.2.1 38 1) (ms.2.1 38 2) (ms.2.1 38 0) (ms.2.1 38 3) (ms.2.1 38 4) (ms.1 1 + 180)))
                have K2 : Kq x 2 7 σ (rpl (h_sz σ) (eN (ms.2.1 38 1) (ms.2.1 38 2) (ms.2.1 38 0) (ms.2.1 38 3) (ms.2.1 38 4) (ms.1 1 + 180)) σ) := Kq_rpl P _ (by exact Nat.le_refl 2) (by exact Nat.le_refl 7)
                have P15 := P.ext (Ext_rpl B ((0, 1, 0, 5, 0) :: pSp (ms.2.1 38 1) (ms.2.1 38 2) 0 0))
                have hrc : h_rcv (rpl (h_sz σ) ((0, 1, 0, 5, 0) :: pSp (ms.2.1 38 1) (ms.2.1 38 2) 0 0) σ) (some (h_sz σ + 1)) 1 = some (h_sz σ + 1) := E_rcv B rfl
                have hini : f_X0_init (rpl (h_sz σ) ((0, 1, 0, 5, 0) :: pSp (ms.2.1 38 1) (ms.2.1 38 2) 0 0) σ) (some (h_sz σ + 1)) (some (h_sz σ + 0)) (ms.2.1 38 0) (ms.2.1 38 3) (ms.2.1 38 4) (ms.1 1) = some ((), rpl (h_sz σ) (eN (ms.2.1 38 1) (ms.2.1 38 2) (ms.2.1 38 0) (ms.2.1 38 3) (ms.2.1 38 4) (ms.1 1 + 180)) σ) := by
                  unfold f_X0_init eN
                  rw [h_b1_s, E_pR B (t := 1) (l' := (1, 1, 0, 0, 0) :: (0, 1, 0, 5, 0) :: pSp (ms.2.1 38 1) (ms.2.1 38 2) 0 0) (off := 1) (r := 0) rfl rfl, h_b1_s, E_pI B (t := 1) (l' := (2, 1, 1, 0, ms.2.1 38 0) :: (1, 1, 0, 0, 0) :: (0, 1, 0, 5, 0) :: pSp (ms.2.1 38 1) (ms.2.1 38 2) 0 0) (off := 1) rfl rfl, h_b1_s, E_pI B (t := 1) (l' := (2, 1, 2, 0, ms.2.1 38 3) :: (2, 1, 1, 0, ms.2.1 38 0) :: (1, 1, 0, 0, 0) :: (0, 1, 0, 5, 0) :: pSp (ms.2.1 38 1) (ms.2.1 38 2) 0 0) (off := 1) rfl rfl, h_b1_s, E_pI B (t := 1) (l' := (2, 1, 3, 0, ms.2.1 38 4) :: (2, 1, 2, 0, ms.2.1 38 3) :: (2, 1, 1, 0, ms.2.1 38 0) :: (1, 1, 0, 0, 0) :: (0, 1, 0, 5, 0) :: pSp (ms.2.1 38 1) (ms.2.1 38 2) 0 0) (off := 1) rfl rfl, h_b1_s, E_pI B (t := 1) (l' := (2, 1, 4, 0, ms.1 1 + 180) :: (2, 1, 3, 0, ms.2.1 38 4) :: (2, 1, 2, 0, ms.2.1 38 3) :: (2, 1, 1, 0, ms.2.1 38 0) :: (1, 1, 0, 0, 0) :: (0, 1, 0, 5, 0) :: pSp (ms.2.1 38 1) (ms.2.1 38 2) 0 0) (off := 1) rfl rfl, h_b1_s]
                have hp2 : hP (rpl (h_sz σ) (eN (ms.2.1 38 1) (ms.2.1 38 2) (ms.2.1 38 0) (ms.2.1 38 3) (ms.2.1 38 4) (ms.1 1 + 180)) σ) (h_sz σ + 0) (ms.2.1 38 1) n := ⟨rpl_tg B 0 _, rpl_iv B 0 0 (eN (ms.2.1 38 1) (ms.2.1 38 2) (ms.2.1 38 0) (ms.2.1 38 3) (ms.2.1 38 4) (ms.1 1 + 180)) (Or.inl (show 0 < 2 by decide)), (rpl_iv B 0 1 (eN (ms.2.1 38 1) (ms.2.1 38 2) (ms.2.1 38 0) (ms.2.1 38 3) (ms.2.1 38 4) (ms.1 1 + 180)) (Or.inl (show 0 < 2 by decide))).trans hl, hn, hvb⟩
                have q1 : h_tg (rpl (h_sz σ) (eN (ms.2.1 38 1) (ms.2.1 38 2) (ms.2.1 38 0) (ms.2.1 38 3) (ms.2.1 38 4) (ms.1 1 + 180)) σ) (h_sz σ + 1) = 1 := rpl_tg B 1 _
                have q2 : h_rv (rpl (h_sz σ) (eN (ms.2.1 38 1) (ms.2.1 38 2) (ms.2.1 38 0) (ms.2.1 38 3) (ms.2.1 38 4) (ms.1 1 + 180)) σ) (h_sz σ + 1) 0 = some (h_sz σ + 0) := rpl_rv B 1 0 (eN (ms.2.1 38 1) (ms.2.1 38 2) (ms.2.1 38 0) (ms.2.1 38 3) (ms.2.1 38 4) (ms.1 1 + 180)) (Or.inl (show 1 < 2 by decide))
                have q3 : h_iv (rpl (h_sz σ) (eN (ms.2.1 38 1) (ms.2.1 38 2) (ms.2.1 38 0) (ms.2.1 38 3) (ms.2.1 38 4) (ms.1 1 + 180)) σ) (h_sz σ + 1) 1 = ms.2.1 38 0 := rpl_iv B 1 1 (eN (ms.2.1 38 1) (ms.2.1 38 2) (ms.2.1 38 0) (ms.2.1 38 3) (ms.2.1 38 4) (ms.1 1 + 180)) (Or.inl (show 1 < 2 by decide))
                have q4 : h_iv (rpl (h_sz σ) (eN (ms.2.1 38 1) (ms.2.1 38 2) (ms.2.1 38 0) (ms.2.1 38 3) (ms.2.1 38 4) (ms.1 1 + 180)) σ) (h_sz σ + 1) 2 = ms.2.1 38 3 := rpl_iv B 1 2 (eN (ms.2.1 38 1) (ms.2.1 38 2) (ms.2.1 38 0) (ms.2.1 38 3) (ms.2.1 38 4) (ms.1 1 + 180)) (Or.inl (show 1 < 2 by decide))
                have q5 : h_iv (rpl (h_sz σ) (eN (ms.2.1 38 1) (ms.2.1 38 2) (ms.2.1 38 0) (ms.2.1 38 3) (ms.2.1 38 4) (ms.1 1 + 180)) σ) (h_sz σ + 1) 3 = ms.2.1 38 4 := rpl_iv B 1 3 (eN (ms.2.1 38 1) (ms.2.1 38 2) (ms.2.1 38 0) (ms.2.1 38 3) (ms.2.1 38 4) (ms.1 1 + 180)) (Or.inl (show 1 < 2 by decide))
                have q6 : h_iv (rpl (h_sz σ) (eN (ms.2.1 38 1) (ms.2.1 38 2) (ms.2.1 38 0) (ms.2.1 38 3) (ms.2.1 38 4) (ms.1 1 + 180)) σ) (h_sz σ + 1) 4 = ms.1 1 + 180 := rpl_iv B 1 4 (eN (ms.2.1 38 1) (ms.2.1 38 2) (ms.2.1 38 0) (ms.2.1 38 3) (ms.2.1 38 4) (ms.1 1 + 180)) (Or.inl (show 1 < 2 by decide))
                generalize rpl (h_sz σ) (eN (ms.2.1 38 1) (ms.2.1 38 2) (ms.2.1 38 0) (ms.2.1 38 3) (ms.2.1 38 4) (ms.1 1 + 180)) σ = τ2 at P2 K2 hini hp2 q1 q2 q3 q4 q5 q6
                generalize rpl (h_sz σ) ((0, 1, 0, 5, 0) :: pSp (ms.2.1 38 1) (ms.2.1 38 2) 0 0) σ = τ15 at P15 hrc hini
                obtain ⟨-, I2⟩ := (P2.2.2.2.2.2.2.1.2.2 i hi).2 hpr
                have hsl' : slotM ms i (nI s) (ms.2.1 38 1) (nI n) = some e := by rw [← hs0, ← hl]; exact hsl
                obtain ⟨σ3, k1, k2, k3⟩ := a_keep P2 hi hpr U hs8 ht ht2 hp2 q1 q2 (q3.trans hs0) q4 q5 q6 hsl'
                have t15 : h_gI τ15 (some x) 10 9 = some (ms.1 1) := by rw [gI_s P15.2.1.1, P15.2.2.1.2.1]
                have t2' : h_gI τ2 (some x) 10 9 = some (ms.1 1) := by rw [gI_s P2.2.1.1, P2.2.2.1.2.1]
                refine ⟨σ3, ?_, ?_, K2.tr k3⟩
                · rw [t15, h_b1_s, hrc, h_b1_s, hini, h_bd_s, t2', h_b1_s, rcv_s I2.1, h_b1_s, k1, h_bd_s]
                · have : regM ms i = setM ms i e s (ms.2.1 38 1) (nI n) (ms.2.1 38 3) (ms.2.1 38 4) := by
                    unfold regM slotR
                    rw [hgt, if_pos rfl, hsl]
                    show setE ms i e = _
                    unfold setE setM
                    rw [hcl, ← hs0, ← hl]
                  rw [this]
                  exact k2
            · exact ⟨_, by rw [decide_eq_false hfre, b2i_f, if_pos rfl]; exact f1, fin (Or.inl (by rw [hgood, hcl, decide_eq_false hfre, Bool.and_false, Bool.and_false])), f3.le (by omega) (by omega)⟩
        · exact ⟨_, by rw [if_neg htg]; exact f1, fin (Or.inl (by rw [hgood, decide_eq_false (fun z => htg z.symm), Bool.false_and])), f3.le (by omega) (by omega)⟩
      · exact ⟨_, by rw [decide_eq_false hpl, b2i_f, if_pos rfl]; exact f1, fin (Or.inl (by unfold goodR; rw [hsB, decide_eq_false hpl]; rfl)), f3.le (by omega) (by omega)⟩
end RG3
end
