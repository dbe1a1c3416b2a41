/-! POSTS with all six numbers: REPLY, REGISTER -/
section PST
variable {fx : Bool} {σ : HS} {x : Nat} {G : Nat → Nat → Nat} {ms : MS}
theorem hP_13 (F : Fx σ x) {p m : Nat} {b : Int32} (h : hP σ p b m) {k : Nat} {v : Int32} : hP (h_setI σ (x + 13) k v) p b m := h.to (Sm_I (fun z => by have := h.1; rw [z, F.d100] at this; omega))
theorem a_postReply (P : Rep fx σ x G ms) {n p m : Nat} {b : Int32} (hn : ms.1 36 = nI n) (h : n ≤ 200) (hp : hP σ p b m) (s no so va ve : Int32) : ∃ σ', f_X9_postReply σ (some x) s no so (some p) va ve = some ((), σ') ∧ Rep fx σ' x G (postM ms n (mG no so b (nI m) va ve 2 s)) ∧ Kp x 0 0 σ σ' := by
  have F := P.2.1
  have wf : ∀ {τ : HS} {k : Nat} {v : Int32}, Fx τ x → Fx (h_setI τ (x + 13) k v) x := fun {τ k v} F => (WI_I (L := [x + 13]) (by simp) : WI [x + 13] τ _).fx F
  have q0 := d_s (v := no) F (i := 0) (by omega)
  have F1 : Fx (h_setI σ (x + 13) 0 no) x := wf F
  have p1 := hP_13 F (k := 0) (v := no) hp
  have q1 := d_s (v := so) F1 (i := 1) (by omega)
  have F2 : Fx (h_setI (h_setI σ (x + 13) 0 no) (x + 13) 1 so) x := wf F1
  have p2 := hP_13 F1 (k := 1) (v := so) p1
  have q2 := d_s (v := b) F2 (i := 2) (by omega)
  have F3 : Fx (h_setI (h_setI (h_setI σ (x + 13) 0 no) (x + 13) 1 so) (x + 13) 2 b) x := wf F2
  have p3 := hP_13 F2 (k := 2) (v := b) p2
  have q3 := d_s (v := nI m) F3 (i := 3) (by omega)
  have F4 : Fx (h_setI (h_setI (h_setI (h_setI σ (x + 13) 0 no) (x + 13) 1 so) (x + 13) 2 b) (x + 13) 3 (nI m)) x := wf F3
  have q4 := d_s (v := va) F4 (i := 4) (by omega)
  have F5 : Fx (h_setI (h_setI (h_setI (h_setI (h_setI σ (x + 13) 0 no) (x + 13) 1 so) (x + 13) 2 b) (x + 13) 3 (nI m)) (x + 13) 4 va) x := wf F4
  have q5 := d_s (v := ve) F5 (i := 5) (by omega)
  obtain ⟨W, hv⟩ := d6 (σ := σ) (x := x) (a := no) (b := so) (c := b) (d := nI m) (e := va) (f := ve)
  obtain ⟨v0, v1, v2, v3, v4, v5⟩ := hv _ rfl
  have F6 := W.fx F
  obtain ⟨σ', r1, r2, r3⟩ := c_draft F P.2.2.2.1 hn h W v0 v1 v2 v3 v4 v5 (kd := 2) (to := s)
  refine ⟨σ', ?_, Rep_post P r2 r3, Kp_post P r2⟩
  unfold f_X9_postReply
  rw [q0.1, h_b1_s, (show h_sI σ (some (x + 13)) 100 0 no = _ from q0.2), h_b1_s, q1.1, h_b1_s, (show h_sI _ (some (x + 13)) 100 1 so = _ from q1.2), h_b1_s, q2.1, h_b1_s, gI_s p2.1, p2.2.1, h_b1_s, (show h_sI _ (some (x + 13)) 100 2 b = _ from q2.2), h_b1_s, q3.1, h_b1_s, gI_s p3.1, p3.2.2.1, h_b1_s, (show h_sI _ (some (x + 13)) 100 3 (nI m) = _ from q3.2), h_b1_s, q4.1, h_b1_s, (show h_sI _ (some (x + 13)) 100 4 va = _ from q4.2), h_b1_s, q5.1, h_b1_s, (show h_sI _ (some (x + 13)) 100 5 ve = _ from q5.2), h_b1_s, gR_s F6.1, F6.rRow, h_b1_s, gR_s F6.1, F6.rDraft, h_b1_s, rcv_s F6.rw6, h_b1_s, r1, h_bd_s]
theorem c_tag {p m : Nat} {b : Int32} (hp : hP σ p b m) (s pl no : Int32) : f_X9_tag σ s (some p) pl no = some (tagF s b (nI m) pl no, σ) := by
  have e : ∀ h v, f_X9_mix σ h v = some (mix h v, σ) := fun _ _ => rfl
  unfold f_X9_tag tagF
  rw [e, h_bd_s, gI_s hp.1, hp.2.1, h_b1_s, e, h_bd_s, gI_s hp.1, hp.2.2.1, h_b1_s, e, h_bd_s, e, h_bd_s, e, h_bd_s]
theorem a_postRegister (P : Rep fx σ x G ms) {n p m : Nat} {b : Int32} (hn : ms.1 36 = nI n) (h : n ≤ 200) (hp : hP σ p b m) (sv s pl no : Int32) : ∃ σ', f_X9_postRegister σ (some x) sv s (some p) pl no = some ((), σ') ∧ Rep fx σ' x G (postM ms n (mG s b (nI m) pl no (tagF s b (nI m) pl no) 0 sv)) ∧ Kp x 0 0 σ σ' := by
  have ht := fun {τ : HS} (hp : hP τ p b m) => c_tag hp s pl no
  generalize tagF s b (nI m) pl no = tg at ht ⊢
  have F := P.2.1
  have wf : ∀ {τ : HS} {k : Nat} {v : Int32}, Fx τ x → Fx (h_setI τ (x + 13) k v) x := fun {τ k v} F => (WI_I (L := [x + 13]) (by simp) : WI [x + 13] τ _).fx F
  have q0 := d_s (v := s) F (i := 0) (by omega)
  have F1 : Fx (h_setI σ (x + 13) 0 s) x := wf F
  have p1 := hP_13 F (k := 0) (v := s) hp
  have q1 := d_s (v := b) F1 (i := 1) (by omega)
  have F2 : Fx (h_setI (h_setI σ (x + 13) 0 s) (x + 13) 1 b) x := wf F1
  have p2 := hP_13 F1 (k := 1) (v := b) p1
  have q2 := d_s (v := nI m) F2 (i := 2) (by omega)
  have F3 : Fx (h_setI (h_setI (h_setI σ (x + 13) 0 s) (x + 13) 1 b) (x + 13) 2 (nI m)) x := wf F2
  have p3 := hP_13 F2 (k := 2) (v := nI m) p2
  have q3 := d_s (v := pl) F3 (i := 3) (by omega)
  have F4 : Fx (h_setI (h_setI (h_setI (h_setI σ (x + 13) 0 s) (x + 13) 1 b) (x + 13) 2 (nI m)) (x + 13) 3 pl) x := wf F3
  have p4 := hP_13 F3 (k := 3) (v := pl) p3
  have q4 := d_s (v := no) F4 (i := 4) (by omega)
  have F5 : Fx (h_setI (h_setI (h_setI (h_setI (h_setI σ (x + 13) 0 s) (x + 13) 1 b) (x + 13) 2 (nI m)) (x + 13) 3 pl) (x + 13) 4 no) x := wf F4
  have p5 := hP_13 F4 (k := 4) (v := no) p4
  have q5 := d_s (v := tg) F5 (i := 5) (by omega)
  obtain ⟨W, hv⟩ := d6 (σ := σ) (x := x) (a := s) (b := b) (c := nI m) (d := pl) (e := no) (f := tg)
  obtain ⟨v0, v1, v2, v3, v4, v5⟩ := hv _ rfl
  have F6 := W.fx F
  obtain ⟨σ', r1, r2, r3⟩ := c_draft F P.2.2.2.1 hn h W v0 v1 v2 v3 v4 v5 (kd := 0) (to := sv)
  refine ⟨σ', ?_, Rep_post P r2 r3, Kp_post P r2⟩
  unfold f_X9_postRegister
  rw [q0.1, h_b1_s, (show h_sI σ (some (x + 13)) 100 0 s = _ from q0.2), h_b1_s, q1.1, h_b1_s, gI_s p1.1, p1.2.1, h_b1_s, (show h_sI _ (some (x + 13)) 100 1 b = _ from q1.2), h_b1_s, q2.1, h_b1_s, gI_s p2.1, p2.2.2.1, h_b1_s, (show h_sI _ (some (x + 13)) 100 2 (nI m) = _ from q2.2), h_b1_s, q3.1, h_b1_s, (show h_sI _ (some (x + 13)) 100 3 pl = _ from q3.2), h_b1_s, q4.1, h_b1_s, (show h_sI _ (some (x + 13)) 100 4 no = _ from q4.2), h_b1_s, q5.1, h_b1_s, ht p5, h_bd_s, (show h_sI _ (some (x + 13)) 100 5 tg = _ from q5.2), h_b1_s, gR_s F6.1, F6.rRow, h_b1_s, gR_s F6.1, F6.rDraft, h_b1_s, rcv_s F6.rw6, h_b1_s, r1, h_bd_s]
/-- what the hand holds -/
def Hd (fx : Bool) (σ : HS) (x : Nat) (ms : MS) : Prop := ∀ j, j < 8 → loose fx (ms.2.1 38 6) j ∨ h_iv σ (x + 12) j = ms.2.1 38 j
theorem Hd.at (H : Hd fx σ x ms) (F : Fx σ x) {j : Nat} (hj : j < 8) (h : ¬ loose fx (ms.2.1 38 6) j) : h_gR σ (some x) 10 5 = some (some (x + 12)) ∧ h_aI σ (some (x + 12)) 100 (nI j) = some (ms.2.1 38 j) := by
  refine ⟨by rw [gR_s F.1, F.rHand], ?_⟩
  rw [aI_s F.h100 F.hln hj (by decide), (H j hj).resolve_left h]
end PST
