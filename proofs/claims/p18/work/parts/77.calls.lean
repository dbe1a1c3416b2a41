/-! from 77.glue -/
section
/-! FROM ONE CALL TO THE NEXT: what an exception leaves, what the reference writes, the cell for the answer -/
/-- the heap has grown by at most dz cells of ds places; the other side's cells are as they were -/
def Kq (x dz ds : Nat) (σ σ' : HS) : Prop := h_sz σ ≤ h_sz σ' ∧ h_sz σ' ≤ h_sz σ + dz ∧ h_sl σ' ≤ h_sl σ + ds ∧ h_cz σ' = h_cz σ ∧ h_ck σ' = h_ck σ ∧ ∀ a, x + 15 ≤ a → a ≤ x + 49 → Sm σ σ' a
theorem Kp.q {x dz ds : Nat} {σ σ' : HS} (h : Kp x dz ds σ σ') : Kq x dz ds σ σ' := ⟨by rw [h.1]; omega, by rw [h.1]; omega, by rw [h.2.1]; omega, h.2.2.1, h.2.2.2.1, h.2.2.2.2⟩
theorem Kq.rf {x : Nat} {σ : HS} : Kq x 0 0 σ σ := Kp.rf.q
theorem Kq.tr {x d1 d2 s1 s2 : Nat} {σ σ1 σ2 : HS} (h : Kq x d1 s1 σ σ1) (h' : Kq x d2 s2 σ1 σ2) : Kq x (d1 + d2) (s1 + s2) σ σ2 := by
  obtain ⟨a1, a2, a3, a4, a5, a6⟩ := h
  obtain ⟨b1, b2, b3, b4, b5, b6⟩ := h'
  exact ⟨by omega, by omega, by omega, by rw [b4, a4], by rw [b5, a5], fun a h1 h2 => (a6 a h1 h2).tr (b6 a h1 h2)⟩
theorem Kq.le {x d d' s s' : Nat} {σ σ' : HS} (h : Kq x d s σ σ') (h1 : d ≤ d') (h2 : s ≤ s') : Kq x d' s' σ σ' := ⟨h.1, by have := h.2.1; omega, by have := h.2.2.1; omega, h.2.2.2⟩
theorem Kq.mv {x d s : Nat} {σ σ' : HS} {ms : MS} (h : Kq x d s σ σ') (V : MV σ (x + 15) (kA (x + 15)) ms) : MV σ' (x + 15) (kA (x + 15)) ms := V.to (h.2.2.2.2.2 _ (by omega) (by omega)) (fun k hk => by have := kA_lt (m := x + 15) hk; exact h.2.2.2.2.2 _ (by omega) (by omega))
section GLU
variable {fx : Bool} {σ σ' : HS} {x : Nat} {G : Nat → Nat → Nat} {ms ms' : MS}
theorem Kq_rpl (P : Rep fx σ x G ms) (l : List Op) {dz ds : Nat} (h1 : cP l ≤ dz) (h2 : cS l ≤ ds) : Kq x dz ds σ (rpl (h_sz σ) l σ) := by
  have B := P.n0
  have h50 := P.1.1
  exact ⟨by rw [rpl_sz B]; omega, by rw [rpl_sz B]; omega, by rw [rpl_sl]; omega, (rpl_c l).1, (rpl_c l).2, fun a _ h => rpl_lo B (by omega) l⟩
theorem Rep.ms1 (P : Rep fx σ x G ms) (h2 : ms'.2 = ms.2) (h1 : ∀ k, k ≠ 0 → ms'.1 k = ms.1 k) : Rep fx σ x G ms' := by
  obtain ⟨Z, F, N, R, W, K, S, T⟩ := P
  have e : ∀ k j, ms'.2.1 k j = ms.2.1 k j := fun k j => by rw [h2]
  exact ⟨Z, F, N.to Sm.rf (h1 1 (by omega)) (h1 2 (by omega)) (h1 28 (by omega)) (h1 39 (by omega)) (h1 40 (by omega)) (h1 41 (by omega)), R.to Sm.rf Sm.rf (h1 36 (by omega)) (h1 42 (by omega)) (e 37), W.to Sm.rf Sm.rf (h1 1 (by omega)) (e 26) (e 27), K.to Sm.rf (fun _ _ => Sm.rf) (h1 28 (by omega)) (fun k j _ _ => e k j), S.to Sm.rf (fun _ _ => Sm.rf) (fun _ _ _ => Sm.rf) (h1 1 (by omega)) (fun k j _ _ => e k j) (by rw [h2]), T.to Sm.rf (fun _ _ => Sm.rf) (h1 1 (by omega)) (fun k j _ _ => e k j)⟩
theorem Rep.cd (P : Rep fx σ x G ms) (v : Int32) : Rep fx σ x G (k_pI ms 0 v) := P.ms1 rfl (fun k hk => pI_n1 hk)
/-- nothing but the other side's cells has changed -/
theorem Rep.fr (P : Rep fx σ x G ms) (Z' : Zx σ' x) (hs : ∀ b, b < x + 15 ∨ x + 49 < b → Sm σ σ' b) : Rep fx σ' x G ms := by
  obtain ⟨Z, F, N, R, W, K, S, T⟩ := P
  have ht : ∀ b, h_tg σ b ≠ 11 → h_tg σ b ≠ 100 → h_tg σ b ≠ 101 → h_tg σ b ≠ 102 → Sm σ σ' b := by
    intro b g1 g2 g3 g4
    refine hs b ?_
    by_cases e : b < x + 15 ∨ x + 49 < b
    · exact e
    · have := Z.2.2 b (by omega) (by omega)
      rcases this with h | h | h | h
      · exact absurd h g1
      · exact absurd h g2
      · exact absurd h g3
      · exact absurd h g4
  refine ⟨Z', F.to ⟨fun b hb => ⟨(hs b (by omega)).1, (hs b (by omega)).2.1⟩, (hs x (by omega)).2.2.2.1, (hs _ (by omega)).2.2.2.1, (hs _ (by omega)).2.2.2.1⟩, N.to (hs x (by omega)) rfl rfl rfl rfl rfl rfl, R.to (hs _ (by omega)) (hs _ (by omega)) rfl rfl (fun _ => rfl), W.to (hs _ (by omega)) (hs _ (by omega)) rfl (fun _ => rfl) (fun _ => rfl), K.to (hs _ (by omega)) (fun b hb => ht b (by rw [hb]; decide) (by rw [hb]; decide) (by rw [hb]; decide) (by rw [hb]; decide)) rfl (fun _ _ _ _ => rfl), S.to (hs _ (by omega)) (fun b hb => ?_) (fun i hi hp => hs _ (S.2.1 i hi hp)) rfl (fun _ _ _ _ => rfl) rfl, T.to (hs _ (by omega)) (fun b hb => ?_) rfl (fun _ _ _ _ => rfl)⟩
  · exact ht b (by rcases hb with h | h | h | h <;> rw [h] <;> decide) (by rcases hb with h | h | h | h <;> rw [h] <;> decide) (by rcases hb with h | h | h | h <;> rw [h] <;> decide) (by rcases hb with h | h | h | h <;> rw [h] <;> decide)
  · exact ht b (by rcases hb with h | h | h | h | h | h <;> rw [h] <;> decide) (by rcases hb with h | h | h | h | h | h <;> rw [h] <;> decide) (by rcases hb with h | h | h | h | h | h <;> rw [h] <;> decide) (by rcases hb with h | h | h | h | h | h <;> rw [h] <;> decide)
theorem Rep_bump (P : Rep fx σ x G ms) {z w : Nat} (hz : h_sz σ ≤ z) : Rep fx (h_bump σ z w) x G ms := by
  have h50 := P.1.1
  refine P.fr ⟨?_, fun a ha => ?_, P.1.2.2⟩ (fun b _ => Sm_B)
  · show x + 50 ≤ z
    omega
  · have ha' : z ≤ a := ha
    exact P.1.2.1 a (by omega)
theorem Rep_MF (P : Rep fx σ x G ms) (F : MF σ σ' (x + 15) (kA (x + 15))) : Rep fx σ' x G ms := by
  have hs : ∀ b, b < x + 15 ∨ x + 49 < b → Sm σ σ' b := fun b hb => Sm_MF F (by omega) (fun k hk => by have := kA_lt (m := x + 15) hk; omega)
  obtain ⟨f1, f2, f3, f4, -⟩ := id F
  exact P.fr ⟨by rw [f4]; exact P.1.1, by rw [f4, f1]; exact P.1.2.1, by rw [f1]; exact P.1.2.2⟩ hs
theorem Rep_out (P : Rep fx σ x G ms) {k : Nat} {v : Int64} : Rep fx (h_setL σ (x + 49) k v) x G ms := P.fr P.1 (fun b hb => Sm_L (by omega))
/-- the cell for the answer -/
def OC (σ : HS) (x : Nat) : Prop := h_tg σ (x + 49) = 101 ∧ h_ln σ (x + 49) = 1
theorem Kq.oc {d s : Nat} (h : Kq x d s σ σ') (o : OC σ x) : OC σ' x := by
  have e := h.2.2.2.2.2 (x + 49) (by omega) (by omega)
  exact ⟨by rw [e.1]; exact o.1, by rw [e.2.1]; exact o.2⟩
theorem OC_nA : x + 49 ≠ x + 15 ∧ ∀ k, k_tag k ≠ 0 → x + 49 ≠ kA (x + 15) k := ⟨by omega, fun k hk => by have := kA_lt (m := x + 15) hk; omega⟩
/-- what holds between two calls, but for the room and what is known of the reference -/
def Bt (fx : Bool) (σ : HS) (x : Nat) (ms : MS) : Prop := (∃ G, Rep fx σ x G ms) ∧ MV σ (x + 15) (kA (x + 15)) ms ∧ OC σ x
/-- how much has come -/
def Gw (dz ds : Nat) (σ σ' : HS) : Prop := h_sz σ ≤ h_sz σ' ∧ h_sz σ' ≤ h_sz σ + dz ∧ h_sl σ' ≤ h_sl σ + ds ∧ h_cz σ' = h_cz σ ∧ h_ck σ' = h_ck σ
theorem Kq.gw {d s : Nat} (h : Kq x d s σ σ') : Gw d s σ σ' := ⟨h.1, h.2.1, h.2.2.1, h.2.2.2.1, h.2.2.2.2.1⟩
theorem Gw.tr {d1 d2 s1 s2 : Nat} {σ1 σ2 : HS} (h : Gw d1 s1 σ σ1) (h' : Gw d2 s2 σ1 σ2) : Gw (d1 + d2) (s1 + s2) σ σ2 := by
  obtain ⟨a1, a2, a3, a4, a5⟩ := h
  obtain ⟨b1, b2, b3, b4, b5⟩ := h'
  exact ⟨by omega, by omega, by omega, by rw [b4, a4], by rw [b5, a5]⟩
theorem Gw.le {d d' s s' : Nat} (h : Gw d s σ σ') (h1 : d ≤ d') (h2 : s ≤ s') : Gw d' s' σ σ' := ⟨h.1, by have := h.2.1; omega, by have := h.2.2.1; omega, h.2.2.2⟩
theorem MF.gw {m : Nat} {A : Nat → Nat} (F : MF σ σ' m A) : Gw 0 0 σ σ' := by
  obtain ⟨-, -, -, f4, f5, f6, f7, -⟩ := F
  exact ⟨by omega, by omega, by omega, f6, f7⟩
theorem Bmp.gw (h : Bmp σ σ') : Gw 1 6 σ σ' := by
  obtain ⟨z, w, h1, h2, h3, rfl⟩ := h
  exact ⟨h1, h2, h3, rfl, rfl⟩
theorem Bmp.rep (h : Bmp σ σ') (P : Rep fx σ x G ms) : Rep fx σ' x G ms := by
  obtain ⟨z, w, h1, h2, h3, rfl⟩ := h
  exact Rep_bump P h1
theorem Bmp.oc (h : Bmp σ σ') (o : OC σ x) : OC σ' x := by
  obtain ⟨z, w, h1, h2, h3, rfl⟩ := h
  exact o
theorem MF.oc (F : MF σ σ' (x + 15) (kA (x + 15))) (o : OC σ x) : OC σ' x := ⟨by rw [F.1]; exact o.1, by rw [F.2.1]; exact o.2⟩
/-- a call without an answer -/
theorem stepV {cd : Nat → Option Int32} {F9 : Option (Except Nat Unit × HS)} {F10 : HS → Option (Unit × HS)} {r : Except Nat Unit} {c0 : Int32} {p : Option (Unit × MS)} {σ1 : HS} {dz ds : Nat} (h : Bt fx σ x ms) (h9 : F9 = some (r, σ1)) (hr : (r = .ok () ∧ c0 = 0) ∨ ∃ k, r = .error k ∧ cd k = some c0) (K : Kq x dz ds σ σ1) (hR : ∃ G, Rep fx σ1 x G ms') (hp : p = some ((), ms')) (hc : ms'.1 0 = c0) (lift : ∀ τ, MV τ (x + 15) (kA (x + 15)) ms → Rl τ (x + 15) (kA (x + 15)) (F10 τ) p) : lcV cd F9 F10 (some x) (some (x + 15)) σ (fun τ => Bt fx τ x ms' ∧ Gw (dz + 1) (ds + 6) σ τ) := by
  obtain ⟨⟨G, P⟩, V, o⟩ := h
  obtain ⟨G', P'⟩ := hR
  refine lcV_of P.2.1.1 h9 hr (K.mv V) hp hc lift (fun σ2 σ4 hh F V' => ?_)
  rcases hh with ⟨rfl, -⟩ | hb
  · exact ⟨⟨⟨G', Rep_MF P' F⟩, V', F.oc (K.oc o)⟩, (K.gw.tr F.gw).le (by omega) (by omega)⟩
  · exact ⟨⟨⟨G', Rep_MF (hb.rep P') F⟩, V', F.oc (hb.oc (K.oc o))⟩, ((K.gw.tr hb.gw).tr F.gw).le (by omega) (by omega)⟩
/-- a call with an answer -/
theorem stepI {cd : Nat → Option Int32} {F9 : Option (Except Nat Int32 × HS)} {F10 : HS → Option (Int32 × HS)} {r : Except Nat Int32} {v c0 : Int32} {p : Option (Int32 × MS)} {σ1 : HS} {dz ds : Nat} (h : Bt fx σ x ms) (h9 : F9 = some (r, σ1)) (hr : (r = .ok v ∧ c0 = 0) ∨ ∃ k, r = .error k ∧ cd k = some c0 ∧ ¬ c0 = 0) (K : Kq x dz ds σ σ1) (hR : ∃ G, Rep fx σ1 x G ms') (hp : p = some (v, ms')) (hc : ms'.1 0 = c0) (lift : ∀ τ, MV τ (x + 15) (kA (x + 15)) ms → Rl τ (x + 15) (kA (x + 15)) (F10 τ) p) : lcI cd F9 F10 (some x) (some (x + 15)) (some (x + 49)) σ (fun τ => Bt fx τ x ms' ∧ Gw (dz + 1) (ds + 6) σ τ) := by
  obtain ⟨⟨G, P⟩, V, o⟩ := h
  obtain ⟨G', P'⟩ := hR
  refine lcI_of P.2.1.1 (K.oc o) OC_nA h9 hr (K.mv V) hp hc lift (fun σ2 σ4 hh F V' => ?_)
  rcases hh with ⟨rfl, -⟩ | hb
  · exact ⟨⟨⟨G', Rep_MF (Rep_out P') F⟩, V', F.oc (K.oc o)⟩, (K.gw.tr F.gw).le (by omega) (by omega)⟩
  · exact ⟨⟨⟨G', Rep_MF (hb.rep P') F⟩, V', F.oc (hb.oc (K.oc o))⟩, ((K.gw.tr hb.gw).tr F.gw).le (by omega) (by omega)⟩
/-- a call that throws nothing -/
theorem stepN {F9 : Option (Int32 × HS)} {F10 : HS → Option (Int32 × HS)} {v : Int32} {p : Option (Int32 × MS)} (h : Bt fx σ x ms) (h9 : F9 = some (v, σ)) (hp : p = some (v, ms')) (hms : ms' = okM ms) (lift : Rl σ (x + 15) (kA (x + 15)) (F10 σ) p) : lcN F9 F10 (some x) (some (x + 15)) σ (fun τ => Bt fx τ x ms' ∧ Gw 1 6 σ τ) := by
  obtain ⟨⟨G, P⟩, V, o⟩ := h
  refine lcN_of P.2.1.1 h9 V hp lift (fun σ4 F V' => ⟨⟨⟨G, Rep_MF ?_ F⟩, V', F.oc o⟩, F.gw.le (by omega) (by omega)⟩)
  rw [hms]
  exact P.cd 0
end GLU
end
/-! from 78.callsa -/
section
/-! CALLS, with all that they leave: the row, time, packets, sites, servers -/
def Rm (σ : HS) : Prop := h_sz σ + 64 ≤ h_cz σ ∧ h_sl σ + 512 ≤ h_ck σ
theorem Rm.thr {σ : HS} (h : Rm σ) {α : Type} (k : Nat) : (h_thr k σ : Option (Except Nat α × HS)) = some (.error k, σ) := thr_of (by have := h.1; omega) (by have := h.2; omega)
theorem okM_cong {ms : MS} {v w : Int32} : ∀ k, k ≠ 0 → (k_pI ms 0 v).1 k = (k_pI ms 0 w).1 k := fun k hk => by rw [pI_n1 hk, pI_n1 hk]
theorem Kq_setR {x d s a k : Nat} {σ σ' : HS} {v : Option Nat} (h : Kq x d s σ σ') (ha : a < x + 15) : Kq x d s σ (h_setR σ' a k v) := ⟨h.1, h.2.1, h.2.2.1, h.2.2.2.1, h.2.2.2.2.1, fun c h1 h2 => (h.2.2.2.2.2 c h1 h2).tr (Sm_R (by omega))⟩
section CLA
variable {fx : Bool} {σ σ' : HS} {x : Nat} {G : Nat → Nat → Nat} {ms ms' : MS}
/-- the row alone has changed -/
theorem Rep_row (P : Rep fx σ x G ms) (W : WI [x + 10, x + 11, x + 12, x + 13] σ σ') (R : Rx fx σ' x ms') (e1 : ∀ k, k ≠ 36 → k ≠ 42 → k ≠ 0 → ms'.1 k = ms.1 k) (e2 : ∀ k j, k ≠ 37 → k ≠ 38 → ms'.2.1 k j = ms.2.1 k j) (e3 : ms'.2.2 = ms.2.2) : Rep fx σ' x G ms' := by
  obtain ⟨Z, F, N, -, Wn, K, S, T⟩ := P
  have hL : ∀ a, a ∈ [x + 10, x + 11, x + 12, x + 13] → h_tg σ a = 6 ∨ h_tg σ a = 100 := by
    intro a ha
    simp only [List.mem_cons, List.mem_nil_iff, or_false] at ha
    rcases ha with rfl | rfl | rfl | rfl
    · exact Or.inl F.rw6
    · exact Or.inr F.c100
    · exact Or.inr F.h100
    · exact Or.inr F.d100
  refine ⟨Zx_WI W Z, W.fx F, N.to (W.sm (by simp)) (e1 _ (by decide) (by decide) (by decide)) (e1 _ (by decide) (by decide) (by decide)) (e1 _ (by decide) (by decide) (by decide)) (e1 _ (by decide) (by decide) (by decide)) (e1 _ (by decide) (by decide) (by decide)) (e1 _ (by decide) (by decide) (by decide)), R, Wn.to (W.sm (by simp)) (W.sm (by simp)) (e1 _ (by decide) (by decide) (by decide)) (fun j => e2 _ _ (by decide) (by decide)) (fun j => e2 _ _ (by decide) (by decide)), Kx_WI K F W (fun a ha => ?_) (e1 _ (by decide) (by decide) (by decide)) (fun k j h1 h2 => e2 k j (by omega) (by omega)), Sx_WI S F W (fun a ha => ?_) (e1 _ (by decide) (by decide) (by decide)) (fun k j h1 h2 => e2 k j (by omega) (by omega)) e3, Tx_WI T F W (fun a ha => ?_) (e1 _ (by decide) (by decide) (by decide)) (fun k j h1 h2 => e2 k j (by omega) (by omega))⟩
  · rcases hL a ha with h | h <;> rw [h] <;> decide
  · rcases hL a ha with h | h <;> rw [h] <;> decide
  · rcases hL a ha with h | h <;> rw [h] <;> decide
theorem Kq_row (P : Rep fx σ x G ms) (W : WI [x + 10, x + 11, x + 12, x + 13] σ σ') : Kq x 0 0 σ σ' := (Kp_WI P.1 W (fun a ha => by simp only [List.mem_cons, List.mem_nil_iff, or_false] at ha; exact Or.inl (by omega))).q
theorem rowHas (P : Rep fx σ x G ms) {n : Nat} (hn : ms.1 36 = nI n) (h : n ≤ 200) (k : Int32) : h_gR σ (some x) 10 4 = some (some (x + 10)) ∧ h_rcv σ (some (x + 10)) 6 = some (x + 10) ∧ f_X5_has σ (some (x + 10)) k = some (b2i (msgB n k), σ) := by
  obtain ⟨-, F, -, R, -⟩ := P
  exact ⟨by rw [gR_s F.1, F.rRow], rcv_s F.rw6, c_has F R hn h k⟩
theorem k_drop (h : Bt fx σ x ms) (hm : Rm σ) {n : Nat} (hn : ms.1 36 = nI n) (hn2 : n ≤ 200) (a : Int32) : lcV cdL_drop (f_X9_drop σ (some x) a) (fun τ => f_X10_drop τ (some (x + 15)) a) (some x) (some (x + 15)) σ (fun τ => Bt fx τ x (if msgB n a = true then takeM (okM ms) n a.toNatClampNeg else noM ms) ∧ Gw (0 + 1) (0 + 6) σ τ) := by
  obtain ⟨G, P⟩ := h.1
  obtain ⟨r1, r2, r3⟩ := rowHas P hn hn2 a
  have hp := p_drop_eq ms a hn hn2
  by_cases hb : msgB n a = true
  · obtain ⟨k, hk, rfl⟩ := msgB_some hn2 hb
    rw [if_pos hb] at hp ⊢
    rw [nI_clamp (by omega)] at hp ⊢
    obtain ⟨σ1, c1, c2, c3⟩ := c_remove P.2.1 P.2.2.2.1 hn hn2 hk
    have W : WI [x + 10, x + 11, x + 12, x + 13] σ σ1 := c2.up (fun b hb => by simp only [List.mem_cons, List.mem_nil_iff, or_false] at hb ⊢; omega)
    refine stepV h (σ1 := σ1) (r := .ok ()) (c0 := 0) ?_ (Or.inl ⟨rfl, rfl⟩) (Kq_row P W) ⟨G, ?_⟩ hp ?_ (fun τ V => q_X10_drop V (nI k))
    · unfold f_X9_drop
      rw [r1, h_b1_s, r2, h_b1_s, r3, h_bd_s, hb, if_neg (by decide), r1, h_b1_s, r2, h_b1_s, c1, h_bd_s]
    · have P1 : Rep fx σ1 x G (takeM ms n k) := Rep_row P W c3 (fun q h1 _ _ => takeM_s h1) (fun q j h1 h2 => takeM_k h1 h2) rfl
      refine P1.ms1 rfl (fun q hq => ?_)
      by_cases e : q = 36
      · rw [e, takeM_36, takeM_36]
      · rw [takeM_s e, takeM_s e, okM_1 hq]
    · rw [takeM_s (by decide)]
      exact okM_0
  · have hb' : msgB n a = false := by cases hx : msgB n a with
      | false => rfl
      | true => exact absurd hx hb
    rw [if_neg hb] at hp ⊢
    refine stepV h (σ1 := σ) (r := .error 3) (c0 := 1) ?_ (Or.inr ⟨3, rfl, rfl⟩) Kq.rf ⟨G, P.cd 1⟩ hp noM_0 (fun τ V => q_X10_drop V a)
    unfold f_X9_drop
    rw [r1, h_b1_s, r2, h_b1_s, r3, h_bd_s, hb', if_pos (by rfl), hm.thr]
theorem k_repeat (h : Bt fx σ x ms) (hm : Rm σ) {n : Nat} (hn : ms.1 36 = nI n) (hn2 : n ≤ 200) (a : Int32) : lcV cdL_repeat (f_X9_repeat σ (some x) a) (fun τ => f_X10_repeat τ (some (x + 15)) a) (some x) (some (x + 15)) σ (fun τ => Bt fx τ x (if msgB n a = true then postM (okM ms) n (fun j => ms.2.1 37 (8 * a.toNatClampNeg + (if j < 8 then j else 7))) else noM ms) ∧ Gw (0 + 1) (0 + 6) σ τ) := by
  obtain ⟨G, P⟩ := h.1
  obtain ⟨r1, r2, r3⟩ := rowHas P hn hn2 a
  have hp := p_repeat_eq ms a hn hn2
  by_cases hb : msgB n a = true
  · obtain ⟨k, hk, rfl⟩ := msgB_some hn2 hb
    rw [if_pos hb] at hp ⊢
    rw [nI_clamp (by omega)] at hp ⊢
    obtain ⟨σ1, c1, c2, c3⟩ := c_addAgain P.2.1 P.2.2.2.1 hn hn2 hk
    have W : WI [x + 10, x + 11, x + 12, x + 13] σ σ1 := c2.up (fun b hb => by simp only [List.mem_cons, List.mem_nil_iff, or_false] at hb ⊢; omega)
    refine stepV h (σ1 := σ1) (r := .ok ()) (c0 := 0) ?_ (Or.inl ⟨rfl, rfl⟩) (Kq_row P W) ⟨G, ?_⟩ hp ?_ (fun τ V => q_X10_repeat V (nI k))
    · unfold f_X9_repeat
      rw [r1, h_b1_s, r2, h_b1_s, r3, h_bd_s, hb, if_neg (by decide), r1, h_b1_s, r2, h_b1_s, c1, h_bd_s]
    · have P1 : Rep fx σ1 x G (postM ms n (fun j => ms.2.1 37 (8 * k + (if j < 8 then j else 7)))) := Rep_row P W c3 (fun q h1 h2 _ => postM_s h1 h2) (fun q j h1 _ => postM_k h1) postM_L
      refine P1.ms1 ?_ (fun q hq => ?_)
      · unfold postM
        split <;> rfl
      · by_cases e : q = 36
        · rw [e, postM_36 hn, postM_36 (ms := okM ms) (by rw [okM_1 (by decide)]; exact hn)]
        · by_cases e2 : q = 42
          · rw [e2]
            unfold postM
            by_cases e3 : n = 200
            · rw [if_pos e3, if_pos e3, pI_s1, pI_s1, okM_1 (by decide)]
            · rw [if_neg e3, if_neg e3, pI_n1 (by decide), pI_n1 (by decide)]
              exact okM_1 (k := 42) (by decide)
          · rw [postM_s e e2, postM_s e e2, okM_1 hq]
    · rw [postM_s (by decide) (by decide)]
      exact okM_0
  · have hb' : msgB n a = false := by cases hx : msgB n a with
      | false => rfl
      | true => exact absurd hx hb
    rw [if_neg hb] at hp ⊢
    refine stepV h (σ1 := σ) (r := .error 3) (c0 := 1) ?_ (Or.inr ⟨3, rfl, rfl⟩) Kq.rf ⟨G, P.cd 1⟩ hp noM_0 (fun τ V => q_X10_repeat V a)
    unfold f_X9_repeat
    rw [r1, h_b1_s, r2, h_b1_s, r3, h_bd_s, hb', if_pos (by rfl), hm.thr]
/-- a field becomes v -/
theorem Rx_forge (R : Rx fx σ x ms) {n f k i : Nat} {v : Int32} (hn : ms.1 36 = nI n) (hn2 : n ≤ 200) (hf : h_iv σ (x + 10) 1 = nI f) (hf2 : f < 200) (hk : k < n) (hi : i < 6) : Rx fx (h_setI σ (x + 11) (8 * ring f k + i) v) x (aS ms 37 (8 * k + i) v) := by
  obtain ⟨f', n', a1, a2, a3, a4, a5, a6, a7⟩ := R
  have en : n' = n := (nI_eq (by omega) (by omega)).mp (a5.symm.trans hn)
  have ef : f' = f := (nI_eq (by omega) (by omega)).mp (a3.symm.trans hf)
  subst en
  subst ef
  refine ⟨f', n', a1, a2, by rw [iv_sIa (by omega)]; exact a3, by rw [iv_sIa (by omega)]; exact a4, a5, by rw [iv_sIa (by omega)]; exact a6, fun q j hq hj => ?_⟩
  rw [aS_j (show 8 * q + 6 ≠ 8 * k + i by omega)]
  by_cases e : 8 * q + j = 8 * k + i
  · have eq : q = k := by omega
    have ej : j = i := by omega
    subst eq
    subst ej
    right
    rw [aS_s]
    exact iv_sI
  · rw [aS_j e]
    rcases a7 q j hq hj with h | h
    · exact Or.inl h
    · right
      rw [← h]
      unfold cel
      refine iv_sIk (fun z => e ?_)
      have r1 := ring_lt f' q
      have r2 : ring f' q = ring f' k ∧ j = i := by omega
      have r3 := ring_inj (show q < 200 by omega) (show k < 200 by omega) r2.1
      omega
theorem k_forge (h : Bt fx σ x ms) (hm : Rm σ) {n : Nat} (hn : ms.1 36 = nI n) (hn2 : n ≤ 200) (a b c : Int32) : lcV cdL_forge (f_X9_forge σ (some x) a b c) (fun τ => f_X10_forge τ (some (x + 15)) a b c) (some x) (some (x + 15)) σ (fun τ => Bt fx τ x (if (msgB n a && decide (0 ≤ b ∧ b ≤ 5)) = true then aS (okM ms) 37 (8 * a.toNatClampNeg + b.toNatClampNeg) c else noM ms) ∧ Gw (0 + 1) (0 + 6) σ τ) := by
  obtain ⟨G, P⟩ := h.1
  obtain ⟨r1, r2, r3⟩ := rowHas P hn hn2 a
  have hp := p_forge_eq ms a b c hn hn2
  by_cases hb : (msgB n a && decide (0 ≤ b ∧ b ≤ 5)) = true
  · rw [if_pos hb] at hp ⊢
    obtain ⟨hb1, hb2⟩ := (Bool.and_eq_true _ _).mp hb
    have hb3 := of_decide_eq_true hb2
    obtain ⟨k, hk, rfl⟩ := msgB_some hn2 hb1
    obtain ⟨i, hi, rfl⟩ := nI_of2 (M := 5) (n := 5) (by decide) (Int32.not_lt.mpr hb3.1) hb3.2
    rw [nI_clamp (n := k) (by omega), nI_clamp (n := i) (by omega)] at hp ⊢
    obtain ⟨f, n', a1, a2, a3, a4, a5, a6, a7⟩ := id P.2.2.2.1
    have en : n' = n := (nI_eq (by omega) (by omega)).mp (a5.symm.trans hn)
    have cs := c_set P.2.1 (v := c) (q := k) (j := i) a3 a1 (by omega) (by omega)
    have W : WI [x + 10, x + 11, x + 12, x + 13] σ (h_setI σ (x + 11) (8 * ring f k + i) c) := WI_I (by simp)
    refine stepV h (σ1 := h_setI σ (x + 11) (8 * ring f k + i) c) (r := .ok ()) (c0 := 0) ?_ (Or.inl ⟨rfl, rfl⟩) (Kq_row P W) ⟨G, ?_⟩ hp (okM_0 (ms := ms)) (fun τ V => q_X10_forge V (nI k) (nI i) c)
    · unfold f_X9_forge
      rw [r1, h_b1_s, r2, h_b1_s, r3, h_bd_s, hb1, if_neg (by decide), if_neg (nI_pos (by omega)), if_pos (show nI i < 6 from nI_lt (a := i) (b := 6) (by omega) (by decide)), r1, h_b1_s, r2, h_b1_s, cs, h_bd_s]
    · have P1 : Rep fx (h_setI σ (x + 11) (8 * ring f k + i) c) x G (aS ms 37 (8 * k + i) c) := Rep_row P W (Rx_forge P.2.2.2.1 hn hn2 a3 a1 hk (by omega)) (fun _ _ _ _ => rfl) (fun q j h1 _ => aS_k h1) rfl
      exact P1.ms1 rfl (fun q hq => okM_1 hq)
  · rw [if_neg hb] at hp ⊢
    refine stepV h (σ1 := σ) (r := .error 3) (c0 := 1) ?_ (Or.inr ⟨3, rfl, rfl⟩) Kq.rf ⟨G, P.cd 1⟩ hp noM_0 (fun τ V => q_X10_forge V a b c)
    unfold f_X9_forge
    rw [r1, h_b1_s, r2, h_b1_s, r3, h_bd_s]
    cases hb1 : msgB n a with
    | false => rw [if_pos (by rfl), hm.thr]
    | true =>
      rw [hb1, Bool.true_and] at hb
      rw [if_neg (by decide)]
      by_cases h1 : b < 0
      · rw [if_pos h1, hm.thr]
      · rw [if_neg h1]
        by_cases h2 : b < 6
        · refine absurd (decide_eq_true ⟨Int32.not_lt.mp h1, ?_⟩) hb
          obtain ⟨i, hi, rfl⟩ := nI_of2 (M := 6) (n := 6) (by decide) h1 (Int32.le_of_lt h2)
          have : i < 6 := Nat.lt_of_not_le (fun z => absurd h2 (nI_nlt (a := i) (b := 6) z (by omega)))
          exact nI_le (a := i) (b := 5) (by omega) (by decide)
        · rw [if_neg h2, hm.thr]
theorem k_pass (h : Bt fx σ x ms) (hm : Rm σ) {t : Nat} (ht : ms.1 1 = nI t) (ht2 : t ≤ 1000000) (a : Int32) : lcV cdL_pass (f_X9_pass σ (some x) a) (fun τ => f_X10_pass τ (some (x + 15)) a) (some x) (some (x + 15)) σ (fun τ => Bt fx τ x (if passB ms a = true then k_pI (okM ms) 1 (ms.1 1 + a) else noM ms) ∧ Gw (0 + 1) (0 + 6) σ τ) := by
  obtain ⟨G, P⟩ := h.1
  have h9 := c_pass P.2.1 P.2.2.1 (hm.thr 1) a
  have hp := p_pass_eq ms a
  by_cases hb : passB ms a = true
  · rw [if_pos hb] at h9 hp ⊢
    obtain ⟨hb1, hb2⟩ := (Bool.and_eq_true _ _).mp hb
    have hb3 := of_decide_eq_true hb1
    have hb4 := of_decide_eq_true hb2
    obtain ⟨d, hd, rfl⟩ := nI_of2 (M := 1000) (n := 1000) (by decide) (fun z => absurd (Int32.lt_of_le_of_lt hb3.1 z) (by decide)) hb3.2
    rw [ht, nI_add] at h9 hp hb4 ⊢
    have hle : t + d ≤ 1000000 := Nat.le_of_not_lt (fun z => absurd hb4 (nI_ge (a := 1000000) (b := t + d) z (by omega)))
    have P1 := Rep_pass P ht (Nat.le_add_right t d) hle
    refine stepV h h9 (Or.inl ⟨rfl, rfl⟩) (Kp_x P).q ⟨G, P1.ms1 rfl (fun q hq => ?_)⟩ hp ?_ (fun τ V => q_X10_pass V (nI d))
    · by_cases e : q = 1
      · rw [e, pI_s1, pI_s1]
      · rw [pI_n1 e, pI_n1 e, okM_1 hq]
    · rw [pI_n1 (by decide)]
      exact okM_0
  · rw [if_neg hb] at h9 hp ⊢
    exact stepV h h9 (Or.inr ⟨1, rfl, rfl⟩) Kq.rf ⟨G, P.cd 1⟩ hp noM_0 (fun τ V => q_X10_pass V a)
theorem k_site (h : Bt fx σ x ms) (hm : Rm σ) (hab : ∀ s, s < 8 → ms.2.1 14 s = -1 → ms.2.1 15 s = 0 ∧ ms.2.1 18 s = 0 ∧ lL (fun q => nP (ms.1 1) q.1) (nM ms) (6 * s) 6 = []) (a b : Int32) : lcV cdL_site (f_X9_site σ (some x) a b) (fun τ => f_X10_site τ (some (x + 15)) a b) (some x) (some (x + 15)) σ (fun τ => Bt fx τ x (if siteMB ms a b = true then aS (okM ms) 14 a.toNatClampNeg b else noM ms) ∧ Gw (4 + 1) (17 + 6) σ τ) := by
  obtain ⟨G, P⟩ := h.1
  have h9 := c_site P (by have := hm.1; omega) (by have := hm.2; omega) a b
  have hp := p_site_eq ms a b
  by_cases hb : siteMB ms a b = true
  · rw [if_pos hb] at h9 hp ⊢
    unfold siteMB at hb
    obtain ⟨hb1, hb'⟩ := (Bool.and_eq_true _ _).mp hb
    obtain ⟨hb2, hb''⟩ := (Bool.and_eq_true _ _).mp hb'
    obtain ⟨hb3, -⟩ := (Bool.and_eq_true _ _).mp hb''
    have g1 := of_decide_eq_true hb1
    have g3 := of_decide_eq_true hb3
    obtain ⟨s, hs, rfl⟩ := nI_of2 (M := 7) (n := 7) (by decide) (Int32.not_lt.mpr g1.1) g1.2
    rw [nI_clamp (by omega)] at h9 hp hb2 ⊢
    have g2 := of_decide_eq_true hb2
    obtain ⟨e1, e2, e3⟩ := hab s (by omega) g2
    have P1 := Rep_site P (s := s) (by omega) g2 e1 e2 e3 (pl := b) (fun z => by rw [z] at g3; exact absurd g3.1 (by decide))
    have K1 := Kq_rpl P (sTx b) (dz := 4) (ds := 17) (by exact Nat.le_refl 4) (by exact Nat.le_refl 17)
    have K2 := Kq_setR (a := x + 7) (k := s) (v := some (h_sz σ + 0)) K1 (by omega)
    exact stepV h h9 (Or.inl ⟨rfl, rfl⟩) K2 ⟨_, P1.ms1 rfl (fun q hq => okM_1 hq)⟩ hp (okM_0 (ms := ms)) (fun τ V => q_X10_site V (nI s) b)
  · rw [if_neg hb] at h9 hp ⊢
    exact stepV h h9 (Or.inr ⟨1, rfl, rfl⟩) (Kq.rf.le (by omega) (by omega)) ⟨G, P.cd 1⟩ hp noM_0 (fun τ V => q_X10_site V a b)
theorem k_delegate (h : Bt fx σ x ms) (hm : Rm σ) (Tt : Tr ms) (hab : ∀ i, i < 8 → ms.2.1 3 i = 0 → eL (ms.1 1) (eM ms) (16 * i) 16 = [] ∧ ∀ s, s < 8 → ms.2.2 (8 * i + s) = -3000000000) (p c b l : Int32) : lcV cdL_delegate (f_X9_delegate σ (some x) p c b l) (fun τ => f_X10_delegate τ (some (x + 15)) p c b l) (some x) (some (x + 15)) σ (fun τ => Bt fx τ x (if delB ms p c b l = true then dlgM (okM ms) c.toNatClampNeg b l p else noM ms) ∧ Gw (4 + 1) (31 + 6) σ τ) := by
  obtain ⟨G, P⟩ := h.1
  obtain ⟨r, σ1, h9, hh⟩ := c_delegate P Tt (by have := hm.1; omega) (by have := hm.2; omega) p c b l
  have hp := p_delegate_eq ms p c b l Tt.2.1
  rcases hh with ⟨h1, rfl, rfl⟩ | ⟨h1, rfl, h2⟩
  · rw [if_pos h1] at hp ⊢
    have hb := h1
    unfold delB at hb
    obtain ⟨-, hb'⟩ := (Bool.and_eq_true _ _).mp hb
    obtain ⟨hb2, hb''⟩ := (Bool.and_eq_true _ _).mp hb'
    obtain ⟨hb3, hb4⟩ := (Bool.and_eq_true _ _).mp hb''
    obtain ⟨hb5, -⟩ := (Bool.and_eq_true _ _).mp hb4
    have g2 := of_decide_eq_true hb2
    have g3 := of_decide_eq_true hb3
    obtain ⟨k, hk, rfl⟩ := nI_of2 (M := 7) (n := 7) (by decide) (Int32.not_lt.mpr g2.1) g2.2
    obtain ⟨n, hn, rfl, hv⟩ := vpB_nI hb5
    rw [nI_clamp (by omega)] at h9 hp g3 ⊢
    obtain ⟨e1, e2⟩ := hab k (by omega) g3
    have P1 := Rep_server P (k := k) (n := n) (b := b) (p := p) (by omega) g3 hn hv e1 e2
    have K1 := Kq_rpl P (pSx b (nI n) (nI k) p) (dz := 4) (ds := 31) (by exact Nat.le_refl 4) (by exact Nat.le_refl 31)
    have K2 := Kq_setR (a := x + 2) (k := k) (v := some (h_sz σ + 1)) K1 (by omega)
    exact stepV h h9 (Or.inl ⟨rfl, rfl⟩) K2 ⟨_, P1.ms1 rfl (fun q hq => okM_1 hq)⟩ hp (okM_0 (ms := ms)) (fun τ V => q_X10_delegate V p (nI k) b (nI n))
  · rw [h1, if_neg (by decide)] at hp
    rw [h1, if_neg (by decide)]
    rcases h2 with rfl | rfl
    · exact stepV h h9 (Or.inr ⟨1, rfl, rfl⟩) (Kq.rf.le (by omega) (by omega)) ⟨G, P.cd 1⟩ hp noM_0 (fun τ V => q_X10_delegate V p c b l)
    · exact stepV h h9 (Or.inr ⟨1, rfl, rfl⟩) ((Kq_rpl P _ (dz := 1) (ds := 2) (by exact Nat.le_refl 1) (by exact Nat.le_refl 2)).le (by omega) (by omega)) ⟨G, (P.ext (Ext_rpl P.n0 _)).cd 1⟩ hp noM_0 (fun τ V => q_X10_delegate V p c b l)
theorem k_packet (h : Bt fx σ x ms) (hm : Rm σ) {np : Nat} (hnp : ms.1 28 = nI np) (hnp2 : np ≤ 200) (a w : Int32) : lcI cdL_packet (f_X9_packet σ (some x) a w) (fun τ => f_X10_packet τ (some (x + 15)) a w) (some x) (some (x + 15)) (some (x + 49)) σ (fun τ => Bt fx τ x (if decide (1 ≤ a ∧ a ≤ nI np) = true then okM ms else noM ms) ∧ Gw (0 + 1) (0 + 6) σ τ) := by
  obtain ⟨G, P⟩ := h.1
  have hat := c_packetAt P.2.1 P.2.2.1 P.2.2.2.2.2.1 a
  rw [hnp] at hat
  have hp := p_packet_eq ms a w hnp hnp2
  by_cases hb : decide (1 ≤ a ∧ a ≤ nI np) = true
  · rw [if_pos hb] at hp hat ⊢
    have g := of_decide_eq_true hb
    obtain ⟨i, hi, rfl⟩ := nI_of2 (M := nI np) (n := np) (nI_toInt (by omega)) (fun z => absurd (Int32.lt_of_le_of_lt g.1 z) (by decide)) g.2
    have hi1 : 1 ≤ i := Nat.pos_of_ne_zero (fun z => by rw [z] at g; exact absurd g.1 (by decide))
    rw [nI_clamp (by omega)] at hp hat
    obtain ⟨t1, -, -, -, v3, -, v5, v6, v7⟩ := pkt P hnp hnp2 (i := i - 1) (by omega)
    rw [show i - 1 + 1 = i by omega] at v3 v5 v6 v7
    refine stepI h (σ1 := σ) (r := .ok (pktV ms i w)) (c0 := 0) ?_ (Or.inl ⟨rfl, rfl⟩) Kq.rf ⟨G, P.cd 0⟩ hp okM_0 (fun τ V => q_X10_packet V (nI i) w)
    unfold f_X9_packet pktV
    rw [rcv_s P.2.1.1, h_b1_s, hat, h_bd_s, if_neg (fun z => by cases z)]
    by_cases h0 : w = 0
    · rw [if_pos h0, if_pos h0, gI_s t1, h_b1_s, v3]
    rw [if_neg h0, if_neg h0]
    by_cases h1 : w = 1
    · rw [if_pos h1, if_pos h1, gI_s t1, h_b1_s, v5]
    rw [if_neg h1, if_neg h1]
    by_cases h2 : w = 2
    · rw [if_pos h2, if_pos h2, gI_s t1, h_b1_s, v6]
    rw [if_neg h2, if_neg h2]
    by_cases h3 : w = 3
    · rw [if_pos h3, if_pos h3, gI_s t1, h_b1_s, v7]
    rw [if_neg h3, if_neg h3]
  · rw [if_neg hb] at hp hat ⊢
    refine stepI h (σ1 := σ) (r := .error 1) (c0 := 1) ?_ (Or.inr ⟨1, rfl, rfl, by decide⟩) Kq.rf ⟨G, P.cd 1⟩ hp noM_0 (fun τ V => q_X10_packet V a w)
    unfold f_X9_packet
    rw [rcv_s P.2.1.1, h_b1_s, hat, h_bd_s, if_pos rfl, hm.thr]
end CLA
end
/-! from 79.sites -/
section
/-! ONE SITE CHANGES: the others stay; a prefix comes, a site moves -/
theorem ff_isSome {P : Nat → Bool} {i c : Nat} : (ff P i c).isSome = true ↔ ∃ j, i ≤ j ∧ j < i + c ∧ P j = true := by
  constructor
  · intro h
    cases hf : ff P i c with
    | none => rw [hf] at h; cases h
    | some j =>
      obtain ⟨h1, h2, h3, -⟩ := ff_some.mp hf
      exact ⟨j, h1, h2, h3⟩
  · intro ⟨j, h1, h2, h3⟩
    cases hf : ff P i c with
    | none =>
      have := ff_none.mp hf j h1 h2
      rw [h3] at this
      cases this
    | some j => rfl
theorem ff_isSome_f {P : Nat → Bool} {i c : Nat} (h : ¬ ∃ j, i ≤ j ∧ j < i + c ∧ P j = true) : ff P i c = none := by
  cases hf : ff P i c with
  | none => rfl
  | some j => exact absurd (ff_isSome.mp (by rw [hf]; rfl)) h
section SIT
variable {fx : Bool} {σ σ' : HS} {x : Nat} {G : Nat → Nat → Nat} {ms ms' : MS}
/-- a site's cells are the same -/
theorem SiR.pt {s : Nat} (h : SiR fx σ G ms s) (s3 : Sm σ σ' (G 3 s)) (s4 : Sm σ σ' (G 4 s)) (s5 : Sm σ σ' (G 5 s)) (s6 : Sm σ σ' (G 6 s)) (h25 : ∀ b, h_tg σ b = 2 ∨ h_tg σ b = 5 → Sm σ σ' b) : SiR fx σ' G ms s := by
  obtain ⟨a1, a2, a3, a4, ⟨a5, a6, a7⟩, ⟨c, c1, c2, c3⟩, ⟨a8, a9⟩, ⟨b1, b2, b3⟩, z, z1, z2, z3, z4⟩ := h
  refine ⟨by rw [s3.1]; exact a1, by rw [s3.2.2.1]; exact a2, by rw [s3.2.2.1]; exact a3, by rw [s3.2.2.1]; exact a4, ⟨by rw [s3.2.2.2.1]; exact a5, by rw [s4.1]; exact a6, by rw [s4.2.1]; exact a7⟩, ⟨c, c1, c2, fun k hk => ?_⟩, ⟨by rw [s3.2.2.2.1]; exact a8, by rw [s5.1]; exact a9⟩, ⟨by rw [s5.2.2.2.1]; exact b1, by rw [s6.1]; exact b2, by rw [s6.2.1]; exact b3⟩, z, z1, by rw [s5.2.2.1]; exact z2, fun j hj => ?_, ?_⟩
  · obtain ⟨p, n, d1, d2, d3⟩ := c3 k hk
    exact ⟨p, n, by rw [s4.2.2.2.1]; exact d1, d2, d3.to (h25 p (Or.inr d3.1))⟩
  · obtain ⟨a, d1, d2⟩ := z3 j hj
    exact ⟨a, by rw [s6.2.2.2.1]; exact d1, (d2.to h25).1⟩
  · have ec : lL (nP (ms.1 1)) (nC σ' (G 6 s)) 0 z = lL (nP (ms.1 1)) (nC σ (G 6 s)) 0 z := by
      refine lL_congr z 0 (fun j _ hj => ?_)
      obtain ⟨a, d1, d2⟩ := z3 j (by omega)
      unfold nC
      rw [s6.2.2.2.1, d1]
      exact congrArg some (d2.to h25).2
    rw [ec]
    exact z4
def sTag (t : Nat) : Prop := t = 2 ∨ t = 3 ∨ t = 5 ∨ t = 8 ∨ t = 104 ∨ t = 106
theorem Tx_site (T : Tx fx σ x G ms) {s : Nat} (hs : s < 8) (hp : ¬ ms.2.1 14 s = -1) (h7 : Sm σ σ' (x + 7)) (hsm : ∀ b, sTag (h_tg σ b) → b ≠ G 3 s → b ≠ G 4 s → b ≠ G 5 s → b ≠ G 6 s → Sm σ σ' b) (I' : SiR fx σ' G ms' s) (hp' : ¬ ms'.2.1 14 s = -1) (e1 : ms'.1 1 = ms.1 1)
    (e14 : ∀ t, t < 8 → t ≠ s → ms'.2.1 14 t = ms.2.1 14 t ∧ ms'.2.1 15 t = ms.2.1 15 t ∧ ms'.2.1 18 t = ms.2.1 18 t) (e16 : ∀ t k, t < 8 → t ≠ s → k < 4 → ms'.2.1 16 (4 * t + k) = ms.2.1 16 (4 * t + k) ∧ ms'.2.1 17 (4 * t + k) = ms.2.1 17 (4 * t + k)) (en : ∀ t k j, t < 8 → t ≠ s → 19 ≤ k → k ≤ 24 → 6 * t ≤ j → j < 6 * t + 6 → ms'.2.1 k j = ms.2.1 k j) : Tx fx σ' x G ms' := by
  obtain ⟨t1, t2⟩ := T
  have hiff : ∀ t, t < 8 → (ms'.2.1 14 t = -1 ↔ ms.2.1 14 t = -1) := by
    intro t ht
    by_cases e : t = s
    · rw [e]; exact ⟨fun z => absurd z hp', fun z => absurd z hp⟩
    · rw [(e14 t ht e).1]
  refine ⟨fun i j hi hj p1 p2 h => t1 i j hi hj (fun z => p1 ((hiff i hi).mpr z)) (fun z => p2 ((hiff j hj).mpr z)) h, fun t ht => ⟨fun h => ?_, fun h => ?_⟩⟩
  · rw [h7.2.2.2.1]
    exact (t2 t ht).1 ((hiff t ht).mp h)
  · have h' : ¬ ms.2.1 14 t = -1 := fun z => h ((hiff t ht).mpr z)
    obtain ⟨r1, I⟩ := (t2 t ht).2 h'
    refine ⟨by rw [h7.2.2.2.1]; exact r1, ?_⟩
    by_cases e : t = s
    · rw [e]; exact I'
    · have Is := ((t2 s hs).2 hp).2
      obtain ⟨a1, -, -, -, ⟨-, a6, -⟩, -, ⟨-, a9⟩, ⟨-, b2, -⟩, -⟩ := id I
      obtain ⟨c1, -, -, -, ⟨-, c6, -⟩, -, ⟨-, c9⟩, ⟨-, d2, -⟩, -⟩ := id Is
      have ne : ∀ {b c : Nat}, h_tg σ b ≠ h_tg σ c → b ≠ c := fun h z => h (by rw [z])
      have n3 : G 3 t ≠ G 3 s := fun z => e (t1 t s ht hs h' hp (Or.inl z))
      have n4 : G 4 t ≠ G 4 s := fun z => e (t1 t s ht hs h' hp (Or.inr (Or.inl z)))
      have n5 : G 5 t ≠ G 5 s := fun z => e (t1 t s ht hs h' hp (Or.inr (Or.inr (Or.inl z))))
      have n6 : G 6 t ≠ G 6 s := fun z => e (t1 t s ht hs h' hp (Or.inr (Or.inr (Or.inr z))))
      have I1 : SiR fx σ' G ms t := I.pt (hsm _ (by rw [a1]; unfold sTag; omega) n3 (ne (by rw [a1, c6]; decide)) (ne (by rw [a1, c9]; decide)) (ne (by rw [a1, d2]; decide))) (hsm _ (by rw [a6]; unfold sTag; omega) (ne (by rw [a6, c1]; decide)) n4 (ne (by rw [a6, c9]; decide)) (ne (by rw [a6, d2]; decide))) (hsm _ (by rw [a9]; unfold sTag; omega) (ne (by rw [a9, c1]; decide)) (ne (by rw [a9, c6]; decide)) n5 (ne (by rw [a9, d2]; decide))) (hsm _ (by rw [b2]; unfold sTag; omega) (ne (by rw [b2, c1]; decide)) (ne (by rw [b2, c6]; decide)) (ne (by rw [b2, c9]; decide)) n6) (fun b hb => hsm b (by unfold sTag; omega) (ne (by rw [c1]; omega)) (ne (by rw [c6]; omega)) (ne (by rw [c9]; omega)) (ne (by rw [d2]; omega)))
      exact I1.num e1 (e14 t ht e).1 (e14 t ht e).2.1 (e14 t ht e).2.2 (fun k hk => (e16 t k ht e hk).1) (fun k hk => (e16 t k ht e hk).2) (fun k j h1 h2 h3 h4 => en t k j ht e h1 h2 h3 h4)
/-- all but the sites, when cells of one site alone have changed -/
theorem Rep_one (P : Rep fx σ x G ms) {s : Nat} (hs : s < 8) (hp : ¬ ms.2.1 14 s = -1) (Z' : Zx σ' x) (hsm : ∀ b, b ≠ G 3 s → b ≠ G 4 s → b ≠ G 5 s → b ≠ G 6 s → h_tg σ b ≠ 0 → Sm σ σ' b) (I' : SiR fx σ' G ms' s) (hp' : ¬ ms'.2.1 14 s = -1) (e1 : ∀ k, k ≠ 0 → k ≠ 25 → ms'.1 k = ms.1 k) (e2 : ∀ k j, k < 14 ∨ 24 < k → ms'.2.1 k j = ms.2.1 k j) (e3 : ms'.2.2 = ms.2.2)
    (e14 : ∀ t, t < 8 → t ≠ s → ms'.2.1 14 t = ms.2.1 14 t ∧ ms'.2.1 15 t = ms.2.1 15 t ∧ ms'.2.1 18 t = ms.2.1 18 t) (e16 : ∀ t k, t < 8 → t ≠ s → k < 4 → ms'.2.1 16 (4 * t + k) = ms.2.1 16 (4 * t + k) ∧ ms'.2.1 17 (4 * t + k) = ms.2.1 17 (4 * t + k)) (en : ∀ t k j, t < 8 → t ≠ s → 19 ≤ k → k ≤ 24 → 6 * t ≤ j → j < 6 * t + 6 → ms'.2.1 k j = ms.2.1 k j) : Rep fx σ' x G ms' := by
  obtain ⟨Z, F, N, R, W, K, S, T⟩ := P
  obtain ⟨c1, -, -, -, ⟨-, c6, -⟩, -, ⟨-, c9⟩, ⟨-, d2, -⟩, -⟩ := ((T.2 s hs).2 hp).2
  have ht : ∀ b, h_tg σ b ≠ 8 → h_tg σ b ≠ 106 → h_tg σ b ≠ 3 → h_tg σ b ≠ 104 → h_tg σ b ≠ 0 → Sm σ σ' b := fun b g1 g2 g3 g4 g5 => hsm b (fun z => g1 (by rw [z]; exact c1)) (fun z => g2 (by rw [z]; exact c6)) (fun z => g3 (by rw [z]; exact c9)) (fun z => g4 (by rw [z]; exact d2)) g5
  obtain ⟨f0, f1, f2, f3, f4, f5, f6, f7, f8, f9, f10, f11⟩ := id F
  have x0 : Sm σ σ' x := ht _ (by rw [f0]; decide) (by rw [f0]; decide) (by rw [f0]; decide) (by rw [f0]; decide) (by rw [f0]; decide)
  have x1 : Sm σ σ' (x + 1) := ht _ (by rw [f2.1]; decide) (by rw [f2.1]; decide) (by rw [f2.1]; decide) (by rw [f2.1]; decide) (by rw [f2.1]; decide)
  have x2 : Sm σ σ' (x + 2) := ht _ (by rw [f3.1]; decide) (by rw [f3.1]; decide) (by rw [f3.1]; decide) (by rw [f3.1]; decide) (by rw [f3.1]; decide)
  have x7 : Sm σ σ' (x + 7) := ht _ (by rw [f4.1]; decide) (by rw [f4.1]; decide) (by rw [f4.1]; decide) (by rw [f4.1]; decide) (by rw [f4.1]; decide)
  have x8 : Sm σ σ' (x + 8) := ht _ (by rw [f5.1]; decide) (by rw [f5.1]; decide) (by rw [f5.1]; decide) (by rw [f5.1]; decide) (by rw [f5.1]; decide)
  have x9 : Sm σ σ' (x + 9) := ht _ (by rw [f6.1]; decide) (by rw [f6.1]; decide) (by rw [f6.1]; decide) (by rw [f6.1]; decide) (by rw [f6.1]; decide)
  have x10 : Sm σ σ' (x + 10) := ht _ (by rw [f7.1]; decide) (by rw [f7.1]; decide) (by rw [f7.1]; decide) (by rw [f7.1]; decide) (by rw [f7.1]; decide)
  have x11 : Sm σ σ' (x + 11) := ht _ (by rw [f8.1]; decide) (by rw [f8.1]; decide) (by rw [f8.1]; decide) (by rw [f8.1]; decide) (by rw [f8.1]; decide)
  have x12 : Sm σ σ' (x + 12) := ht _ (by rw [f9.1]; decide) (by rw [f9.1]; decide) (by rw [f9.1]; decide) (by rw [f9.1]; decide) (by rw [f9.1]; decide)
  have x13 : Sm σ σ' (x + 13) := ht _ (by rw [f10.1]; decide) (by rw [f10.1]; decide) (by rw [f10.1]; decide) (by rw [f10.1]; decide) (by rw [f10.1]; decide)
  have x14 : Sm σ σ' (x + 14) := ht _ (by rw [f11.1]; decide) (by rw [f11.1]; decide) (by rw [f11.1]; decide) (by rw [f11.1]; decide) (by rw [f11.1]; decide)
  have F' : Fx σ' x := by
    unfold Fx
    rw [x0.1, x0.2.2.2.1, x0.2.2.2.1, x0.2.2.2.1, x0.2.2.2.1, x0.2.2.2.1, x0.2.2.2.1, x0.2.2.2.1, x0.2.2.2.1, x1.1, x1.2.2.2.1, x2.1, x2.2.1, x7.1, x7.2.1, x8.1, x8.2.1, x9.1, x9.2.1, x10.1, x10.2.2.2.1, x11.1, x11.2.1, x12.1, x12.2.1, x13.1, x13.2.1, x14.1, x14.2.1]
    exact F
  refine ⟨Z', F', N.to x0 (e1 _ (by decide) (by decide)) (e1 _ (by decide) (by decide)) (e1 _ (by decide) (by decide)) (e1 _ (by decide) (by decide)) (e1 _ (by decide) (by decide)) (e1 _ (by decide) (by decide)), R.to x10 x11 (e1 _ (by decide) (by decide)) (e1 _ (by decide) (by decide)) (fun _ => e2 _ _ (by omega)), W.to x8 x9 (e1 _ (by decide) (by decide)) (fun _ => e2 _ _ (by omega)) (fun _ => e2 _ _ (by omega)), K.to x14 (fun b hb => ht b (by rw [hb]; decide) (by rw [hb]; decide) (by rw [hb]; decide) (by rw [hb]; decide) (by rw [hb]; decide)) (e1 _ (by decide) (by decide)) (fun k j h1 h2 => e2 _ _ (by omega)), S.to x2 (fun b hb => ?_) (fun i hi hp => ?_) (e1 _ (by decide) (by decide)) (fun k j h1 h2 => e2 _ _ (by omega)) e3, Tx_site T hs hp x7 (fun b hb g3 g4 g5 g6 => hsm b g3 g4 g5 g6 (by unfold sTag at hb; omega)) I' hp' (e1 _ (by decide) (by decide)) e14 e16 en⟩
  · rcases hb with h | h | h | h <;> exact ht b (by rw [h]; decide) (by rw [h]; decide) (by rw [h]; decide) (by rw [h]; decide) (by rw [h]; decide)
  · obtain ⟨-, -, -, -, -, -, ⟨-, b1, -⟩, -⟩ := (S.2.2 i hi).2 hp
    exact ht _ (by rw [b1]; decide) (by rw [b1]; decide) (by rw [b1]; decide) (by rw [b1]; decide) (by rw [b1]; decide)
theorem c_isFull {s c : Nat} (I : SiR fx σ G ms s) (hc : ms.2.1 15 s = nI c) : f_X7_isFull σ (some (G 3 s)) = some (b2i (decide (¬ nI c < 4)), σ) := by
  unfold f_X7_isFull
  rw [gI_s I.1, I.2.2.2.1, hc, h_b1_s]
  by_cases h : nI c < 4
  · rw [if_pos h, decide_eq_false (fun z => z h)]; rfl
  · rw [if_neg h, decide_eq_true h]; rfl
/-- some site has the very same prefix -/
theorem c_isHeld (F : Fx σ x) (T : Tx fx σ x G ms) (hC : ∀ s, s < 8 → ∃ c : Nat, ms.2.1 15 s = nI c ∧ c ≤ 4) (hab : ∀ s, s < 8 → ms.2.1 14 s = -1 → ms.2.1 15 s = 0) {p n : Nat} {b : Int32} (hP' : hP σ p b n) : f_X9_isHeld σ (some x) (some p) = some (b2i (ff (dupP ms b (nI n)) 0 32).isSome, σ) := by
  unfold f_X9_isHeld
  have key := lp_find (fun m k => g_X9_isHeld_2 m σ (some x) (some p) k) 8 (fun s => (ff (fun k => decide (ms.2.1 16 (4 * s + k) = b) && decide (ms.2.1 17 (4 * s + k) = nI n)) 0 (ms.2.1 15 s).toNatClampNeg).isSome) (fun _ => some (1, σ)) (some (0, σ))
    (fun m => by
      show g_X9_isHeld_2 (m + 1) σ (some x) (some p) (nI 8) = _
      rw [g_X9_isHeld_2, if_pos (show (8 : Int32) ≤ nI 8 by decide)])
    (fun m j hj => by
      show g_X9_isHeld_2 (m + 1) σ (some x) (some p) (nI j) = if _ = true then some (1, σ) else g_X9_isHeld_2 m σ (some x) (some p) (nI (j + 1))
      obtain ⟨t0, ⟨-, r1, -⟩, -, -, ⟨t7, l7⟩, -⟩ := id F
      have e1 : h_gR σ (some x) 10 1 = some (some (x + 7)) := by rw [gR_s t0, r1]
      have e2 : h_aR σ (some (x + 7)) 108 (nI j) = some (h_rv σ (x + 7) j) := aR_s t7 l7 hj (by decide)
      rw [g_X9_isHeld_2, if_neg (show ¬ (8 : Int32) ≤ nI j from fun z => absurd (nI_lt (a := j) (b := 8) hj (by decide)) (Int32.not_lt.mpr z)), e1, h_b1_s, e2, h_b1_s, nI_c1]
      by_cases hp : ms.2.1 14 j = -1
      · rw [(T.2 j hj).1 hp, if_pos rfl, hab j hj hp]
        rfl
      · obtain ⟨r3, I⟩ := (T.2 j hj).2 hp
        rw [r3, if_neg (fun z => by cases z), h_b1_s, e2, h_b1_s, r3, rcv_s I.1, h_b1_s, c_holds I hP', h_bd_s]
        cases (ff (fun k => decide (ms.2.1 16 (4 * j + k) = b) && decide (ms.2.1 17 (4 * j + k) = nI n)) 0 (ms.2.1 15 j).toNatClampNeg).isSome with
        | false => rw [if_pos (by rfl), if_neg (by decide)]
        | true => rw [if_neg (by decide), if_pos rfl]) 8 h_hN 0 rfl (h_hN_lt (by decide))
  refine Eq.trans key ?_
  have hiff : (∃ s, 0 ≤ s ∧ s < 0 + 8 ∧ (ff (fun k => decide (ms.2.1 16 (4 * s + k) = b) && decide (ms.2.1 17 (4 * s + k) = nI n)) 0 (ms.2.1 15 s).toNatClampNeg).isSome = true) ↔ ∃ k, 0 ≤ k ∧ k < 0 + 32 ∧ dupP ms b (nI n) k = true := by
    constructor
    · intro hh
      obtain ⟨s, -, hs, h⟩ := hh
      obtain ⟨k, -, hk, h2⟩ := ff_isSome.mp h
      obtain ⟨c, hc, hc4⟩ := hC s (by omega)
      rw [hc, nI_clamp (by omega)] at hk
      refine ⟨4 * s + k, by omega, by omega, ?_⟩
      unfold dupP
      rw [show (4 * s + k) % 4 = k by omega, show (4 * s + k) / 4 = s by omega, hc, decide_eq_true (nI_lt (a := k) (b := c) (by omega) (by omega)), Bool.true_and]
      exact h2
    · intro hh
      obtain ⟨k, -, hk, h⟩ := hh
      unfold dupP at h
      obtain ⟨h1, h2⟩ := (Bool.and_eq_true _ _).mp h
      obtain ⟨c, hc, hc4⟩ := hC (k / 4) (by omega)
      have h1' := of_decide_eq_true h1
      rw [hc] at h1'
      have hlt : k % 4 < c := Nat.lt_of_not_le (fun z => absurd h1' (nI_nlt z (by omega)))
      refine ⟨k / 4, by omega, by omega, ff_isSome.mpr ⟨k % 4, by omega, by rw [hc, nI_clamp (by omega)]; omega, ?_⟩⟩
      rw [show 4 * (k / 4) + k % 4 = k by omega]
      exact h2
  cases hf : ff (fun s => (ff (fun k => decide (ms.2.1 16 (4 * s + k) = b) && decide (ms.2.1 17 (4 * s + k) = nI n)) 0 (ms.2.1 15 s).toNatClampNeg).isSome) 0 8 with
  | none =>
    have : ff (dupP ms b (nI n)) 0 32 = none := ff_isSome_f (fun z => by
      have := ff_isSome.mpr (hiff.mpr z)
      rw [hf] at this
      cases this)
    rw [this]; rfl
  | some j =>
    have : (ff (dupP ms b (nI n)) 0 32).isSome = true := ff_isSome.mpr (hiff.mp (ff_isSome.mp (by rw [hf]; rfl)))
    rw [this]; rfl
end SIT
end
/-! from 80.callsb -/
section
/-! CALLS: prefix, move -/
section CLB
variable {fx : Bool} {σ σ' : HS} {x : Nat} {G : Nat → Nat → Nat} {ms ms' : MS}
theorem Rep.si (P : Rep fx σ x G ms) {s : Nat} (hs : s < 8) (hp : ¬ ms.2.1 14 s = -1) : SiR fx σ G ms s := ((P.2.2.2.2.2.2.2.2 s hs).2 hp).2
theorem Kq_si (P : Rep fx σ x G ms) {s : Nat} (hs : s < 8) (hp : ¬ ms.2.1 14 s = -1) (hz : h_sz σ' = h_sz σ ∧ h_sl σ' = h_sl σ ∧ h_cz σ' = h_cz σ ∧ h_ck σ' = h_ck σ) (hsm : ∀ b, b ≠ G 3 s → b ≠ G 4 s → b ≠ G 5 s → b ≠ G 6 s → h_tg σ b ≠ 0 → Sm σ σ' b) : Kq x 0 0 σ σ' := by
  obtain ⟨c1, -, -, -, ⟨-, c6, -⟩, -, ⟨-, c9⟩, ⟨-, d2, -⟩, -⟩ := P.si hs hp
  obtain ⟨z1, z2, z3, z4⟩ := hz
  refine ⟨by omega, by omega, by omega, z3, z4, fun a h1 h2 => ?_⟩
  have ht := P.1.2.2 a h1 h2
  have ne : ∀ {c : Nat}, h_tg σ a ≠ h_tg σ c → a ≠ c := fun h z => h (by rw [z])
  exact hsm a (ne (by rw [c1]; omega)) (ne (by rw [c6]; omega)) (ne (by rw [c9]; omega)) (ne (by rw [d2]; omega)) (by omega)
/-- a prefix more -/
def pfxM (ms : MS) (s c : Nat) (b l : Int32) : MS := aS (aS (aS ms 16 (4 * s + c) b) 17 (4 * s + c) l) 15 s (nI (c + 1))
theorem pfx_k {s c : Nat} {b l : Int32} {k j : Nat} (h : k ≠ 15) (h1 : k ≠ 16) (h2 : k ≠ 17) : (pfxM ms s c b l).2.1 k j = ms.2.1 k j := by
  unfold pfxM
  rw [aS_k h, aS_k h2, aS_k h1]
theorem pfx_15 {s c : Nat} {b l : Int32} {j : Nat} : (pfxM ms s c b l).2.1 15 j = if j = s then nI (c + 1) else ms.2.1 15 j := by
  unfold pfxM
  by_cases e : j = s
  · rw [e, aS_s, if_pos rfl]
  · rw [aS_j e, aS_k (by decide), aS_k (by decide), if_neg e]
theorem pfx_16 {s c : Nat} {b l : Int32} {j : Nat} : (pfxM ms s c b l).2.1 16 j = if j = 4 * s + c then b else ms.2.1 16 j := by
  unfold pfxM
  rw [aS_k (by decide), aS_k (by decide)]
  by_cases e : j = 4 * s + c
  · rw [e, aS_s, if_pos rfl]
  · rw [aS_j e, if_neg e]
theorem pfx_17 {s c : Nat} {b l : Int32} {j : Nat} : (pfxM ms s c b l).2.1 17 j = if j = 4 * s + c then l else ms.2.1 17 j := by
  unfold pfxM
  rw [aS_k (by decide)]
  by_cases e : j = 4 * s + c
  · rw [e, aS_s, if_pos rfl]
  · rw [aS_j e, aS_k (by decide), if_neg e]
theorem a_add (P : Rep fx σ x G ms) {s c p n : Nat} {b : Int32} (hs : s < 8) (hp : ¬ ms.2.1 14 s = -1) (hc : ms.2.1 15 s = nI c) (hc4 : c < 4) (hP' : hP σ p b n) : ∃ σ', f_X7_add σ (some (G 3 s)) (some p) = some (nI c, σ') ∧ Rep fx σ' x G (pfxM ms s c b (nI n)) ∧ Kq x 0 0 σ σ' := by
  have I := P.si hs hp
  obtain ⟨a1, a2, a3, a4, ⟨a5, a6, a7⟩, ⟨c', c1, c2, c3⟩, ⟨a8, a9⟩, ⟨b1, b2, b3⟩, z, z1, z2, z3, z4⟩ := id I
  have ec : c' = c := (nI_eq (by omega) (by omega)).mp (c2.symm.trans hc)
  subst ec
  have n34 : G 3 s ≠ G 4 s := fun e => by rw [e, a6] at a1; omega
  have n35 : G 3 s ≠ G 5 s := fun e => by rw [e, a9] at a1; omega
  have n36 : G 3 s ≠ G 6 s := fun e => by rw [e, b2] at a1; omega
  have n45 : G 4 s ≠ G 5 s := fun e => by rw [e, a9] at a6; omega
  have n46 : G 4 s ≠ G 6 s := fun e => by rw [e, b2] at a6; omega
  have e1 : h_sR σ (some (G 4 s)) 106 5 (nI c') (some p) = some (h_setR σ (G 4 s) c' (some p)) := sR_s a6 a7 hc4 (by decide) (decide_eq_true hP'.1)
  have t3 : h_tg (h_setR σ (G 4 s) c' (some p)) (G 3 s) = 8 := a1
  have v3 : h_iv (h_setR σ (G 4 s) c' (some p)) (G 3 s) 3 = nI c' := a4.trans hc
  refine ⟨h_setI (h_setR σ (G 4 s) c' (some p)) (G 3 s) 3 (nI c' + 1), ?_, ?_⟩
  · unfold f_X7_add
    rw [gI_s a1, a4, hc, h_b1_s, if_neg (show ¬ (4 : Int32) ≤ nI c' from fun z => absurd (nI_lt (a := c') (b := 4) hc4 (by decide)) (Int32.not_lt.mpr z)), gR_s a1, a5, h_b1_s, e1, h_b1_s, gI_s t3, v3, h_b1_s, pI_s t3, h_b1_s]
  · have hsm : ∀ q, q ≠ G 3 s → q ≠ G 4 s → Sm σ (h_setI (h_setR σ (G 4 s) c' (some p)) (G 3 s) 3 (nI c' + 1)) q := fun q h3 h4 => (Sm_R h4).tr (Sm_I h3)
    have h25 : ∀ q, h_tg σ q = 2 ∨ h_tg σ q = 5 → Sm σ (h_setI (h_setR σ (G 4 s) c' (some p)) (G 3 s) 3 (nI c' + 1)) q := fun q hq => hsm q (fun e => by rw [e, a1] at hq; omega) (fun e => by rw [e, a6] at hq; omega)
    have s5 := hsm (G 5 s) (Ne.symm n35) (Ne.symm n45)
    have s6 := hsm (G 6 s) (Ne.symm n36) (Ne.symm n46)
    refine ⟨Rep_one P hs hp P.1 (fun q g3 g4 _ _ _ => hsm q g3 g4) ?_ (by rw [pfx_k (by decide) (by decide) (by decide)]; exact hp) (fun _ _ _ => rfl) (fun k j h => pfx_k (by omega) (by omega) (by omega)) rfl (fun t ht e => ⟨pfx_k (by decide) (by decide) (by decide), by rw [pfx_15, if_neg e], pfx_k (by decide) (by decide) (by decide)⟩) (fun t k ht e hk => ⟨by rw [pfx_16, if_neg (by omega)], by rw [pfx_17, if_neg (by omega)]⟩) (fun t k j _ _ h1 _ _ _ => pfx_k (by omega) (by omega) (by omega)), Kq_si P hs hp ⟨rfl, rfl, rfl, rfl⟩ (fun q g3 g4 _ _ _ => hsm q g3 g4)⟩
    refine ⟨a1, by rw [iv_sIk (by decide), pfx_k (by decide) (by decide) (by decide)]; exact a2, by rw [iv_sIk (by decide), pfx_k (by decide) (by decide) (by decide)]; exact a3, by rw [iv_sI, pfx_15, if_pos rfl, nI_c1], ⟨(Sm_R (σ := σ) n34).2.2.2.1 2 |>.trans a5, a6, a7⟩, ⟨c' + 1, by omega, by rw [pfx_15, if_pos rfl], fun k hk => ?_⟩, ⟨(Sm_R (σ := σ) n34).2.2.2.1 4 |>.trans a8, a9⟩, ⟨by rw [s5.2.2.2.1]; exact b1, b2, b3⟩, z, z1, by rw [s5.2.2.1]; exact z2, fun j hj => ?_, ?_⟩
    · by_cases e : k = c'
      · refine ⟨p, n, by rw [e]; exact rv_sR, by rw [pfx_17, if_pos (by omega)], ?_⟩
        rw [pfx_16, if_pos (by omega)]
        exact hP'.to (h25 p (Or.inr hP'.1))
      · obtain ⟨p', n', d1, d2, d3⟩ := c3 k (by omega)
        refine ⟨p', n', (rv_sRk (σ := σ) e).trans d1, by rw [pfx_17, if_neg (by omega)]; exact d2, ?_⟩
        rw [pfx_16, if_neg (by omega)]
        exact d3.to (h25 p' (Or.inr d3.1))
    · obtain ⟨a, d1, d2⟩ := z3 j hj
      exact ⟨a, by rw [s6.2.2.2.1]; exact d1, (d2.to h25).1⟩
    · have ec : lL (nP ((pfxM ms s c' b (nI n)).1 1)) (nC (h_setI (h_setR σ (G 4 s) c' (some p)) (G 3 s) 3 (nI c' + 1)) (G 6 s)) 0 z = lL (nP (ms.1 1)) (nC σ (G 6 s)) 0 z := by
        show lL (nP (ms.1 1)) _ 0 z = _
        refine lL_congr z 0 (fun j _ hj => ?_)
        obtain ⟨a, d1, d2⟩ := z3 j (by omega)
        unfold nC
        rw [s6.2.2.2.1, d1]
        exact congrArg some (d2.to h25).2
      have em : lL (fun q => nP ((pfxM ms s c' b (nI n)).1 1) q.1) (nM (pfxM ms s c' b (nI n))) (6 * s) 6 = lL (fun q => nP (ms.1 1) q.1) (nM ms) (6 * s) 6 := by
        show lL (fun q : N5 × Int32 => nP (ms.1 1) q.1) _ (6 * s) 6 = _
        refine lL_congr 6 (6 * s) (fun j _ _ => ?_)
        unfold nM
        rw [pfx_k (by decide) (by decide) (by decide), pfx_k (by decide) (by decide) (by decide), pfx_k (by decide) (by decide) (by decide), pfx_k (by decide) (by decide) (by decide), pfx_k (by decide) (by decide) (by decide), pfx_k (by decide) (by decide) (by decide)]
      rw [ec, em]
      exact z4
theorem k_prefix (h : Bt fx σ x ms) (hm : Rm σ) (Tt : Tr ms) (hC : ∀ s, s < 8 → ∃ c : Nat, ms.2.1 15 s = nI c ∧ c ≤ 4) (hab : ∀ s, s < 8 → ms.2.1 14 s = -1 → ms.2.1 15 s = 0) (a b l : Int32) : lcI cdL_prefix (f_X9_prefix σ (some x) a b l) (fun τ => f_X10_prefix τ (some (x + 15)) a b l) (some x) (some (x + 15)) (some (x + 49)) σ (fun τ => Bt fx τ x (if prfB ms a b l = true then prfM ms a.toNatClampNeg (ms.2.1 15 a.toNatClampNeg).toNatClampNeg b l else noM ms) ∧ Gw (1 + 1) (2 + 6) σ τ) := by
  obtain ⟨G, P⟩ := h.1
  have hp := p_prefix_eq ms a b l Tt.2.1 hC
  have hat := c_siteAt P.2.1 P.2.2.2.2.2.2.2 a
  have bad : ∀ {r σ1}, f_X9_prefix σ (some x) a b l = some (r, σ1) → r = .error 1 → Kq x 1 2 σ σ1 → (∃ G, Rep fx σ1 x G ms) → prfB ms a b l = false → lcI cdL_prefix (f_X9_prefix σ (some x) a b l) (fun τ => f_X10_prefix τ (some (x + 15)) a b l) (some x) (some (x + 15)) (some (x + 49)) σ (fun τ => Bt fx τ x (if prfB ms a b l = true then prfM ms a.toNatClampNeg (ms.2.1 15 a.toNatClampNeg).toNatClampNeg b l else noM ms) ∧ Gw (1 + 1) (2 + 6) σ τ) := by
    intro r σ1 h9 hr hK hR hf
    rw [hf, if_neg (by decide)] at hp
    rw [hf, if_neg (by decide)]
    obtain ⟨G', P'⟩ := hR
    exact stepI h h9 (Or.inr ⟨1, hr, rfl, by decide⟩) hK ⟨G', P'.cd 1⟩ hp noM_0 (fun τ V => q_X10_prefix V a b l)
  cases hsB : siteB ms a with
  | false =>
    rw [hsB, if_neg (by decide)] at hat
    refine bad (r := .error 1) (σ1 := σ) ?_ rfl (Kq.rf.le (by omega) (by omega)) ⟨G, P⟩ (by unfold prfB; rw [hsB]; rfl)
    unfold f_X9_prefix
    rw [rcv_s P.2.1.1, h_b1_s, hat, h_bd_s, if_pos rfl, hm.thr]
  | true =>
    obtain ⟨s, hs, rfl, hps⟩ := siteB_nI hsB
    rw [hsB, if_pos rfl, nI_clamp (by omega)] at hat
    obtain ⟨c, hc, hc4⟩ := hC s hs
    have I := P.si hs hps
    have hfull := c_isFull I hc
    by_cases h4 : nI c < 4
    · have hc4' : c < 4 := Nat.lt_of_not_le (fun z => absurd h4 (nI_nlt (a := c) (b := 4) z (by omega)))
      rw [decide_eq_false (fun z => z h4)] at hfull
      cases hv : vpB b l with
      | false =>
        refine bad (r := .error 1) (σ1 := σ) ?_ rfl (Kq.rf.le (by omega) (by omega)) ⟨G, P⟩ (by unfold prfB; rw [hv]; cases siteB ms (nI s) <;> cases decide (ms.2.1 15 (nI s).toNatClampNeg < 4) <;> rfl)
        unfold f_X9_prefix
        rw [rcv_s P.2.1.1, h_b1_s, hat, h_bd_s, if_neg (fun z => by cases z), rcv_s I.1, h_b1_s, hfull, h_bd_s, if_pos (by rfl), of_no hv, h_bd_s, if_pos rfl, hm.thr]
      | true =>
        have hof := of_yes P.n0 (by have := hm.1; omega) (by have := hm.2; omega) hv 0 0
        obtain ⟨n, hn, rfl, hvb⟩ := vpB_nI hv
        have B := P.n0
        have hP1 : hP (rpl (h_sz σ) (pSp b (nI n) 0 0) σ) (h_sz σ + 0) b n := ⟨rpl_tg B 0 _, rpl_iv B 0 0 _ (Or.inl (show 0 < 1 by decide)), rpl_iv B 0 1 _ (Or.inl (show 0 < 1 by decide)), hn, hvb⟩
        have P1 := P.ext (Ext_rpl B (pSp b (nI n) 0 0))
        have K1 : Kq x 1 2 σ (rpl (h_sz σ) (pSp b (nI n) 0 0) σ) := Kq_rpl P _ (by exact Nat.le_refl 1) (by exact Nat.le_refl 2)
        have hof' : f_X4_of σ b (nI n) = some (some (h_sz σ + 0), rpl (h_sz σ) (pSp b (nI n) 0 0) σ) := hof
        generalize rpl (h_sz σ) (pSp b (nI n) 0 0) σ = τ at hP1 P1 K1 hof'
        have I1 := P1.si hs hps
        have ht1 : (h_thr 1 τ : Option (Except Nat Int32 × HS)) = some (.error 1, τ) := thr_of (by have := hm.1; have := K1.2.1; have := K1.2.2.2.1; omega) (by have := hm.2; have := K1.2.2.1; have := K1.2.2.2.2.1; omega)
        have hown := c_ownerOf P1.2.1 P1.2.2.2.2.2.2.1 Tt hP1
        have hheld := c_isHeld P1.2.1 P1.2.2.2.2.2.2.2 hC hab hP1
        have e0 : h_gR τ (some x) 10 0 = some (some (x + 1)) := by rw [gR_s P1.2.1.1, P1.2.1.2.1.1]
        have hgo : f_X9_prefix σ (some x) (nI s) b (nI n) = (h_bd (f_X8_ownerOf τ (some (x + 1)) (some (h_sz σ + 0))) fun r21 s22 => if r21 = none then h_thr 1 s22 else h_b1 (h_rcv s22 (some x) 10) fun _ => h_bd (f_X9_isHeld s22 (some x) (some (h_sz σ + 0))) fun r28 s29 => if r28 = 0 then h_b1 (h_rcv s29 (some (G 3 s)) 8) fun _ => h_bd (f_X7_add s29 (some (G 3 s)) (some (h_sz σ + 0))) fun r34 s35 => some (.ok r34, s35) else h_thr 1 s29) := by
          unfold f_X9_prefix
          rw [rcv_s P.2.1.1, h_b1_s, hat, h_bd_s, if_neg (fun z => by cases z), rcv_s I.1, h_b1_s, hfull, h_bd_s, if_pos (by rfl), hof', h_bd_s, if_neg (fun z => by cases z), e0, h_b1_s, rcv_s P1.2.1.2.2.1.1, h_b1_s]
        have hb : prfB ms (nI s) b (nI n) = ((ownE ms b n).isSome && (ff (dupP ms b (nI n)) 0 32).isNone) := by
          unfold prfB
          rw [hsB, hv, nI_clamp (by omega), hc, decide_eq_true h4, ln_nI hn]
          simp only [Bool.true_and]
        cases ho : ownE ms b n with
        | none =>
          rw [ho] at hown hb
          refine bad (r := .error 1) (σ1 := τ) ?_ rfl K1 ⟨G, P1⟩ (by rw [hb]; rfl)
          rw [hgo, hown, h_bd_s]
          show (if none = none then _ else _) = _
          rw [if_pos rfl, ht1]
        | some w =>
          rw [ho] at hown hb
          cases hd : ff (dupP ms b (nI n)) 0 32 with
          | some k =>
            rw [hd] at hheld hb
            refine bad (r := .error 1) (σ1 := τ) ?_ rfl K1 ⟨G, P1⟩ (by rw [hb]; rfl)
            rw [hgo, hown, h_bd_s]
            show (if some (G 0 w) = none then _ else _) = _
            rw [if_neg (fun z => by cases z), rcv_s P1.2.1.1, h_b1_s, hheld, h_bd_s, if_neg (show ¬ b2i (some k).isSome = 0 from (by decide : ¬ (1 : Int32) = 0)), ht1]
          | none =>
            rw [hd] at hheld hb
            obtain ⟨σ2, g1, g2, g3⟩ := a_add P1 hs hps hc hc4' hP1
            have hbt : prfB ms (nI s) b (nI n) = true := by rw [hb]; rfl
            rw [if_pos hbt] at hp ⊢
            rw [nI_clamp (n := s) (by omega), hc, nI_clamp (n := c) (by omega)] at hp ⊢
            refine stepI h (σ1 := σ2) (r := .ok (nI c)) (c0 := 0) ?_ (Or.inl ⟨rfl, rfl⟩) (K1.tr g3) ⟨G, g2.ms1 rfl (fun q hq => okM_1 hq)⟩ hp (okM_0 (ms := ms)) (fun τ V => q_X10_prefix V (nI s) b (nI n))
            rw [hgo, hown, h_bd_s]
            show (if some (G 0 w) = none then _ else _) = _
            rw [if_neg (fun z => by cases z), rcv_s P1.2.1.1, h_b1_s, hheld, h_bd_s, if_pos (by rfl), rcv_s I1.1, h_b1_s, g1, h_bd_s]
    · rw [decide_eq_true h4] at hfull
      refine bad (r := .error 1) (σ1 := σ) ?_ rfl (Kq.rf.le (by omega) (by omega)) ⟨G, P⟩ (by unfold prfB; rw [nI_clamp (by omega), hc, decide_eq_false h4]; cases siteB ms (nI s) <;> rfl)
      unfold f_X9_prefix
      rw [rcv_s P.2.1.1, h_b1_s, hat, h_bd_s, if_neg (fun z => by cases z), rcv_s I.1, h_b1_s, hfull, h_bd_s, if_neg (by decide), hm.thr]
end CLB
end
/-! from 81.callsc -/
section
/-! CALLS: move, and those that read alone -/
section CLC
variable {fx : Bool} {σ σ' : HS} {x : Nat} {G : Nat → Nat → Nat} {ms ms' : MS}
def wntM (ms : MS) (p : Nat) (s : Int32) : MS := aS (aS ms 26 p s) 27 p (ms.1 1 + 30)
/-- a site went away from the place p -/
theorem Rep_went (P : Rep fx σ x G ms) {p t : Nat} {s : Int32} (hp : p < 16) (ht : ms.1 1 = nI t) (ht2 : t ≤ 1000000) : Rep fx (h_setI (h_setI σ (x + 8) p s) (x + 9) p (nI t)) x G (wntM ms p s) := by
  obtain ⟨Z, F, N, R, Wn, K, S, T⟩ := P
  have W : WI [x + 8, x + 9] σ (h_setI (h_setI σ (x + 8) p s) (x + 9) p (nI t)) := (WI_I (by simp)).tr (WI_I (by simp))
  have hL : ∀ a, a ∈ [x + 8, x + 9] → h_tg σ a = 100 := by
    intro a ha
    simp only [List.mem_cons, List.mem_nil_iff, or_false] at ha
    rcases ha with rfl | rfl
    · exact F.2.2.2.2.2.1.1
    · exact F.2.2.2.2.2.2.1.1
  have ek : ∀ k j, k ≠ 26 → k ≠ 27 → (wntM ms p s).2.1 k j = ms.2.1 k j := fun k j h1 h2 => by unfold wntM; rw [aS_k h2, aS_k h1]
  refine ⟨Zx_WI W Z, W.fx F, N.to (W.sm (by simp)) rfl rfl rfl rfl rfl rfl, R.to (W.sm (by simp)) (W.sm (by simp)) rfl rfl (fun _ => ek _ _ (by decide) (by decide)), ?_, Kx_WI K F W (fun a ha => Or.inr (Or.inr (Or.inl (hL a ha)))) rfl (fun k j h1 h2 => ek k j (by omega) (by omega)), Sx_WI S F W (fun a ha => Or.inr (Or.inr (Or.inl (hL a ha)))) rfl (fun k j h1 h2 => ek k j (by omega) (by omega)) rfl, Tx_WI T F W (fun a ha => Or.inr (Or.inr (Or.inl (hL a ha)))) rfl (fun k j h1 h2 => ek k j (by omega) (by omega))⟩
  intro q hq
  by_cases e : q = p
  · subst e
    have e26 : (wntM ms q s).2.1 26 q = s := by unfold wntM; rw [aS_k (by decide), aS_s]
    have e27 : (wntM ms q s).2.1 27 q = nI (t + 30) := by unfold wntM; rw [aS_s, ht]; exact nI_add t 30
    rw [e26, e27, iv_sIa (by omega), iv_sI]
    exact ⟨rfl, fun _ => ⟨t, t, by rw [iv_sI], rfl, ht, Nat.le_refl t, ht2⟩⟩
  · have e26 : (wntM ms p s).2.1 26 q = ms.2.1 26 q := by unfold wntM; rw [aS_j e, aS_j e]
    have e27 : (wntM ms p s).2.1 27 q = ms.2.1 27 q := by unfold wntM; rw [aS_j e, aS_j e]
    rw [e26, e27, iv_sIa (by omega), iv_sIk e, iv_sIk e, iv_sIa (by omega)]
    exact Wn q hq
/-- a site is at another place -/
theorem Rep_place (P : Rep fx σ x G ms) {s : Nat} {pl : Int32} (hs : s < 8) (hp : ¬ ms.2.1 14 s = -1) (hpl : ¬ pl = -1) : Rep fx (h_setI σ (G 3 s) 0 pl) x G (aS ms 14 s pl) ∧ Kq x 0 0 σ (h_setI σ (G 3 s) 0 pl) := by
  have I := P.si hs hp
  obtain ⟨a1, a2, a3, a4, ⟨a5, a6, a7⟩, ⟨c, c1, c2, c3⟩, ⟨a8, a9⟩, ⟨b1, b2, b3⟩, z, z1, z2, z3, z4⟩ := id I
  have hsm : ∀ q, q ≠ G 3 s → Sm σ (h_setI σ (G 3 s) 0 pl) q := fun q h3 => Sm_I h3
  have ek : ∀ k j, k ≠ 14 → (aS ms 14 s pl).2.1 k j = ms.2.1 k j := fun k j h => aS_k h
  have ne : ∀ {b c : Nat}, h_tg σ b ≠ h_tg σ c → b ≠ c := fun h z => h (by rw [z])
  have I1 : SiR fx (h_setI σ (G 3 s) 0 pl) G (aS ms 14 s pl) s := by
    have h25 : ∀ q, h_tg σ q = 2 ∨ h_tg σ q = 5 → Sm σ (h_setI σ (G 3 s) 0 pl) q := fun q hq => hsm q (ne (by rw [a1]; omega))
    have s4 := hsm (G 4 s) (ne (by rw [a1, a6]; decide))
    have s5 := hsm (G 5 s) (ne (by rw [a1, a9]; decide))
    have s6 := hsm (G 6 s) (ne (by rw [a1, b2]; decide))
    refine ⟨a1, by rw [iv_sI, aS_s], by rw [iv_sIk (by decide), ek _ _ (by decide)]; exact a3, by rw [iv_sIk (by decide), ek _ _ (by decide)]; exact a4, ⟨a5, a6, a7⟩, ⟨c, c1, by rw [ek _ _ (by decide)]; exact c2, fun k hk => ?_⟩, ⟨a8, a9⟩, ⟨b1, b2, b3⟩, z, z1, by rw [s5.2.2.1]; exact z2, fun j hj => ?_, ?_⟩
    · obtain ⟨p, n, d1, d2, d3⟩ := c3 k hk
      exact ⟨p, n, d1, by rw [ek _ _ (by decide)]; exact d2, by rw [ek _ _ (by decide)]; exact d3.to (h25 p (Or.inr d3.1))⟩
    · obtain ⟨a, d1, d2⟩ := z3 j hj
      exact ⟨a, d1, (d2.to h25).1⟩
    · have ec : lL (nP ((aS ms 14 s pl).1 1)) (nC (h_setI σ (G 3 s) 0 pl) (G 6 s)) 0 z = lL (nP (ms.1 1)) (nC σ (G 6 s)) 0 z := by
        show lL (nP (ms.1 1)) _ 0 z = _
        refine lL_congr z 0 (fun j _ hj => ?_)
        obtain ⟨a, d1, d2⟩ := z3 j (by omega)
        unfold nC
        rw [s6.2.2.2.1, d1]
        exact congrArg some (d2.to h25).2
      have em : lL (fun q => nP ((aS ms 14 s pl).1 1) q.1) (nM (aS ms 14 s pl)) (6 * s) 6 = lL (fun q => nP (ms.1 1) q.1) (nM ms) (6 * s) 6 := by
        show lL (fun q : N5 × Int32 => nP (ms.1 1) q.1) _ (6 * s) 6 = _
        refine lL_congr 6 (6 * s) (fun j _ _ => ?_)
        unfold nM
        rw [ek _ _ (by decide), ek _ _ (by decide), ek _ _ (by decide), ek _ _ (by decide), ek _ _ (by decide), ek _ _ (by decide)]
      rw [ec, em]
      exact z4
  exact ⟨Rep_one P hs hp P.1 (fun q g3 _ _ _ _ => hsm q g3) I1 (by rw [aS_s]; exact hpl) (fun _ _ _ => rfl) (fun k j h => ek k j (by omega)) rfl (fun t ht e => ⟨aS_j e, ek _ _ (by decide), ek _ _ (by decide)⟩) (fun t k ht e hk => ⟨ek _ _ (by decide), ek _ _ (by decide)⟩) (fun t k j _ _ h1 _ _ _ => ek _ _ (by omega)), Kq_si P hs hp ⟨rfl, rfl, rfl, rfl⟩ (fun q g3 _ _ _ _ => hsm q g3)⟩
theorem k_move (h : Bt fx σ x ms) (hm : Rm σ) {t : Nat} (ht : ms.1 1 = nI t) (ht2 : t ≤ 1000000) (hpl : ∀ s, s < 8 → ms.2.1 14 s = -1 ∨ ∃ p, p < 16 ∧ ms.2.1 14 s = nI p) (a b : Int32) : lcV cdL_move (f_X9_move σ (some x) a b) (fun τ => f_X10_move τ (some (x + 15)) a b) (some x) (some (x + 15)) σ (fun τ => Bt fx τ x (if moveB ms a b = true then aS (wntM (okM ms) (ms.2.1 14 a.toNatClampNeg).toNatClampNeg a) 14 a.toNatClampNeg b else noM ms) ∧ Gw (0 + 1) (0 + 6) σ τ) := by
  obtain ⟨G, P⟩ := h.1
  have hat := c_siteAt P.2.1 P.2.2.2.2.2.2.2 a
  cases hsB : siteB ms a with
  | false =>
    have hf : moveB ms a b = false := by unfold moveB; rw [hsB]; rfl
    have hp := p_move_eq ms a b (i := 0) (p0 := 0) (fun z => by rw [hsB] at z; cases z)
    rw [hf, if_neg (by decide)] at hp
    rw [hf, if_neg (by decide)]
    rw [hsB, if_neg (by decide)] at hat
    refine stepV h (σ1 := σ) (r := .error 1) (c0 := 1) ?_ (Or.inr ⟨1, rfl, rfl⟩) Kq.rf ⟨G, P.cd 1⟩ hp noM_0 (fun τ V => q_X10_move V a b)
    unfold f_X9_move
    rw [rcv_s P.2.1.1, h_b1_s, hat, h_bd_s, if_pos rfl, hm.thr]
  | true =>
    obtain ⟨s, hs, rfl, hps⟩ := siteB_nI hsB
    rw [hsB, if_pos rfl, nI_clamp (by omega)] at hat
    have I := P.si hs hps
    obtain ⟨p0, hp0, hp1⟩ : ∃ p, p < 16 ∧ ms.2.1 14 s = nI p := (hpl s hs).resolve_left hps
    have hp := p_move_eq ms (nI s) b (i := s) (p0 := p0) (fun _ => ⟨rfl, hs, hp1, hp0⟩)
    by_cases h4 : 0 ≤ b ∧ b ≤ 15
    · have hne : ¬ b = -1 := fun z => by rw [z] at h4; exact absurd h4.1 (by decide)
      have hho := c_hostOf P.2.1 P.2.2.2.2.2.2.2 hne
      by_cases h5 : freeB ms b = true
      · have hb : moveB ms (nI s) b = true := by unfold moveB; rw [hsB, decide_eq_true h4, h5]; rfl
        rw [if_pos hb] at hp ⊢
        rw [nI_clamp (n := s) (by omega), hp1, nI_clamp (n := p0) (by omega)]
        have F := P.2.1
        obtain ⟨t0, ⟨-, -, r2, r3, -⟩, -, -, -, ⟨t8, l8⟩, ⟨t9, l9⟩, -⟩ := id F
        have P1 := Rep_went P (p := p0) (s := nI s) hp0 ht ht2
        have K1 : Kq x 0 0 σ (h_setI (h_setI σ (x + 8) p0 (nI s)) (x + 9) p0 (nI t)) := (Kp_WI P.1 (L := [x + 8, x + 9]) ((WI_I (by simp)).tr (WI_I (by simp))) (fun a ha => by simp only [List.mem_cons, List.mem_nil_iff, or_false] at ha; exact Or.inl (by omega))).q
        have ew : ∀ j, (wntM ms p0 (nI s)).2.1 14 j = ms.2.1 14 j := fun j => by unfold wntM; rw [aS_k (by decide), aS_k (by decide)]
        obtain ⟨P2, K2⟩ := Rep_place P1 (s := s) (pl := b) hs (by rw [ew]; exact hps) hne
        have n8 : G 3 s ≠ x + 8 := fun z => by have := I.1; rw [z, t8] at this; omega
        have w1 : h_sI σ (some (x + 8)) 100 (nI p0) (nI s) = some (h_setI σ (x + 8) p0 (nI s)) := sI_s t8 l8 hp0 (by decide)
        have w2 : h_sI (h_setI σ (x + 8) p0 (nI s)) (some (x + 9)) 100 (nI p0) (nI t) = some (h_setI (h_setI σ (x + 8) p0 (nI s)) (x + 9) p0 (nI t)) := sI_s (σ := h_setI σ (x + 8) p0 (nI s)) t9 l9 hp0 (by decide)
        have v0 : h_iv σ (G 3 s) 0 = nI p0 := I.2.1.trans hp1
        have v1 : h_iv (h_setI σ (x + 8) p0 (nI s)) (G 3 s) 0 = nI p0 := by rw [iv_sIa n8]; exact v0
        have v2 : h_iv (h_setI σ (x + 8) p0 (nI s)) x 9 = nI t := by rw [iv_sIa (by omega)]; exact P.2.2.1.2.1.trans ht
        have e2 : h_gR σ (some x) 10 2 = some (some (x + 8)) := by rw [gR_s t0, r2]
        have e3 : h_gR (h_setI σ (x + 8) p0 (nI s)) (some x) 10 3 = some (some (x + 9)) := by rw [gR_s (show h_tg (h_setI σ (x + 8) p0 (nI s)) x = 10 from t0)]; exact congrArg some r3
        have e4 : h_gI (h_setI σ (x + 8) p0 (nI s)) (some (G 3 s)) 8 0 = some (nI p0) := by rw [gI_s (show h_tg (h_setI σ (x + 8) p0 (nI s)) (G 3 s) = 8 from I.1), v1]
        have e5 : h_gI (h_setI σ (x + 8) p0 (nI s)) (some x) 10 9 = some (nI t) := by rw [gI_s (show h_tg (h_setI σ (x + 8) p0 (nI s)) x = 10 from t0), v2]
        refine stepV h (σ1 := h_setI (h_setI (h_setI σ (x + 8) p0 (nI s)) (x + 9) p0 (nI t)) (G 3 s) 0 b) (r := .ok ()) (c0 := 0) ?_ (Or.inl ⟨rfl, rfl⟩) (K1.tr K2) ⟨G, P2.ms1 rfl (fun q hq => okM_1 hq)⟩ hp (okM_0 (ms := ms)) (fun τ V => q_X10_move V (nI s) b)
        unfold f_X9_move
        rw [rcv_s P.2.1.1, h_b1_s, hat, h_bd_s, if_neg (fun z => by cases z), c_isPlace, h_bd_s, decide_eq_true h4, b2i_t, if_neg (by decide), rcv_s P.2.1.1, h_b1_s, hho, h_bd_s, if_pos ((o2i_free ms b).mpr h5), e2, h_b1_s, gI_s I.1, v0, h_b1_s, w1, h_b1_s, e3, h_b1_s, e4, h_b1_s, e5, h_b1_s, w2, h_b1_s, pI_s (show h_tg (h_setI (h_setI σ (x + 8) p0 (nI s)) (x + 9) p0 (nI t)) (G 3 s) = 8 from I.1), h_b1_s]
      · have hb : moveB ms (nI s) b = false := by unfold moveB; rw [hsB, decide_eq_true h4]; cases hx : freeB ms b with
          | false => rfl
          | true => exact absurd hx h5
        rw [hb, if_neg (by decide)] at hp
        rw [hb, if_neg (by decide)]
        refine stepV h (σ1 := σ) (r := .error 1) (c0 := 1) ?_ (Or.inr ⟨1, rfl, rfl⟩) Kq.rf ⟨G, P.cd 1⟩ hp noM_0 (fun τ V => q_X10_move V (nI s) b)
        unfold f_X9_move
        rw [rcv_s P.2.1.1, h_b1_s, hat, h_bd_s, if_neg (fun z => by cases z), c_isPlace, h_bd_s, decide_eq_true h4, b2i_t, if_neg (by decide), rcv_s P.2.1.1, h_b1_s, hho, h_bd_s, if_neg (fun z => h5 ((o2i_free ms b).mp z)), hm.thr]
    · have hb : moveB ms (nI s) b = false := by unfold moveB; rw [hsB, decide_eq_false h4]; rfl
      rw [hb, if_neg (by decide)] at hp
      rw [hb, if_neg (by decide)]
      refine stepV h (σ1 := σ) (r := .error 1) (c0 := 1) ?_ (Or.inr ⟨1, rfl, rfl⟩) Kq.rf ⟨G, P.cd 1⟩ hp noM_0 (fun τ V => q_X10_move V (nI s) b)
      unfold f_X9_move
      rw [rcv_s P.2.1.1, h_b1_s, hat, h_bd_s, if_neg (fun z => by cases z), c_isPlace, h_bd_s, decide_eq_false h4, b2i_f, if_pos rfl, hm.thr]
end CLC
end
