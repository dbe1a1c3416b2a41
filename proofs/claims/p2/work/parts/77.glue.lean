/-! FROM ONE CALL TO THE NEXT: what an exception leaves, what the reference writes, the cell for the answer -/
/-- the heap has grown by at most dz cells of ds places; the other side's cells are as they were -/
def Kq (x dz ds : Nat) (σ σ' : HS) : Prop := h_sz σ ≤ h_sz σ' ∧ h_sz σ' ≤ h_sz σ + dz ∧ h_sl σ' ≤ h_sl σ + ds ∧ h_cz σ' = h_cz σ ∧ h_ck σ' = h_ck σ ∧ ∀ a, x + 15 ≤ a → a ≤ x + 49 → Sm σ σ' a
theorem Kp.q {x dz ds : Nat} {σ σ' : HS} (h : Kp x dz ds σ σ') : Kq x dz ds σ σ' := ⟨by rw [h.1]; omega, by rw [h.1]; omega, by rw [h.2.1]; omega, h.2.2.1, h.2.2.2.1, h.2.2.2.2⟩
theorem Kq.rf {x : Nat} {σ : HS} : Kq x 0 0 σ σ := Kp.rf.q
theorem Kq.tr {x d1 d2 s1 s2 : Nat} {σ σ1 σ2 : HS} (h : Kq x d1 s1 σ σ1) (h' : Kq x d2 s2 σ1 σ2) : Kq x (d1 + d2) (s1 + s2) σ σ2 := by
  obtain ⟨a1, a2, a3, a4, a5, a6⟩ := h
  obtain ⟨b1, b2, b3, b4, b5, b6⟩ := h'
  exact ⟨by omega, by omega, by omega, by rw [b4, a4], by rw [b5, a5], fun a h1 h2 => (a6 a h1 h2).tr (b6 a h1 h2)⟩
theorem Kq.le {x d d' s s' : Nat} {σ σ' : HS} (h : Kq x d s σ σ') (h1 : d ≤ d') (h2 : s ≤ s') : Kq x d' s' σ σ' := ⟨h.1, by have := h.2.1; omega, by have := h.2.2.1; omega, h.2.2.2⟩
theorem Kq.mv {x d s : Nat} {σ σ' : HS} {ms : MS} (h : Kq x d s σ σ') (V : MV σ (x + 15) (kA (x + 15)) ms) : MV σ' (x + 15) (kA (x + 15)) ms := V.to (h.2.2.2.2.2 _ (by omega) (by omega)) (fun k hk => by have := kA_lt (m := x + 15) hk; exact h.2.2.2.2.2 _ (by omega) (by omega))
section GLU
variable {fx : Bool} {σ σ' : HS} {x : Nat} {G : Nat → Nat → Nat} {ms ms' : MS}
theorem Kq_rpl (P : Rep fx σ x G ms) (l : List Op) {dz ds : Nat} (h1 : cP l ≤ dz) (h2 : cS l ≤ ds) : Kq x dz ds σ (rpl (h_sz σ) l σ) := by
  have B := P.n0
  have h50 := P.1.1
  exact ⟨by rw [rpl_sz B]; omega, by rw [rpl_sz B]; omega, by rw [rpl_sl]; omega, (rpl_c l).1, (rpl_c l).2, fun a _ h => rpl_lo B (by omega) l⟩
theorem Rep.ms1 (P : Rep fx σ x G ms) (h2 : ms'.2 = ms.2) (h1 : ∀ k, k ≠ 0 → ms'.1 k = ms.1 k) : Rep fx σ x G ms' := by
  obtain ⟨Z, F, N, R, W, K, S, T⟩ := P
  have e : ∀ k j, ms'.2.1 k j = ms.2.1 k j := fun k j => by rw [h2]
  exact ⟨Z, F, N.to Sm.rf (h1 1 (by omega)) (h1 2 (by omega)) (h1 28 (by omega)) (h1 39 (by omega)) (h1 40 (by omega)) (h1 41 (by omega)), R.to Sm.rf Sm.rf (h1 36 (by omega)) (h1 42 (by omega)) (e 37), W.to Sm.rf Sm.rf (h1 1 (by omega)) (e 26) (e 27), K.to Sm.rf (fun _ _ => Sm.rf) (h1 28 (by omega)) (fun k j _ _ => e k j), S.to Sm.rf (fun _ _ => Sm.rf) (fun _ _ _ => Sm.rf) (h1 1 (by omega)) (fun k j _ _ => e k j) (by rw [h2]), T.to Sm.rf (fun _ _ => Sm.rf) (h1 1 (by omega)) (fun k j _ _ => e k j)⟩
theorem Rep.cd (P : Rep fx σ x G ms) (v : Int32) : Rep fx σ x G (k_pI ms 0 v) := P.ms1 rfl (fun k hk => pI_n1 hk)
/-- nothing but the other side's cells has changed -/
theorem Rep.fr (P : Rep fx σ x G ms) (Z' : Zx σ' x) (hs : ∀ b, b < x + 15 ∨ x + 49 < b → Sm σ σ' b) : Rep fx σ' x G ms := by
  obtain ⟨Z, F, N, R, W, K, S, T⟩ := P
  have ht : ∀ b, h_tg σ b ≠ 11 → h_tg σ b ≠ 100 → h_tg σ b ≠ 101 → h_tg σ b ≠ 102 → Sm σ σ' b := by
    intro b g1 g2 g3 g4
    refine hs b ?_
    by_cases e : b < x + 15 ∨ x + 49 < b
    · exact e
    · have := Z.2.2 b (by omega) (by omega)
      rcases this with h | h | h | h
      · exact absurd h g1
      · exact absurd h g2
      · exact absurd h g3
      · exact absurd h g4
  refine ⟨Z', F.to ⟨fun b hb => ⟨(hs b (by omega)).1, (hs b (by omega)).2.1⟩, (hs x (by omega)).2.2.2.1, (hs _ (by omega)).2.2.2.1, (hs _ (by omega)).2.2.2.1⟩, N.to (hs x (by omega)) rfl rfl rfl rfl rfl rfl, R.to (hs _ (by omega)) (hs _ (by omega)) rfl rfl (fun _ => rfl), W.to (hs _ (by omega)) (hs _ (by omega)) rfl (fun _ => rfl) (fun _ => rfl), K.to (hs _ (by omega)) (fun b hb => ht b (by rw [hb]; decide) (by rw [hb]; decide) (by rw [hb]; decide) (by rw [hb]; decide)) rfl (fun _ _ _ _ => rfl), S.to (hs _ (by omega)) (fun b hb => ?_) (fun i hi hp => hs _ (S.2.1 i hi hp)) rfl (fun _ _ _ _ => rfl) rfl, T.to (hs _ (by omega)) (fun b hb => ?_) rfl (fun _ _ _ _ => rfl)⟩
  · exact ht b (by rcases hb with h | h | h | h <;> rw [h] <;> decide) (by rcases hb with h | h | h | h <;> rw [h] <;> decide) (by rcases hb with h | h | h | h <;> rw [h] <;> decide) (by rcases hb with h | h | h | h <;> rw [h] <;> decide)
  · exact ht b (by rcases hb with h | h | h | h | h | h <;> rw [h] <;> decide) (by rcases hb with h | h | h | h | h | h <;> rw [h] <;> decide) (by rcases hb with h | h | h | h | h | h <;> rw [h] <;> decide) (by rcases hb with h | h | h | h | h | h <;> rw [h] <;> decide)
theorem Rep_bump (P : Rep fx σ x G ms) {z w : Nat} (hz : h_sz σ ≤ z) : Rep fx (h_bump σ z w) x G ms := by
  have h50 := P.1.1
  refine P.fr ⟨?_, fun a ha => ?_, P.1.2.2⟩ (fun b _ => Sm_B)
  · show x + 50 ≤ z
    omega
  · have ha' : z ≤ a := ha
    exact P.1.2.1 a (by omega)
theorem Rep_MF (P : Rep fx σ x G ms) (F : MF σ σ' (x + 15) (kA (x + 15))) : Rep fx σ' x G ms := by
  have hs : ∀ b, b < x + 15 ∨ x + 49 < b → Sm σ σ' b := fun b hb => Sm_MF F (by omega) (fun k hk => by have := kA_lt (m := x + 15) hk; omega)
  obtain ⟨f1, f2, f3, f4, -⟩ := id F
  exact P.fr ⟨by rw [f4]; exact P.1.1, by rw [f4, f1]; exact P.1.2.1, by rw [f1]; exact P.1.2.2⟩ hs
theorem Rep_out (P : Rep fx σ x G ms) {k : Nat} {v : Int64} : Rep fx (h_setL σ (x + 49) k v) x G ms := P.fr P.1 (fun b hb => Sm_L (by omega))
/-- the cell for the answer -/
def OC (σ : HS) (x : Nat) : Prop := h_tg σ (x + 49) = 101 ∧ h_ln σ (x + 49) = 1
theorem Kq.oc {d s : Nat} (h : Kq x d s σ σ') (o : OC σ x) : OC σ' x := by
  have e := h.2.2.2.2.2 (x + 49) (by omega) (by omega)
  exact ⟨by rw [e.1]; exact o.1, by rw [e.2.1]; exact o.2⟩
theorem OC_nA : x + 49 ≠ x + 15 ∧ ∀ k, k_tag k ≠ 0 → x + 49 ≠ kA (x + 15) k := ⟨by omega, fun k hk => by have := kA_lt (m := x + 15) hk; omega⟩
/-- what holds between two calls, but for the room and what is known of the reference -/
def Bt (fx : Bool) (σ : HS) (x : Nat) (ms : MS) : Prop := (∃ G, Rep fx σ x G ms) ∧ MV σ (x + 15) (kA (x + 15)) ms ∧ OC σ x
/-- how much has come -/
def Gw (dz ds : Nat) (σ σ' : HS) : Prop := h_sz σ ≤ h_sz σ' ∧ h_sz σ' ≤ h_sz σ + dz ∧ h_sl σ' ≤ h_sl σ + ds ∧ h_cz σ' = h_cz σ ∧ h_ck σ' = h_ck σ
theorem Kq.gw {d s : Nat} (h : Kq x d s σ σ') : Gw d s σ σ' := ⟨h.1, h.2.1, h.2.2.1, h.2.2.2.1, h.2.2.2.2.1⟩
theorem Gw.tr {d1 d2 s1 s2 : Nat} {σ1 σ2 : HS} (h : Gw d1 s1 σ σ1) (h' : Gw d2 s2 σ1 σ2) : Gw (d1 + d2) (s1 + s2) σ σ2 := by
  obtain ⟨a1, a2, a3, a4, a5⟩ := h
  obtain ⟨b1, b2, b3, b4, b5⟩ := h'
  exact ⟨by omega, by omega, by omega, by rw [b4, a4], by rw [b5, a5]⟩
theorem Gw.le {d d' s s' : Nat} (h : Gw d s σ σ') (h1 : d ≤ d') (h2 : s ≤ s') : Gw d' s' σ σ' := ⟨h.1, by have := h.2.1; omega, by have := h.2.2.1; omega, h.2.2.2⟩
theorem MF.gw {m : Nat} {A : Nat → Nat} (F : MF σ σ' m A) : Gw 0 0 σ σ' := by
  obtain ⟨-, -, -, f4, f5, f6, f7, -⟩ := F
  exact ⟨by omega, by omega, by omega, f6, f7⟩
theorem Bmp.gw (h : Bmp σ σ') : Gw 1 6 σ σ' := by
  obtain ⟨z, w, h1, h2, h3, rfl⟩ := h
  exact ⟨h1, h2, h3, rfl, rfl⟩
theorem Bmp.rep (h : Bmp σ σ') (P : Rep fx σ x G ms) : Rep fx σ' x G ms := by
  obtain ⟨z, w, h1, h2, h3, rfl⟩ := h
  exact Rep_bump P h1
theorem Bmp.oc (h : Bmp σ σ') (o : OC σ x) : OC σ' x := by
  obtain ⟨z, w, h1, h2, h3, rfl⟩ := h
  exact o
theorem MF.oc (F : MF σ σ' (x + 15) (kA (x + 15))) (o : OC σ x) : OC σ' x := ⟨by rw [F.1]; exact o.1, by rw [F.2.1]; exact o.2⟩
/-- a call without an answer -/
theorem stepV {cd : Nat → Option Int32} {F9 : Option (Except Nat Unit × HS)} {F10 : HS → Option (Unit × HS)} {r : Except Nat Unit} {c0 : Int32} {p : Option (Unit × MS)} {σ1 : HS} {dz ds : Nat} (h : Bt fx σ x ms) (h9 : F9 = some (r, σ1)) (hr : (r = .ok () ∧ c0 = 0) ∨ ∃ k, r = .error k ∧ cd k = some c0) (K : Kq x dz ds σ σ1) (hR : ∃ G, Rep fx σ1 x G ms') (hp : p = some ((), ms')) (hc : ms'.1 0 = c0) (lift : ∀ τ, MV τ (x + 15) (kA (x + 15)) ms → Rl τ (x + 15) (kA (x + 15)) (F10 τ) p) : lcV cd F9 F10 (some x) (some (x + 15)) σ (fun τ => Bt fx τ x ms' ∧ Gw (dz + 1) (ds + 6) σ τ) := by
  obtain ⟨⟨G, P⟩, V, o⟩ := h
  obtain ⟨G', P'⟩ := hR
  refine lcV_of P.2.1.1 h9 hr (K.mv V) hp hc lift (fun σ2 σ4 hh F V' => ?_)
  rcases hh with ⟨rfl, -⟩ | hb
  · exact ⟨⟨⟨G', Rep_MF P' F⟩, V', F.oc (K.oc o)⟩, (K.gw.tr F.gw).le (by omega) (by omega)⟩
  · exact ⟨⟨⟨G', Rep_MF (hb.rep P') F⟩, V', F.oc (hb.oc (K.oc o))⟩, ((K.gw.tr hb.gw).tr F.gw).le (by omega) (by omega)⟩
/-- a call with an answer -/
theorem stepI {cd : Nat → Option Int32} {F9 : Option (Except Nat Int32 × HS)} {F10 : HS → Option (Int32 × HS)} {r : Except Nat Int32} {v c0 : Int32} {p : Option (Int32 × MS)} {σ1 : HS} {dz ds : Nat} (h : Bt fx σ x ms) (h9 : F9 = some (r, σ1)) (hr : (r = .ok v ∧ c0 = 0) ∨ ∃ k, r = .error k ∧ cd k = some c0 ∧ ¬ c0 = 0) (K : Kq x dz ds σ σ1) (hR : ∃ G, Rep fx σ1 x G ms') (hp : p = some (v, ms')) (hc : ms'.1 0 = c0) (lift : ∀ τ, MV τ (x + 15) (kA (x + 15)) ms → Rl τ (x + 15) (kA (x + 15)) (F10 τ) p) : lcI cd F9 F10 (some x) (some (x + 15)) (some (x + 49)) σ (fun τ => Bt fx τ x ms' ∧ Gw (dz + 1) (ds + 6) σ τ) := by
  obtain ⟨⟨G, P⟩, V, o⟩ := h
  obtain ⟨G', P'⟩ := hR
  refine lcI_of P.2.1.1 (K.oc o) OC_nA h9 hr (K.mv V) hp hc lift (fun σ2 σ4 hh F V' => ?_)
  rcases hh with ⟨rfl, -⟩ | hb
  · exact ⟨⟨⟨G', Rep_MF (Rep_out P') F⟩, V', F.oc (K.oc o)⟩, (K.gw.tr F.gw).le (by omega) (by omega)⟩
  · exact ⟨⟨⟨G', Rep_MF (hb.rep P') F⟩, V', F.oc (hb.oc (K.oc o))⟩, ((K.gw.tr hb.gw).tr F.gw).le (by omega) (by omega)⟩
/-- a call that throws nothing -/
theorem stepN {F9 : Option (Int32 × HS)} {F10 : HS → Option (Int32 × HS)} {v : Int32} {p : Option (Int32 × MS)} (h : Bt fx σ x ms) (h9 : F9 = some (v, σ)) (hp : p = some (v, ms')) (hms : ms' = okM ms) (lift : Rl σ (x + 15) (kA (x + 15)) (F10 σ) p) : lcN F9 F10 (some x) (some (x + 15)) σ (fun τ => Bt fx τ x ms' ∧ Gw 1 6 σ τ) := by
  obtain ⟨⟨G, P⟩, V, o⟩ := h
  refine lcN_of P.2.1.1 h9 V hp lift (fun σ4 F V' => ⟨⟨⟨G, Rep_MF ?_ F⟩, V', F.oc o⟩, F.gw.le (by omega) (by omega)⟩)
  rw [hms]
  exact P.cd 0
end GLU
