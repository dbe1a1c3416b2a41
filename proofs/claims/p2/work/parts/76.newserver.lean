/-! A SERVER COMES -/
section NSR
variable {fx : Bool} {σ σ' : HS} {x : Nat} {G G' : Nat → Nat → Nat} {ms ms' : MS}
def gServ (G : Nat → Nat → Nat) (s a : Nat) : Nat → Nat → Nat := fun k j => if k ≤ 2 ∧ j = s then a + (k + 1) else G k j
theorem gServ_n {s a k j : Nat} (h : j ≠ s) : gServ G s a k j = G k j := if_neg (fun z => h z.2)
theorem gServ_k {s a k j : Nat} (h : 2 < k) : gServ G s a k j = G k j := if_neg (fun z => by omega)
theorem gServ_s {s a k : Nat} (h : k ≤ 2) : gServ G s a k s = a + (k + 1) := if_pos ⟨h, rfl⟩
theorem Sx.to' (S : Sx σ x G ms) (ht : ∀ b, h_tg σ b = 1 ∨ h_tg σ b = 5 ∨ h_tg σ b = 7 ∨ h_tg σ b = 103 ∨ h_tg σ b = 101 → Sm σ σ' b) : ∀ i, i < 8 → pr ms i → SvR σ' G ms i := fun i hi h => by
  obtain ⟨-, I⟩ := (S.2.2 i hi).2 h
  obtain ⟨-, -, -, -, -, ⟨-, b1, -⟩, -⟩ := id I
  exact I.to (fun b hb => ht b (by rcases hb with h | h | h | h <;> rw [h] <;> decide)) (ht _ (by rw [b1]; decide)) rfl (fun _ _ _ _ => rfl) rfl
def dlgM (ms : MS) (k : Nat) (b l p : Int32) : MS := aS (aS (aS (aS ms 3 k 1) 4 k b) 5 k l) 6 k p
theorem dlg_k {k : Nat} {b l p : Int32} {q j : Nat} (h : q < 3 ∨ 6 < q) : (dlgM ms k b l p).2.1 q j = ms.2.1 q j := by
  unfold dlgM
  rw [aS_k (by omega), aS_k (by omega), aS_k (by omega), aS_k (by omega)]
theorem dlg_j {k : Nat} {b l p : Int32} {q j : Nat} (h : j ≠ k) : (dlgM ms k b l p).2.1 q j = ms.2.1 q j := by
  unfold dlgM
  rw [aS_j h, aS_j h, aS_j h, aS_j h]
theorem dlg_3 {k : Nat} {b l p : Int32} : (dlgM ms k b l p).2.1 3 k = 1 := by
  unfold dlgM
  rw [aS_k (by omega), aS_k (by omega), aS_k (by omega), aS_s]
theorem dlg_4 {k : Nat} {b l p : Int32} : (dlgM ms k b l p).2.1 4 k = b := by
  unfold dlgM
  rw [aS_k (by omega), aS_k (by omega), aS_s]
theorem dlg_5 {k : Nat} {b l p : Int32} : (dlgM ms k b l p).2.1 5 k = l := by
  unfold dlgM
  rw [aS_k (by omega), aS_s]
theorem dlg_6 {k : Nat} {b l p : Int32} : (dlgM ms k b l p).2.1 6 k = p := by
  unfold dlgM
  rw [aS_s]
set_option maxRecDepth 100000 in
theorem Rep_server (P : Rep fx σ x G ms) {k n : Nat} {b p : Int32} (hk : k < 8) (h3 : ms.2.1 3 k = 0) (hn : n ≤ 32) (hv : vb n b = true) (hEn : eL (ms.1 1) (eM ms) (16 * k) 16 = []) (hHi : ∀ s, s < 8 → ms.2.2 (8 * k + s) = -3000000000) : Rep fx (h_setR (rpl (h_sz σ) (pSx b (nI n) (nI k) p) σ) (x + 2) k (some (h_sz σ + 1))) x (gServ G k (h_sz σ)) (dlgM ms k b (nI n) p) := by
  have B := P.n0
  have h50 := P.1.1
  have P0 := P
  have P1 := P.ext (Ext_rpl B (pSx b (nI n) (nI k) p))
  have tg : ∀ q t, tgL q (pSx b (nI n) (nI k) p) = t → h_tg (rpl (h_sz σ) (pSx b (nI n) (nI k) p) σ) (h_sz σ + q) = t := fun q t e => (rpl_tg B q _).trans e
  have rv : ∀ q j r, q < 4 → rvL q j (pSx b (nI n) (nI k) p) = some r → h_rv (rpl (h_sz σ) (pSx b (nI n) (nI k) p) σ) (h_sz σ + q) j = some (h_sz σ + r) := fun q j r hq e => by rw [rpl_rv B q j (pSx b (nI n) (nI k) p) (Or.inl hq), e]; rfl
  have rv0 : ∀ q j, q < 4 → rvL q j (pSx b (nI n) (nI k) p) = none → h_rv (rpl (h_sz σ) (pSx b (nI n) (nI k) p) σ) (h_sz σ + q) j = none := fun q j hq e => by rw [rpl_rv B q j (pSx b (nI n) (nI k) p) (Or.inl hq), e]; rfl
  have iv : ∀ q j r, q < 4 → ivL q j (pSx b (nI n) (nI k) p) = r → h_iv (rpl (h_sz σ) (pSx b (nI n) (nI k) p) σ) (h_sz σ + q) j = r := fun q j r hq e => (rpl_iv B q j (pSx b (nI n) (nI k) p) (Or.inl hq)).trans e
  have lv : ∀ q j r, q < 4 → lvL q j (pSx b (nI n) (nI k) p) = r → h_lv (rpl (h_sz σ) (pSx b (nI n) (nI k) p) σ) (h_sz σ + q) j = r := fun q j r hq e => (rpl_lv B q j (pSx b (nI n) (nI k) p) (Or.inl hq)).trans e
  have ln' : ∀ q r, q < 4 → lnL q (pSx b (nI n) (nI k) p) = r → h_ln (rpl (h_sz σ) (pSx b (nI n) (nI k) p) σ) (h_sz σ + q) = r := fun q r hq e => (rpl_ln B q (pSx b (nI n) (nI k) p) (Or.inl hq)).trans e
  have lt0 : ∀ t q, t < 8 → pr ms t → q ≤ 2 → G q t < h_sz σ := by
    intro t q ht hp hq
    obtain ⟨-, a1, -, -, -, ⟨-, a7, -⟩, ⟨-, b1, -⟩, -⟩ := (P0.2.2.2.2.2.2.1.2.2 t ht).2 hp
    rcases (show q = 0 ∨ q = 1 ∨ q = 2 by omega) with e | e | e <;> rw [e]
    · exact P0.lt (by rw [a1]; decide)
    · exact P0.lt (by rw [a7]; decide)
    · exact P0.lt (by rw [b1]; decide)
  generalize hτ : rpl (h_sz σ) (pSx b (nI n) (nI k) p) σ = τ at P1 tg rv rv0 iv lv ln' ⊢
  have hN : ∀ b, b ≠ x + 2 → Sm τ (h_setR τ (x + 2) k (some (h_sz σ + 1))) b := fun b hb => Sm_R hb
  obtain ⟨Z, F, N, R, W, K, S, T⟩ := P1
  have ht : ∀ b, h_tg τ b ≠ 107 → Sm τ (h_setR τ (x + 2) k (some (h_sz σ + 1))) b := fun b hb => hN b (fun z => hb (by rw [z]; exact F.2.2.2.1.1))
  refine ⟨Z, F.to (Fs_R (by omega) (by omega) (by omega)), N.to (hN x (by omega)) rfl rfl rfl rfl rfl rfl, R.to (hN _ (by omega)) (hN _ (by omega)) rfl rfl (fun _ => dlg_k (by omega)), W.to (hN _ (by omega)) (hN _ (by omega)) rfl (fun _ => dlg_k (by omega)) (fun _ => dlg_k (by omega)), ?_, ?_, ?_⟩
  · exact (K.to (ms' := dlgM ms k b (nI n) p) (hN _ (by omega)) (fun b hb => ht b (by rw [hb]; decide)) rfl (fun k j h1 h2 => dlg_k (by omega))).g (fun i => gServ_k (by omega))
  · have S' := S.to' (σ' := h_setR τ (x + 2) k (some (h_sz σ + 1))) (fun b hb => ht b (by rcases hb with h | h | h | h | h <;> rw [h] <;> decide))
    have ep : ∀ t, t ≠ k → (pr (dlgM ms k b (nI n) p) t ↔ pr ms t) := fun t h => by unfold pr; rw [dlg_j h]
    have epk : pr (dlgM ms k b (nI n) p) k := by unfold pr; rw [dlg_3]; decide
    refine ⟨fun i j hi hj p1 p2 h => ?_, fun i hi p1 => ?_, fun t htt => ?_⟩
    · by_cases e1 : i = k
      · by_cases e2 : j = k
        · rw [e1, e2]
        · exfalso
          have p2' := (ep j e2).mp p2
          have l0 := lt0 j 0 hj p2' (by omega)
          have l1 := lt0 j 1 hj p2' (by omega)
          have l2 := lt0 j 2 hj p2' (by omega)
          rw [e1, gServ_s (by omega), gServ_s (by omega), gServ_s (by omega), gServ_n e2, gServ_n e2, gServ_n e2] at h
          omega
      · have p1' := (ep i e1).mp p1
        by_cases e2 : j = k
        · exfalso
          have l0 := lt0 i 0 hi p1' (by omega)
          have l1 := lt0 i 1 hi p1' (by omega)
          have l2 := lt0 i 2 hi p1' (by omega)
          rw [e2, gServ_s (by omega), gServ_s (by omega), gServ_s (by omega), gServ_n e1, gServ_n e1, gServ_n e1] at h
          omega
        · rw [gServ_n e1, gServ_n e1, gServ_n e1, gServ_n e2, gServ_n e2, gServ_n e2] at h
          exact S.1 i j hi hj p1' ((ep j e2).mp p2) h
    · by_cases e1 : i = k
      · rw [e1, gServ_s (by omega)]
        omega
      · rw [gServ_n e1]
        exact S.2.1 i hi ((ep i e1).mp p1)
    · by_cases e : t = k
      · subst e
        refine ⟨fun z => absurd z epk, fun _ => ⟨?_, ?_⟩⟩
        · rw [gServ_s (by omega)]
          exact rv_sR
        · have q0 : gServ G t (h_sz σ) 0 t = h_sz σ + 1 := gServ_s (by omega)
          have q1 : gServ G t (h_sz σ) 1 t = h_sz σ + 2 := gServ_s (by omega)
          have q2 : gServ G t (h_sz σ) 2 t = h_sz σ + 3 := gServ_s (by omega)
          have n0 := hN (h_sz σ + 0) (by omega)
          have n1 := hN (h_sz σ + 1) (by omega)
          have n2 := hN (h_sz σ + 2) (by omega)
          have n3 := hN (h_sz σ + 3) (by omega)
          have epB : pB (dlgM ms t b (nI n) p) t = b := dlg_4
          have epL : pL (dlgM ms t b (nI n) p) t = n := by unfold pL; rw [dlg_5, ln_nI hn]
          unfold SvR
          rw [q0, q1, q2, dlg_6, epB, epL, n1.1, n1.2.2.1, n1.2.2.1, n1.2.2.2.1, n1.2.2.2.1, n1.2.2.2.1, n2.1, n2.2.1, n3.1, n3.2.1]
          have hno : ∀ j, h_rv (h_setR τ (x + 2) t (some (h_sz σ + 1))) (h_sz σ + 2) j = none := fun j => by rw [n2.2.2.2.1]; exact rv0 2 j (by omega) rfl
          refine ⟨tg 1 7 rfl, iv 1 0 (nI t) (by omega) rfl, iv 1 1 p (by omega) rfl, ⟨h_sz σ + 0, rv 1 2 0 (by omega) rfl, ?_⟩, ⟨rv 1 3 2 (by omega) rfl, tg 2 103 rfl, ln' 2 16 (by omega) rfl⟩, ⟨rv 1 4 3 (by omega) rfl, tg 3 101 rfl, ln' 3 8 (by omega) rfl⟩, fun s hs => ?_, fun j _ a ha => (by rw [hno j] at ha; cases ha), ?_⟩
          · unfold hP
            rw [n0.1, n0.2.2.1, n0.2.2.1]
            exact ⟨tg 0 5 rfl, iv 0 0 b (by omega) rfl, iv 0 1 (nI n) (by omega) rfl, hn, hv⟩
          · refine Or.inl ⟨?_, hHi s hs⟩
            rw [n3.2.2.2.2]
            rcases (show s = 0 ∨ s = 1 ∨ s = 2 ∨ s = 3 ∨ s = 4 ∨ s = 5 ∨ s = 6 ∨ s = 7 by omega) with e | e | e | e | e | e | e | e <;> rw [e]
            · exact lv 3 0 _ (by omega) rfl
            · exact lv 3 1 _ (by omega) rfl
            · exact lv 3 2 _ (by omega) rfl
            · exact lv 3 3 _ (by omega) rfl
            · exact lv 3 4 _ (by omega) rfl
            · exact lv 3 5 _ (by omega) rfl
            · exact lv 3 6 _ (by omega) rfl
            · exact lv 3 7 _ (by omega) rfl
          · have e1 : eL ((dlgM ms t b (nI n) p).1 1) (eM (dlgM ms t b (nI n) p)) (16 * t) 16 = [] := by
              rw [← hEn]
              refine eL_congr 16 (16 * t) (fun j _ _ => ?_)
              unfold eM
              rw [dlg_k (by omega), dlg_k (by omega), dlg_k (by omega), dlg_k (by omega), dlg_k (by omega), dlg_k (by omega)]
            rw [e1, eL_nil 16 0 (fun j _ _ q hq => by
              have hq' : (h_rv (h_setR τ (x + 2) t (some (h_sz σ + 1))) (h_sz σ + 2) j).map (eV _) = some q := hq
              rw [hno j] at hq'
              cases hq')]
      · refine ⟨fun z => ?_, fun z => ?_⟩
        · rw [dlg_j e] at z
          rw [rv_sRk e]
          exact (S.2.2 t htt).1 z
        · have z' := (ep t e).mp z
          obtain ⟨r1, -⟩ := (S.2.2 t htt).2 z'
          refine ⟨by rw [rv_sRk e, gServ_n e]; exact r1, ?_⟩
          exact ((S' t htt z').num (ms' := dlgM ms k b (nI n) p) rfl (dlg_j e) (dlg_j e) (dlg_j e) (fun q j h1 _ _ _ => dlg_k (by omega)) (fun _ _ => rfl)).g (gServ_n e) (gServ_n e) (gServ_n e)
  · exact (T.to (ms' := dlgM ms k b (nI n) p) (hN _ (by omega)) (fun b hb => ht b (by rcases hb with h | h | h | h | h | h <;> rw [h] <;> decide)) rfl (fun k j h1 h2 => dlg_k (by omega))).g (fun k i h1 h2 => gServ_k (by omega))
end NSR
