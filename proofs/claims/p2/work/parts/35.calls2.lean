/-! THE REFERENCE'S CALLS, over numbers: arrive, carry, run, send, register, prefix, packet, note, truth, count -/
/-- what the lengths and places of a state must be -/
def MI (ms : MS) : Prop := (∃ n, n ≤ 200 ∧ ms.1 36 = nI n) ∧ (∃ np, np ≤ 200 ∧ ms.1 28 = nI np) ∧ (∀ k, k < 8 → Ln (ms.2.1 5 k)) ∧ (∀ k, k < 128 → Ln (ms.2.1 8 k)) ∧ (∀ k, k < 32 → Ln (ms.2.1 17 k)) ∧ (∀ k, k < 48 → Ln (ms.2.1 20 k)) ∧
  (∀ s, s < 8 → ∃ c : Nat, ms.2.1 15 s = nI c ∧ c ≤ 4) ∧ (∀ s, s < 8 → ms.2.1 14 s = -1 ∨ ∃ p, p < 16 ∧ ms.2.1 14 s = nI p) ∧ (∀ p, p < 16 → ms.2.1 26 p = -1 ∨ ∃ w, w < 8 ∧ ms.2.1 26 p = nI w)
/-- what a message that is carried must be: DATA goes to a place; alone, an endpoint has nothing but the best in it -/
def MA (ms : MS) : Prop := (ms.2.1 38 6 = 3 → ∃ pl, pl < 16 ∧ ms.2.1 38 7 = nI pl) ∧ ∀ sv ep, sv < 8 → chiF ms sv ep = none → crowd ms sv ep 32 (bestE ms ep sv) = false
def arrM (ms : MS) (n np : Nat) : MS :=
  if ms.2.1 38 6 = 0 then (if srvB ms (ms.2.1 38 7) = true then regM ms (ms.2.1 38 7).toNatClampNeg else ms)
  else if ms.2.1 38 6 = 1 then (if srvB ms (ms.2.1 38 7) = true then reqM ms n (ms.2.1 38 7).toNatClampNeg else ms)
  else if ms.2.1 38 6 = 2 then (if siteB ms (ms.2.1 38 7) = true then rplM ms n (ms.2.1 38 7).toNatClampNeg (wtF ms (ms.2.1 38 7) np) else ms)
  else if ms.2.1 38 6 = 3 then cameM ms n (ms.2.1 38 7).toNatClampNeg
  else (if siteB ms (ms.2.1 38 7) = true then fgtM ms (ms.2.1 38 7).toNatClampNeg (ms.2.1 38 0) (ms.2.1 38 1) else ms)
theorem p_arrive_eq (ms : MS) {n np : Nat} (hn : ms.1 36 = nI n) (h : n ≤ 200) (hnp : ms.1 28 = nI np) (hnp2 : np ≤ 200) (I : MI ms) (A : MA ms) : p_X10_arrive ms = some ((), arrM ms n np) := by
  obtain ⟨-, -, i1, i2, i3, i4, i5, i6, i7⟩ := I
  unfold p_X10_arrive arrM
  rw [k38_6, h_b1_s]
  by_cases h0 : ms.2.1 38 6 = 0
  · rw [if_pos h0, if_pos h0, p_registered_eq ms rfl i1]; rfl
  · rw [if_neg h0, if_neg h0, h_b1_s]
    by_cases h1 : ms.2.1 38 6 = 1
    · rw [if_pos h1, if_pos h1, p_requested_eq ms rfl hn h i1 i2 (fun sv hsv _ hc => A.2 sv _ hsv hc)]; rfl
    · rw [if_neg h1, if_neg h1, h_b1_s]
      by_cases h2 : ms.2.1 38 6 = 2
      · rw [if_pos h2, if_pos h2, p_replied_eq ms rfl hn h hnp hnp2 i4]; rfl
      · rw [if_neg h2, if_neg h2, h_b1_s]
        by_cases h3 : ms.2.1 38 6 = 3
        · obtain ⟨pl, hpl, e7⟩ := A.1 h3
          rw [if_pos h3, if_pos h3, p_came_eq ms e7 hpl hn h hnp hnp2 i5 i3 (i7 pl hpl), e7, nI_clamp (by omega)]; rfl
        · rw [if_neg h3, if_neg h3, k38_7, h_b1_s, p_isSite_eq]
          simp only [k_bd_s]
          cases hs : siteB ms (ms.2.1 38 7)
          · rw [if_pos (show b2i false = 0 from rfl)]; rfl
          · obtain ⟨s, hs8, es, -⟩ := siteB_nI hs
            rw [if_neg (by decide), k38_7, h_b1_s, k38_0, h_b1_s, k38_1, h_b1_s, es, p_forget_eq ms _ _ hs8 i4, nI_clamp (by omega)]
            rfl
-- carry
theorem p_carry_eq (ms : MS) (k : Int32) {n np : Nat} (hn : ms.1 36 = nI n) (h : n ≤ 200) (hnp : ms.1 28 = nI np) (hnp2 : np ≤ 200) (I : ∀ i, i < n → MI (takeM (okM ms) n i) ∧ MA (takeM (okM ms) n i)) : p_X10_carry ms k = some ((), if msgB n k = true then arrM (takeM (okM ms) n k.toNatClampNeg) (n - 1) np else noM ms) := by
  unfold p_X10_carry
  rw [p_isMessage_eq ms k hn h]
  simp only [k_bd_s]
  cases hb : msgB n k
  · rw [if_pos (show b2i false = 0 from rfl)]; rfl
  · obtain ⟨i, hi, rfl⟩ := msgB_some h hb
    rw [if_neg (by decide), p_take_eq _ (n := n) (by rw [pI_n1 (by decide)]; exact hn) hi h, nI_clamp (by omega)]
    simp only [k_bd_s]
    have e : k_pI ms 0 (b2i (!true)) = okM ms := rfl
    rw [e, p_arrive_eq (takeM (okM ms) n i) (n := n - 1) (np := np) (by unfold takeM; rw [pI_s1]) (by omega) (by unfold takeM; rw [pI_n1 (by decide)]; exact hnp) hnp2 (I i hi).1 (I i hi).2]
    rfl
-- send
def startM (ms : MS) (s ep : Int32) (np : Nat) : MS := aS (aS (aS (k_pI (okM ms) 28 (nI (np + 1))) 29 (np + 1) s) 30 (np + 1) ep) 33 (np + 1) (-1)
def sendM (ms : MS) (n s np : Nat) (ep : Int32) : MS :=
  if hasB (startM ms (nI s) ep np) s ep = true then dlvM (startM ms (nI s) ep np) (np + 1) (nI s)
  else match ntF (startM ms (nI s) ep np) s ep with
    | none => askM (startM ms (nI s) ep np) n (np + 1) 0
    | some k => folM (startM ms (nI s) ep np) n (np + 1) ((startM ms (nI s) ep np).2.1 21 k)
theorem p_send_eq (ms : MS) (s ep : Int32) {n np : Nat} (hn : ms.1 36 = nI n) (h : n ≤ 200) (hnp : ms.1 28 = nI np) (hnp2 : np ≤ 200) (I : MI ms) : p_X10_send ms s ep = some (if np = 200 then (0, k_pI ms 0 1) else if siteB ms s = true then (nI (np + 1), sendM ms n s.toNatClampNeg np ep) else (0, k_pI ms 0 2)) := by
  obtain ⟨-, -, i1, i2, i3, i4, i5, i6, i7⟩ := I
  unfold p_X10_send
  by_cases h2 : np = 200
  · subst h2
    rw [if_pos (show ms.1 28 = 200 from hnp), if_pos rfl]
    unfold pj_X10_send_28
    simp only [k_lt, pI_s1]
    rw [if_neg (by decide)]
  · rw [if_neg (show ¬ ms.1 28 = 200 from fun z => h2 ((nI_eq (a := np) (b := 200) (by omega) (by omega)).mp (hnp.symm.trans z))), if_neg h2, p_isSite_eq]
    simp only [k_bd_s]
    cases hs : siteB ms s
    · rw [if_pos (show b2i false = 0 from rfl)]
      unfold pj_X10_send_28
      simp only [k_lt, pI_s1]
      rw [if_neg (by decide)]
      rfl
    · obtain ⟨i, hi, rfl, -⟩ := siteB_nI hs
      rw [if_neg (by decide), nI_clamp (by omega)]
      unfold pj_X10_send_28
      simp only [k_lt, pI_s1]
      have e28 : (k_pI ms 0 0).1 28 + 1 = nI (np + 1) := by rw [pI_n1 (by decide), hnp, nI_c1]
      rw [if_pos (by decide), e28, k_sI_n (show np + 1 < k_len 29 by show _ < 201; omega), h_b1_s, k_sI_n (show np + 1 < k_len 30 by show _ < 201; omega), h_b1_s, k_sI_n (show np + 1 < k_len 33 by show _ < 201; omega), h_b1_s]
      show k_bd (p_X10_noteFor (startM ms (nI i) ep np) (nI i) ep) _ = _
      rw [p_noteF_eq (startM ms (nI i) ep np) ep hi (fun k hk => i4 k hk)]
      simp only [k_bd_s]
      show k_bd (p_X10_hasEndpoint (startM ms (nI i) ep np) (nI i) ep) _ = _
      rw [p_has_eq (startM ms (nI i) ep np) ep hi (i5 i hi) (fun k hk => i3 k hk)]
      simp only [k_bd_s, if_true]
      unfold sendM
      cases hb : hasB (startM ms (nI i) ep np) i ep
      · rw [if_pos (show b2i false = 0 from rfl)]
        cases hk : ntF (startM ms (nI i) ep np) i ep with
        | none =>
          rw [if_pos o2i_n]
          show k_bd (p_X10_ask (startM ms (nI i) ep np) (nI (np + 1)) 0) _ = _
          rw [p_ask_eq (n := n) _ _ (by omega) (by exact hn) h]
          rfl
        | some k =>
          have hk2 := ntF_lt hk
          rw [o2i_s, if_neg (nI_ne_m1 (by omega)), k_aI_nI (show k < k_len 21 by show k < 48; omega), h_b1_s]
          show k_bd (p_X10_follow (startM ms (nI i) ep np) (nI (np + 1)) _) _ = _
          rw [p_follow_eq (n := n) _ _ (by omega) (by exact hn) h]
          rfl
      · rw [if_neg (by decide)]
        show k_bd (p_X10_deliver (startM ms (nI i) ep np) (nI (np + 1)) (nI i)) _ = _
        rw [p_deliver_eq _ _ (by omega)]
        rfl
-- packet
def pktV (ms : MS) (p : Nat) (w : Int32) : Int32 := if w = 0 then ms.2.1 31 p else if w = 1 then ms.2.1 33 p else if w = 2 then ms.2.1 34 p else if w = 3 then ms.2.1 35 p else -1
theorem p_packet_eq (ms : MS) (p w : Int32) {np : Nat} (hnp : ms.1 28 = nI np) (hnp2 : np ≤ 200) : p_X10_packet ms p w = some (if decide (1 ≤ p ∧ p ≤ nI np) = true then (pktV ms p.toNatClampNeg w, okM ms) else (0, noM ms)) := by
  unfold p_X10_packet
  rw [p_in_eq, hnp]
  simp only [k_bd_s]
  cases hb : decide (1 ≤ p ∧ p ≤ nI np)
  · rw [if_pos (show b2i false = 0 from rfl)]
    unfold pj_X10_packet_18
    simp only [k_lt, pI_s1]
    rw [if_neg (by decide)]; rfl
  · have h1 := of_decide_eq_true hb
    obtain ⟨i, hi, rfl⟩ := nI_of (x := p) (fun z => absurd (Int32.lt_of_le_of_lt h1.1 z) (by decide))
    have hi2 : i ≤ np := (nI_leI hi (by omega)).mp h1.2
    rw [if_neg (by decide), nI_clamp hi]
    unfold pj_X10_packet_18 pktV
    simp only [k_lt, pI_s1, if_true]
    rw [if_pos (by decide)]
    by_cases w0 : w = 0
    · rw [if_pos w0, if_pos w0, k_aI_nI (show i < k_len 31 by show i < 201; omega), h_b1_s]; rfl
    · rw [if_neg w0, if_neg w0]
      by_cases w1 : w = 1
      · rw [if_pos w1, if_pos w1, k_aI_nI (show i < k_len 33 by show i < 201; omega), h_b1_s]; rfl
      · rw [if_neg w1, if_neg w1]
        by_cases w2 : w = 2
        · rw [if_pos w2, if_pos w2, k_aI_nI (show i < k_len 34 by show i < 201; omega), h_b1_s]; rfl
        · rw [if_neg w2, if_neg w2]
          by_cases w3 : w = 3
          · rw [if_pos w3, if_pos w3, k_aI_nI (show i < k_len 35 by show i < 201; omega), h_b1_s]; rfl
          · rw [if_neg w3, if_neg w3]; rfl
-- note
def ntV (ms : MS) (s : Nat) (ep w : Int32) : Int32 := match ntF ms s ep with
  | none => -1
  | some k => if w = 0 then ms.2.1 20 k else if w = 1 then ms.2.1 21 k else if w = 2 then ms.2.1 22 k else -1
theorem p_note_eq (ms : MS) (s ep w : Int32) (hL : ∀ k, k < 48 → Ln (ms.2.1 20 k)) : p_X10_note ms s ep w = some (if siteB ms s = true then (ntV ms s.toNatClampNeg ep w, okM ms) else (0, noM ms)) := by
  unfold p_X10_note
  rw [p_isSite_eq]
  simp only [k_bd_s]
  cases hs : siteB ms s
  · rw [if_pos (show b2i false = 0 from rfl)]
    unfold pj_X10_note_14
    simp only [k_lt, pI_s1]
    rw [if_neg (by decide)]; rfl
  · obtain ⟨i, hi, rfl, -⟩ := siteB_nI hs
    rw [if_neg (by decide), nI_clamp (by omega)]
    unfold pj_X10_note_14
    simp only [k_lt, pI_s1, if_true]
    rw [if_pos (by decide), p_noteF_eq (k_pI ms 0 0) ep hi (fun k hk => hL k hk)]
    simp only [k_bd_s]
    have e : ntF (k_pI ms 0 0) i ep = ntF ms i ep := rfl
    rw [e]
    unfold ntV
    cases hk : ntF ms i ep with
    | none => rw [if_pos o2i_n]; rfl
    | some k =>
      have hk2 := ntF_lt hk
      rw [o2i_s, if_neg (nI_ne_m1 (by omega)), k_aI_nI (show k < k_len 20 by show k < 48; omega), k_aI_nI (show k < k_len 21 by show k < 48; omega), k_aI_nI (show k < k_len 22 by show k < 48; omega)]
      simp only [h_b1_s]
      by_cases w0 : w = 0
      · rw [if_pos w0, if_pos w0]; rfl
      · rw [if_neg w0, if_neg w0]
        by_cases w1 : w = 1
        · rw [if_pos w1, if_pos w1]; rfl
        · rw [if_neg w1, if_neg w1]
          by_cases w2 : w = 2
          · rw [if_pos w2, if_pos w2]; rfl
          · rw [if_neg w2, if_neg w2]; rfl
