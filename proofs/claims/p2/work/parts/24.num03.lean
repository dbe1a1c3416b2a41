/-! X10_packet -/
def pj_X10_packet_18 (ms : MS) (l1 : Int32) (l2 : Int32) (t0 : Int32) : Option (Int32 × MS) :=
  k_lt (k_pI ms 0 t0) fun q3 =>
  if (q3.1 0) ≤ 0 then
    if l2 = 0 then
      h_b1 (k_aI q3 31 l1) fun x4 =>
      some (x4, q3)
    else
      if l2 = 1 then
        h_b1 (k_aI q3 33 l1) fun x5 =>
        some (x5, q3)
      else
        if l2 = 2 then
          h_b1 (k_aI q3 34 l1) fun x6 =>
          some (x6, q3)
        else
          if l2 = 3 then
            h_b1 (k_aI q3 35 l1) fun x7 =>
            some (x7, q3)
          else
            some ((-1), q3)
  else
    some (0, q3)
def p_X10_packet (ms : MS) (a1 : Int32) (a2 : Int32) : Option (Int32 × MS) :=
  k_bd (p_X10_in ms a1 1 (ms.1 28)) fun r1 q2 =>
  if r1 = 0 then
    pj_X10_packet_18 q2 a1 a2 1
  else
    pj_X10_packet_18 q2 a1 a2 0
set_option maxHeartbeats 4000000 in
set_option maxRecDepth 100000 in
theorem qj_X10_packet_18 {σ0 : HS} {m : Nat} {A : Nat → Nat} (σ : HS) (ms : MS) (l1 : Int32) (l2 : Int32) (t0 : Int32) (hV : MV σ m A ms) (hF : MF σ0 σ m A) : Rl σ0 m A (j_X10_packet_18 σ (some m) l1 l2 t0 (some m)) (pj_X10_packet_18 ms l1 l2 t0) := by
  unfold j_X10_packet_18 pj_X10_packet_18
  refine Rl_pI hV hF (by decide) (fun _ q3 hV hF => ?_)
  refine Rl_gI hV (by decide) ?_
  refine Rl_ite (fun _ => ?_) (fun _ => ?_)
  · refine Rl_ite (fun _ => ?_) (fun _ => ?_)
    · refine Rl_gR hV (by decide) ?_
      refine Rl_aI hV (by decide) (by decide) (fun x4 => ?_)
      exact Rl_ret hV hF
    · skip
      refine Rl_ite (fun _ => ?_) (fun _ => ?_)
      · refine Rl_gR hV (by decide) ?_
        refine Rl_aI hV (by decide) (by decide) (fun x5 => ?_)
        exact Rl_ret hV hF
      · skip
        refine Rl_ite (fun _ => ?_) (fun _ => ?_)
        · refine Rl_gR hV (by decide) ?_
          refine Rl_aI hV (by decide) (by decide) (fun x6 => ?_)
          exact Rl_ret hV hF
        · skip
          refine Rl_ite (fun _ => ?_) (fun _ => ?_)
          · refine Rl_gR hV (by decide) ?_
            refine Rl_aI hV (by decide) (by decide) (fun x7 => ?_)
            exact Rl_ret hV hF
          · skip
            exact Rl_ret hV hF
  · exact Rl_ret hV hF
set_option maxHeartbeats 4000000 in
set_option maxRecDepth 100000 in
theorem q_X10_packet {σ : HS} {m : Nat} {A : Nat → Nat} {ms : MS} (hV : MV σ m A ms) (a1 : Int32) (a2 : Int32) : Rl σ m A (f_X10_packet σ (some m) a1 a2) (p_X10_packet ms a1 a2) := by
  have hF : MF σ σ m A := MF.rf
  unfold f_X10_packet p_X10_packet
  refine Rl_gI hV (by decide) ?_
  refine Rl_bd hF (q_X10_in hV _ _ _) (fun r1 _ q2 hV hF => ?_)
  refine Rl_ite (fun _ => ?_) (fun _ => ?_)
  · exact qj_X10_packet_18 _ q2 a1 a2 1 hV hF
  · exact qj_X10_packet_18 _ q2 a1 a2 0 hV hF
/-! X10_note -/
def pj_X10_note_14 (ms : MS) (l1 : Int32) (l2 : Int32) (l3 : Int32) (t0 : Int32) : Option (Int32 × MS) :=
  k_lt (k_pI ms 0 t0) fun q3 =>
  if (q3.1 0) ≤ 0 then
    k_bd (p_X10_noteFor q3 l1 l2) fun r4 q5 =>
    if r4 = (-1) then
      some ((-1), q5)
    else
      if l3 = 0 then
        h_b1 (k_aI q5 20 r4) fun x8 =>
        some (x8, q5)
      else
        if l3 = 1 then
          h_b1 (k_aI q5 21 r4) fun x7 =>
          some (x7, q5)
        else
          if l3 = 2 then
            h_b1 (k_aI q5 22 r4) fun x6 =>
            some (x6, q5)
          else
            some ((-1), q5)
  else
    some (0, q3)
def p_X10_note (ms : MS) (a1 : Int32) (a2 : Int32) (a3 : Int32) : Option (Int32 × MS) :=
  k_bd (p_X10_isSite ms a1) fun r1 q2 =>
  if r1 = 0 then
    pj_X10_note_14 q2 a1 a2 a3 1
  else
    pj_X10_note_14 q2 a1 a2 a3 0
set_option maxHeartbeats 4000000 in
set_option maxRecDepth 100000 in
theorem qj_X10_note_14 {σ0 : HS} {m : Nat} {A : Nat → Nat} (σ : HS) (ms : MS) (l1 : Int32) (l2 : Int32) (l3 : Int32) (t0 : Int32) (hV : MV σ m A ms) (hF : MF σ0 σ m A) : Rl σ0 m A (j_X10_note_14 σ (some m) l1 l2 l3 t0 (some m)) (pj_X10_note_14 ms l1 l2 l3 t0) := by
  unfold j_X10_note_14 pj_X10_note_14
  refine Rl_pI hV hF (by decide) (fun _ q3 hV hF => ?_)
  refine Rl_gI hV (by decide) ?_
  refine Rl_ite (fun _ => ?_) (fun _ => ?_)
  · refine Rl_rcv hV ?_
    refine Rl_bd hF (q_X10_noteFor hV _ _) (fun r4 _ q5 hV hF => ?_)
    refine Rl_ite (fun _ => ?_) (fun _ => ?_)
    · exact Rl_ret hV hF
    · refine Rl_ite (fun _ => ?_) (fun _ => ?_)
      · refine Rl_gR hV (by decide) ?_
        refine Rl_aI hV (by decide) (by decide) (fun x8 => ?_)
        exact Rl_ret hV hF
      · refine Rl_ite (fun _ => ?_) (fun _ => ?_)
        · refine Rl_gR hV (by decide) ?_
          refine Rl_aI hV (by decide) (by decide) (fun x7 => ?_)
          exact Rl_ret hV hF
        · refine Rl_ite (fun _ => ?_) (fun _ => ?_)
          · refine Rl_gR hV (by decide) ?_
            refine Rl_aI hV (by decide) (by decide) (fun x6 => ?_)
            exact Rl_ret hV hF
          · exact Rl_ret hV hF
  · exact Rl_ret hV hF
set_option maxHeartbeats 4000000 in
set_option maxRecDepth 100000 in
theorem q_X10_note {σ : HS} {m : Nat} {A : Nat → Nat} {ms : MS} (hV : MV σ m A ms) (a1 : Int32) (a2 : Int32) (a3 : Int32) : Rl σ m A (f_X10_note σ (some m) a1 a2 a3) (p_X10_note ms a1 a2 a3) := by
  have hF : MF σ σ m A := MF.rf
  unfold f_X10_note p_X10_note
  refine Rl_rcv hV ?_
  refine Rl_bd hF (q_X10_isSite hV _) (fun r1 _ q2 hV hF => ?_)
  refine Rl_ite (fun _ => ?_) (fun _ => ?_)
  · exact qj_X10_note_14 _ q2 a1 a2 a3 1 hV hF
  · exact qj_X10_note_14 _ q2 a1 a2 a3 0 hV hF
/-! X10_truth -/
def pg_X10_truth_12 : Nat → MS → Int32 → Int32 → Int32 → Int32 → Option (Int32 × MS)
  | 0, _, _, _, _, _ => none
  | n + 1, ms, l1, l2, l3, l4 =>
    if 8 ≤ l4 then
      some (l2, ms)
    else
      k_bd (p_X10_best ms l4 l1) fun r2 q3 =>
      if r2 = (-1) then
        pg_X10_truth_12 n q3 l1 l2 l3 (l4 + 1)
      else
        h_b1 (k_aI q3 8 r2) fun x4 =>
        if l3 < x4 then
          h_b1 (k_aI q3 9 r2) fun x5 =>
          h_b1 (k_aI q3 8 r2) fun x6 =>
          pg_X10_truth_12 n q3 l1 x5 x6 (l4 + 1)
        else
          pg_X10_truth_12 n q3 l1 l2 l3 (l4 + 1)
def p_X10_truth (ms : MS) (a1 : Int32) : Option (Int32 × MS) :=
  k_lt (k_pI ms 0 0) fun q1 =>
  pg_X10_truth_12 h_hN q1 a1 (-1) (-1) 0
set_option maxHeartbeats 4000000 in
set_option maxRecDepth 100000 in
theorem qg_X10_truth_12 {σ0 : HS} {m : Nat} {A : Nat → Nat} : ∀ (n : Nat) (σ : HS) (ms : MS) (l1 : Int32) (l2 : Int32) (l3 : Int32) (l4 : Int32), MV σ m A ms → MF σ0 σ m A → Rl σ0 m A (g_X10_truth_12 n σ (some m) l1 l2 l3 l4) (pg_X10_truth_12 n ms l1 l2 l3 l4) := by
  intro n
  induction n with
  | zero =>
    intro σ ms l1 l2 l3 l4 hV hF
    rw [pg_X10_truth_12]
    exact Rl_none
  | succ n ih =>
    intro σ ms l1 l2 l3 l4 hV hF
    rw [pg_X10_truth_12, g_X10_truth_12]
    refine Rl_ite (fun _ => ?_) (fun _ => ?_)
    · exact Rl_ret hV hF
    · refine Rl_rcv hV ?_
      refine Rl_bd hF (q_X10_best hV _ _) (fun r2 _ q3 hV hF => ?_)
      refine Rl_ite (fun _ => ?_) (fun _ => ?_)
      · exact ih _ q3 l1 l2 l3 (l4 + 1) hV hF
      · refine Rl_gR hV (by decide) ?_
        refine Rl_aI hV (by decide) (by decide) (fun x4 => ?_)
        refine Rl_ite (fun _ => ?_) (fun _ => ?_)
        · refine Rl_gR hV (by decide) ?_
          refine Rl_aI hV (by decide) (by decide) (fun x5 => ?_)
          refine Rl_gR hV (by decide) ?_
          refine Rl_aI hV (by decide) (by decide) (fun x6 => ?_)
          exact ih _ q3 l1 x5 x6 (l4 + 1) hV hF
        · exact ih _ q3 l1 l2 l3 (l4 + 1) hV hF
set_option maxHeartbeats 4000000 in
set_option maxRecDepth 100000 in
theorem q_X10_truth {σ : HS} {m : Nat} {A : Nat → Nat} {ms : MS} (hV : MV σ m A ms) (a1 : Int32) : Rl σ m A (f_X10_truth σ (some m) a1) (p_X10_truth ms a1) := by
  have hF : MF σ σ m A := MF.rf
  unfold f_X10_truth p_X10_truth
  refine Rl_pI hV hF (by decide) (fun _ q1 hV hF => ?_)
  exact qg_X10_truth_12 h_hN _ q1 a1 (-1) (-1) 0 hV hF
/-! X10_count -/
def pg_X10_count_97 : Nat → MS → Int32 → Int32 → Option (Int32 × MS)
  | 0, _, _, _ => none
  | n + 1, ms, l2, l3 =>
    if 128 ≤ l3 then
      some (l2, ms)
    else
      h_b1 (k_aI ms 12 l3) fun x2 =>
      if x2 ≤ (ms.1 1) then
        pg_X10_count_97 n ms (l2 + 0) (l3 + 1)
      else
        pg_X10_count_97 n ms (l2 + 1) (l3 + 1)
def pg_X10_count_135 : Nat → MS → Int32 → Int32 → Option (Int32 × MS)
  | 0, _, _, _ => none
  | n + 1, ms, l2, l3 =>
    if 48 ≤ l3 then
      some (l2, ms)
    else
      h_b1 (k_aI ms 23 l3) fun x3 =>
      if x3 ≤ (ms.1 1) then
        pg_X10_count_135 n ms (l2 + 0) (l3 + 1)
      else
        pg_X10_count_135 n ms (l2 + 1) (l3 + 1)
def p_X10_count (ms : MS) (a1 : Int32) : Option (Int32 × MS) :=
  k_lt (k_pI ms 0 0) fun q1 =>
  if a1 = 0 then
    some ((q1.1 36), q1)
  else
    if a1 = 1 then
      some ((q1.1 39), q1)
    else
      if a1 = 2 then
        some ((q1.1 40), q1)
      else
        if a1 = 3 then
          some ((q1.1 41), q1)
        else
          if a1 = 4 then
            some ((q1.1 42), q1)
          else
            if a1 = 5 then
              some ((q1.1 28), q1)
            else
              if a1 = 6 then
                some ((q1.1 1), q1)
              else
                if a1 = 7 then
                  pg_X10_count_97 h_hN q1 0 0
                else
                  if a1 = 8 then
                    pg_X10_count_135 h_hN q1 0 0
                  else
                    some ((-1), q1)
set_option maxHeartbeats 4000000 in
set_option maxRecDepth 100000 in
theorem qg_X10_count_97 {σ0 : HS} {m : Nat} {A : Nat → Nat} : ∀ (n : Nat) (σ : HS) (ms : MS) (l2 : Int32) (l3 : Int32), MV σ m A ms → MF σ0 σ m A → Rl σ0 m A (g_X10_count_97 n σ (some m) l2 l3) (pg_X10_count_97 n ms l2 l3) := by
  intro n
  induction n with
  | zero =>
    intro σ ms l2 l3 hV hF
    rw [pg_X10_count_97]
    exact Rl_none
  | succ n ih =>
    intro σ ms l2 l3 hV hF
    rw [pg_X10_count_97, g_X10_count_97]
    refine Rl_ite (fun _ => ?_) (fun _ => ?_)
    · exact Rl_ret hV hF
    · refine Rl_gR hV (by decide) ?_
      refine Rl_aI hV (by decide) (by decide) (fun x2 => ?_)
      refine Rl_gI hV (by decide) ?_
      refine Rl_ite (fun _ => ?_) (fun _ => ?_)
      · exact ih _ ms (l2 + 0) (l3 + 1) hV hF
      · exact ih _ ms (l2 + 1) (l3 + 1) hV hF
set_option maxHeartbeats 4000000 in
set_option maxRecDepth 100000 in
theorem qg_X10_count_135 {σ0 : HS} {m : Nat} {A : Nat → Nat} : ∀ (n : Nat) (σ : HS) (ms : MS) (l2 : Int32) (l3 : Int32), MV σ m A ms → MF σ0 σ m A → Rl σ0 m A (g_X10_count_135 n σ (some m) l2 l3) (pg_X10_count_135 n ms l2 l3) := by
  intro n
  induction n with
  | zero =>
    intro σ ms l2 l3 hV hF
    rw [pg_X10_count_135]
    exact Rl_none
  | succ n ih =>
    intro σ ms l2 l3 hV hF
    rw [pg_X10_count_135, g_X10_count_135]
    refine Rl_ite (fun _ => ?_) (fun _ => ?_)
    · exact Rl_ret hV hF
    · refine Rl_gR hV (by decide) ?_
      refine Rl_aI hV (by decide) (by decide) (fun x3 => ?_)
      refine Rl_gI hV (by decide) ?_
      refine Rl_ite (fun _ => ?_) (fun _ => ?_)
      · exact ih _ ms (l2 + 0) (l3 + 1) hV hF
      · exact ih _ ms (l2 + 1) (l3 + 1) hV hF
set_option maxHeartbeats 4000000 in
set_option maxRecDepth 100000 in
theorem q_X10_count {σ : HS} {m : Nat} {A : Nat → Nat} {ms : MS} (hV : MV σ m A ms) (a1 : Int32) : Rl σ m A (f_X10_count σ (some m) a1) (p_X10_count ms a1) := by
  have hF : MF σ σ m A := MF.rf
  unfold f_X10_count p_X10_count
  refine Rl_pI hV hF (by decide) (fun _ q1 hV hF => ?_)
  refine Rl_ite (fun _ => ?_) (fun _ => ?_)
  · refine Rl_gI hV (by decide) ?_
    exact Rl_ret hV hF
  · skip
    refine Rl_ite (fun _ => ?_) (fun _ => ?_)
    · refine Rl_gI hV (by decide) ?_
      exact Rl_ret hV hF
    · skip
      refine Rl_ite (fun _ => ?_) (fun _ => ?_)
      · refine Rl_gI hV (by decide) ?_
        exact Rl_ret hV hF
      · skip
        refine Rl_ite (fun _ => ?_) (fun _ => ?_)
        · refine Rl_gI hV (by decide) ?_
          exact Rl_ret hV hF
        · skip
          refine Rl_ite (fun _ => ?_) (fun _ => ?_)
          · refine Rl_gI hV (by decide) ?_
            exact Rl_ret hV hF
          · skip
            refine Rl_ite (fun _ => ?_) (fun _ => ?_)
            · refine Rl_gI hV (by decide) ?_
              exact Rl_ret hV hF
            · skip
              refine Rl_ite (fun _ => ?_) (fun _ => ?_)
              · refine Rl_gI hV (by decide) ?_
                exact Rl_ret hV hF
              · skip
                refine Rl_ite (fun _ => ?_) (fun _ => ?_)
                · exact qg_X10_count_97 h_hN _ q1 0 0 hV hF
                · skip
                  refine Rl_ite (fun _ => ?_) (fun _ => ?_)
                  · exact qg_X10_count_135 h_hN _ q1 0 0 hV hF
                  · skip
                    exact Rl_ret hV hF
