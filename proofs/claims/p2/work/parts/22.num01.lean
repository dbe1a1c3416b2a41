/-! X10_thrown -/
def p_X10_thrown (ms : MS)  : Option (Int32 × MS) :=
  some ((ms.1 0), ms)
set_option maxHeartbeats 4000000 in
set_option maxRecDepth 100000 in
theorem q_X10_thrown {σ : HS} {m : Nat} {A : Nat → Nat} {ms : MS} (hV : MV σ m A ms)  : Rl σ m A (f_X10_thrown σ (some m)) (p_X10_thrown ms ) := by
  have hF : MF σ σ m A := MF.rf
  unfold f_X10_thrown p_X10_thrown
  refine Rl_gI hV (by decide) ?_
  exact Rl_ret hV hF
/-! X10_in -/
def p_X10_in (ms : MS) (a0 : Int32) (a1 : Int32) (a2 : Int32) : Option (Int32 × MS) :=
  if a0 < a1 then
    some (0, ms)
  else
    if a2 < a0 then
      some (0, ms)
    else
      some (1, ms)
set_option maxHeartbeats 4000000 in
set_option maxRecDepth 100000 in
theorem q_X10_in {σ : HS} {m : Nat} {A : Nat → Nat} {ms : MS} (hV : MV σ m A ms) (a0 : Int32) (a1 : Int32) (a2 : Int32) : Rl σ m A (f_X10_in σ a0 a1 a2) (p_X10_in ms a0 a1 a2) := by
  have hF : MF σ σ m A := MF.rf
  unfold f_X10_in p_X10_in
  refine Rl_ite (fun _ => ?_) (fun _ => ?_)
  · exact Rl_ret hV hF
  · refine Rl_ite (fun _ => ?_) (fun _ => ?_)
    · exact Rl_ret hV hF
    · exact Rl_ret hV hF
/-! X10_begin -/
def p_X10_begin (ms : MS) (a0 : Int32) (a1 : Int32) (a2 : Int32) : Option (Int32 × MS) :=
  if a2 = 0 then
    some (1, ms)
  else
    if (h_ushr (a0 ^^^ a1) (32 - a2)) = 0 then
      some (1, ms)
    else
      some (0, ms)
set_option maxHeartbeats 4000000 in
set_option maxRecDepth 100000 in
theorem q_X10_begin {σ : HS} {m : Nat} {A : Nat → Nat} {ms : MS} (hV : MV σ m A ms) (a0 : Int32) (a1 : Int32) (a2 : Int32) : Rl σ m A (f_X10_begin σ a0 a1 a2) (p_X10_begin ms a0 a1 a2) := by
  have hF : MF σ σ m A := MF.rf
  unfold f_X10_begin p_X10_begin
  refine Rl_ite (fun _ => ?_) (fun _ => ?_)
  · exact Rl_ret hV hF
  · refine Rl_ite (fun _ => ?_) (fun _ => ?_)
    · exact Rl_ret hV hF
    · exact Rl_ret hV hF
/-! X10_isPrefix -/
def p_X10_isPrefix (ms : MS) (a0 : Int32) (a1 : Int32) : Option (Int32 × MS) :=
  k_bd (p_X10_in ms a1 0 32) fun r1 q2 =>
  if r1 = 0 then
    some (0, q2)
  else
    if a1 = 0 then
      if a0 = 0 then
        some (1, q2)
      else
        some (0, q2)
    else
      if a1 = 32 then
        some (1, q2)
      else
        if (a0 <<< (a1 &&& 31)) = 0 then
          some (1, q2)
        else
          some (0, q2)
set_option maxHeartbeats 4000000 in
set_option maxRecDepth 100000 in
theorem q_X10_isPrefix {σ : HS} {m : Nat} {A : Nat → Nat} {ms : MS} (hV : MV σ m A ms) (a0 : Int32) (a1 : Int32) : Rl σ m A (f_X10_isPrefix σ a0 a1) (p_X10_isPrefix ms a0 a1) := by
  have hF : MF σ σ m A := MF.rf
  unfold f_X10_isPrefix p_X10_isPrefix
  refine Rl_bd hF (q_X10_in hV _ _ _) (fun r1 _ q2 hV hF => ?_)
  refine Rl_ite (fun _ => ?_) (fun _ => ?_)
  · exact Rl_ret hV hF
  · refine Rl_ite (fun _ => ?_) (fun _ => ?_)
    · refine Rl_ite (fun _ => ?_) (fun _ => ?_)
      · exact Rl_ret hV hF
      · exact Rl_ret hV hF
    · refine Rl_ite (fun _ => ?_) (fun _ => ?_)
      · exact Rl_ret hV hF
      · refine Rl_ite (fun _ => ?_) (fun _ => ?_)
        · exact Rl_ret hV hF
        · exact Rl_ret hV hF
/-! X10_holds -/
def p_X10_holds (ms : MS) (a0 : Int32) (a1 : Int32) (a2 : Int32) (a3 : Int32) : Option (Int32 × MS) :=
  if a3 < a1 then
    some (0, ms)
  else
    k_bd (p_X10_begin ms a0 a2 a1) fun r1 q2 =>
    if r1 = 0 then
      some (0, q2)
    else
      some (1, q2)
set_option maxHeartbeats 4000000 in
set_option maxRecDepth 100000 in
theorem q_X10_holds {σ : HS} {m : Nat} {A : Nat → Nat} {ms : MS} (hV : MV σ m A ms) (a0 : Int32) (a1 : Int32) (a2 : Int32) (a3 : Int32) : Rl σ m A (f_X10_holds σ a0 a1 a2 a3) (p_X10_holds ms a0 a1 a2 a3) := by
  have hF : MF σ σ m A := MF.rf
  unfold f_X10_holds p_X10_holds
  refine Rl_ite (fun _ => ?_) (fun _ => ?_)
  · exact Rl_ret hV hF
  · refine Rl_bd hF (q_X10_begin hV _ _ _) (fun r1 _ q2 hV hF => ?_)
    refine Rl_ite (fun _ => ?_) (fun _ => ?_)
    · exact Rl_ret hV hF
    · exact Rl_ret hV hF
/-! X10_isServerAt -/
def p_X10_isServerAt (ms : MS) (a1 : Int32) : Option (Int32 × MS) :=
  k_bd (p_X10_in ms a1 0 7) fun r1 q2 =>
  if r1 = 0 then
    some (0, q2)
  else
    h_b1 (k_aI q2 3 a1) fun x3 =>
    if x3 = 0 then
      some (0, q2)
    else
      some (1, q2)
set_option maxHeartbeats 4000000 in
set_option maxRecDepth 100000 in
theorem q_X10_isServerAt {σ : HS} {m : Nat} {A : Nat → Nat} {ms : MS} (hV : MV σ m A ms) (a1 : Int32) : Rl σ m A (f_X10_isServerAt σ (some m) a1) (p_X10_isServerAt ms a1) := by
  have hF : MF σ σ m A := MF.rf
  unfold f_X10_isServerAt p_X10_isServerAt
  refine Rl_bd hF (q_X10_in hV _ _ _) (fun r1 _ q2 hV hF => ?_)
  refine Rl_ite (fun _ => ?_) (fun _ => ?_)
  · exact Rl_ret hV hF
  · refine Rl_gR hV (by decide) ?_
    refine Rl_aI hV (by decide) (by decide) (fun x3 => ?_)
    refine Rl_ite (fun _ => ?_) (fun _ => ?_)
    · exact Rl_ret hV hF
    · exact Rl_ret hV hF
/-! X10_isSite -/
def p_X10_isSite (ms : MS) (a1 : Int32) : Option (Int32 × MS) :=
  k_bd (p_X10_in ms a1 0 7) fun r1 q2 =>
  if r1 = 0 then
    some (0, q2)
  else
    h_b1 (k_aI q2 14 a1) fun x3 =>
    if x3 = (-1) then
      some (0, q2)
    else
      some (1, q2)
set_option maxHeartbeats 4000000 in
set_option maxRecDepth 100000 in
theorem q_X10_isSite {σ : HS} {m : Nat} {A : Nat → Nat} {ms : MS} (hV : MV σ m A ms) (a1 : Int32) : Rl σ m A (f_X10_isSite σ (some m) a1) (p_X10_isSite ms a1) := by
  have hF : MF σ σ m A := MF.rf
  unfold f_X10_isSite p_X10_isSite
  refine Rl_bd hF (q_X10_in hV _ _ _) (fun r1 _ q2 hV hF => ?_)
  refine Rl_ite (fun _ => ?_) (fun _ => ?_)
  · exact Rl_ret hV hF
  · refine Rl_gR hV (by decide) ?_
    refine Rl_aI hV (by decide) (by decide) (fun x3 => ?_)
    refine Rl_ite (fun _ => ?_) (fun _ => ?_)
    · exact Rl_ret hV hF
    · exact Rl_ret hV hF
/-! X10_owner -/
def pg_X10_owner_72 : Nat → MS → Int32 → Int32 → Int32 → Int32 → Option (Int32 × MS)
  | 0, _, _, _, _, _ => none
  | n + 1, ms, l1, l2, l3, l4 =>
    if 8 ≤ l4 then
      some (l3, ms)
    else
      if l4 = l3 then
        pg_X10_owner_72 n ms l1 l2 l3 (l4 + 1)
      else
        h_b1 (k_aI ms 3 l4) fun x1 =>
        if x1 = 0 then
          pg_X10_owner_72 n ms l1 l2 l3 (l4 + 1)
        else
          h_b1 (k_aI ms 4 l4) fun x2 =>
          h_b1 (k_aI ms 5 l4) fun x3 =>
          k_bd (p_X10_holds ms l1 l2 x2 x3) fun r4 q5 =>
          if r4 = 0 then
            pg_X10_owner_72 n q5 l1 l2 l3 (l4 + 1)
          else
            some ((-1), q5)
def pg_X10_owner_5 : Nat → MS → Int32 → Int32 → Int32 → Int32 → Option (Int32 × MS)
  | 0, _, _, _, _, _ => none
  | n + 1, ms, l1, l2, l3, l4 =>
    if 8 ≤ l4 then
      pg_X10_owner_72 h_hN ms l1 l2 l3 0
    else
      h_b1 (k_aI ms 3 l4) fun x6 =>
      if x6 = 0 then
        pg_X10_owner_5 n ms l1 l2 l3 (l4 + 1)
      else
        h_b1 (k_aI ms 4 l4) fun x7 =>
        h_b1 (k_aI ms 5 l4) fun x8 =>
        k_bd (p_X10_holds ms x7 x8 l1 l2) fun r9 q10 =>
        if r9 = 0 then
          pg_X10_owner_5 n q10 l1 l2 l3 (l4 + 1)
        else
          h_b1 (k_aI q10 5 l4) fun x11 =>
          h_b1 (k_aI q10 5 l3) fun x12 =>
          if x11 < x12 then
            pg_X10_owner_5 n q10 l1 l2 l3 (l4 + 1)
          else
            pg_X10_owner_5 n q10 l1 l2 l4 (l4 + 1)
def p_X10_owner (ms : MS) (a1 : Int32) (a2 : Int32) : Option (Int32 × MS) :=
  pg_X10_owner_5 h_hN ms a1 a2 0 0
set_option maxHeartbeats 4000000 in
set_option maxRecDepth 100000 in
theorem qg_X10_owner_72 {σ0 : HS} {m : Nat} {A : Nat → Nat} : ∀ (n : Nat) (σ : HS) (ms : MS) (l1 : Int32) (l2 : Int32) (l3 : Int32) (l4 : Int32), MV σ m A ms → MF σ0 σ m A → Rl σ0 m A (g_X10_owner_72 n σ (some m) l1 l2 l3 l4) (pg_X10_owner_72 n ms l1 l2 l3 l4) := by
  intro n
  induction n with
  | zero =>
    intro σ ms l1 l2 l3 l4 hV hF
    rw [pg_X10_owner_72]
    exact Rl_none
  | succ n ih =>
    intro σ ms l1 l2 l3 l4 hV hF
    rw [pg_X10_owner_72, g_X10_owner_72]
    refine Rl_ite (fun _ => ?_) (fun _ => ?_)
    · exact Rl_ret hV hF
    · refine Rl_ite (fun _ => ?_) (fun _ => ?_)
      · exact ih _ ms l1 l2 l3 (l4 + 1) hV hF
      · refine Rl_gR hV (by decide) ?_
        refine Rl_aI hV (by decide) (by decide) (fun x1 => ?_)
        refine Rl_ite (fun _ => ?_) (fun _ => ?_)
        · exact ih _ ms l1 l2 l3 (l4 + 1) hV hF
        · refine Rl_gR hV (by decide) ?_
          refine Rl_aI hV (by decide) (by decide) (fun x2 => ?_)
          refine Rl_gR hV (by decide) ?_
          refine Rl_aI hV (by decide) (by decide) (fun x3 => ?_)
          refine Rl_bd hF (q_X10_holds hV _ _ _ _) (fun r4 _ q5 hV hF => ?_)
          refine Rl_ite (fun _ => ?_) (fun _ => ?_)
          · exact ih _ q5 l1 l2 l3 (l4 + 1) hV hF
          · exact Rl_ret hV hF
set_option maxHeartbeats 4000000 in
set_option maxRecDepth 100000 in
theorem qg_X10_owner_5 {σ0 : HS} {m : Nat} {A : Nat → Nat} : ∀ (n : Nat) (σ : HS) (ms : MS) (l1 : Int32) (l2 : Int32) (l3 : Int32) (l4 : Int32), MV σ m A ms → MF σ0 σ m A → Rl σ0 m A (g_X10_owner_5 n σ (some m) l1 l2 l3 l4) (pg_X10_owner_5 n ms l1 l2 l3 l4) := by
  intro n
  induction n with
  | zero =>
    intro σ ms l1 l2 l3 l4 hV hF
    rw [pg_X10_owner_5]
    exact Rl_none
  | succ n ih =>
    intro σ ms l1 l2 l3 l4 hV hF
    rw [pg_X10_owner_5, g_X10_owner_5]
    refine Rl_ite (fun _ => ?_) (fun _ => ?_)
    · exact qg_X10_owner_72 h_hN _ ms l1 l2 l3 0 hV hF
    · refine Rl_gR hV (by decide) ?_
      refine Rl_aI hV (by decide) (by decide) (fun x6 => ?_)
      refine Rl_ite (fun _ => ?_) (fun _ => ?_)
      · exact ih _ ms l1 l2 l3 (l4 + 1) hV hF
      · refine Rl_gR hV (by decide) ?_
        refine Rl_aI hV (by decide) (by decide) (fun x7 => ?_)
        refine Rl_gR hV (by decide) ?_
        refine Rl_aI hV (by decide) (by decide) (fun x8 => ?_)
        refine Rl_bd hF (q_X10_holds hV _ _ _ _) (fun r9 _ q10 hV hF => ?_)
        refine Rl_ite (fun _ => ?_) (fun _ => ?_)
        · exact ih _ q10 l1 l2 l3 (l4 + 1) hV hF
        · refine Rl_gR hV (by decide) ?_
          refine Rl_aI hV (by decide) (by decide) (fun x11 => ?_)
          refine Rl_gR hV (by decide) ?_
          refine Rl_aI hV (by decide) (by decide) (fun x12 => ?_)
          refine Rl_ite (fun _ => ?_) (fun _ => ?_)
          · exact ih _ q10 l1 l2 l3 (l4 + 1) hV hF
          · exact ih _ q10 l1 l2 l4 (l4 + 1) hV hF
set_option maxHeartbeats 4000000 in
set_option maxRecDepth 100000 in
theorem q_X10_owner {σ : HS} {m : Nat} {A : Nat → Nat} {ms : MS} (hV : MV σ m A ms) (a1 : Int32) (a2 : Int32) : Rl σ m A (f_X10_owner σ (some m) a1 a2) (p_X10_owner ms a1 a2) := by
  have hF : MF σ σ m A := MF.rf
  unfold f_X10_owner p_X10_owner
  exact qg_X10_owner_5 h_hN _ ms a1 a2 0 0 hV hF
/-! X10_delegate -/
def pj_X10_delegate_79 (ms : MS) (l1 : Int32) (l2 : Int32) (l3 : Int32) (l4 : Int32) : Option (Unit × MS) :=
  if (ms.1 0) ≤ 0 then
    h_b1 (k_sI ms 3 l2 1) fun q4 =>
    h_b1 (k_sI q4 4 l2 l3) fun q5 =>
    h_b1 (k_sI q5 5 l2 l4) fun q6 =>
    h_b1 (k_sI q6 6 l2 l1) fun q7 =>
    some ((), q7)
  else
    some ((), ms)
def pj_X10_delegate_74 (ms : MS) (l1 : Int32) (l2 : Int32) (l3 : Int32) (l4 : Int32) : Option (Unit × MS) :=
  k_lt (k_pI ms 0 1) fun q10 =>
  pj_X10_delegate_79 q10 l1 l2 l3 l4
def pj_X10_delegate_42 (ms : MS) (l1 : Int32) (l2 : Int32) (l3 : Int32) (l4 : Int32) (t0 : Int32) : Option (Unit × MS) :=
  k_lt (k_pI ms 0 t0) fun q3 =>
  if (q3.1 0) = 0 then
    k_bd (p_X10_owner q3 l3 l4) fun r8 q9 =>
    if r8 = l1 then
      h_b1 (k_aI q9 5 l1) fun x11 =>
      if x11 = l4 then
        pj_X10_delegate_74 q9 l1 l2 l3 l4
      else
        pj_X10_delegate_79 q9 l1 l2 l3 l4
    else
      pj_X10_delegate_74 q9 l1 l2 l3 l4
  else
    pj_X10_delegate_79 q3 l1 l2 l3 l4
def pj_X10_delegate_41 (ms : MS) (l1 : Int32) (l2 : Int32) (l3 : Int32) (l4 : Int32) : Option (Unit × MS) :=
  pj_X10_delegate_42 ms l1 l2 l3 l4 1
def p_X10_delegate (ms : MS) (a1 : Int32) (a2 : Int32) (a3 : Int32) (a4 : Int32) : Option (Unit × MS) :=
  k_bd (p_X10_isServerAt ms a1) fun r1 q2 =>
  if r1 = 0 then
    pj_X10_delegate_41 q2 a1 a2 a3 a4
  else
    k_bd (p_X10_in q2 a2 0 7) fun r12 q13 =>
    if r12 = 0 then
      pj_X10_delegate_41 q13 a1 a2 a3 a4
    else
      h_b1 (k_aI q13 3 a2) fun x14 =>
      if x14 = 0 then
        k_bd (p_X10_isPrefix q13 a3 a4) fun r15 q16 =>
        if r15 = 0 then
          pj_X10_delegate_41 q16 a1 a2 a3 a4
        else
          pj_X10_delegate_42 q16 a1 a2 a3 a4 0
      else
        pj_X10_delegate_41 q13 a1 a2 a3 a4
set_option maxHeartbeats 4000000 in
set_option maxRecDepth 100000 in
theorem qj_X10_delegate_79 {σ0 : HS} {m : Nat} {A : Nat → Nat} (σ : HS) (ms : MS) (l1 : Int32) (l2 : Int32) (l3 : Int32) (l4 : Int32) (hV : MV σ m A ms) (hF : MF σ0 σ m A) : Rl σ0 m A (j_X10_delegate_79 σ (some m) l1 l2 l3 l4) (pj_X10_delegate_79 ms l1 l2 l3 l4) := by
  unfold j_X10_delegate_79 pj_X10_delegate_79
  refine Rl_gI hV (by decide) ?_
  refine Rl_ite (fun _ => ?_) (fun _ => ?_)
  · refine Rl_gR hV (by decide) ?_
    refine Rl_sI hV hF (by decide) (by decide) (fun _ q4 hV hF => ?_)
    refine Rl_gR hV (by decide) ?_
    refine Rl_sI hV hF (by decide) (by decide) (fun _ q5 hV hF => ?_)
    refine Rl_gR hV (by decide) ?_
    refine Rl_sI hV hF (by decide) (by decide) (fun _ q6 hV hF => ?_)
    refine Rl_gR hV (by decide) ?_
    refine Rl_sI hV hF (by decide) (by decide) (fun _ q7 hV hF => ?_)
    exact Rl_ret hV hF
  · exact Rl_ret hV hF
set_option maxHeartbeats 4000000 in
set_option maxRecDepth 100000 in
theorem qj_X10_delegate_74 {σ0 : HS} {m : Nat} {A : Nat → Nat} (σ : HS) (ms : MS) (l1 : Int32) (l2 : Int32) (l3 : Int32) (l4 : Int32) (hV : MV σ m A ms) (hF : MF σ0 σ m A) : Rl σ0 m A (j_X10_delegate_74 σ (some m) l1 l2 l3 l4) (pj_X10_delegate_74 ms l1 l2 l3 l4) := by
  unfold j_X10_delegate_74 pj_X10_delegate_74
  refine Rl_pI hV hF (by decide) (fun _ q10 hV hF => ?_)
  exact qj_X10_delegate_79 _ q10 l1 l2 l3 l4 hV hF
set_option maxHeartbeats 4000000 in
set_option maxRecDepth 100000 in
theorem qj_X10_delegate_42 {σ0 : HS} {m : Nat} {A : Nat → Nat} (σ : HS) (ms : MS) (l1 : Int32) (l2 : Int32) (l3 : Int32) (l4 : Int32) (t0 : Int32) (hV : MV σ m A ms) (hF : MF σ0 σ m A) : Rl σ0 m A (j_X10_delegate_42 σ (some m) l1 l2 l3 l4 t0 (some m)) (pj_X10_delegate_42 ms l1 l2 l3 l4 t0) := by
  unfold j_X10_delegate_42 pj_X10_delegate_42
  refine Rl_pI hV hF (by decide) (fun _ q3 hV hF => ?_)
  refine Rl_gI hV (by decide) ?_
  refine Rl_ite (fun _ => ?_) (fun _ => ?_)
  · refine Rl_rcv hV ?_
    refine Rl_bd hF (q_X10_owner hV _ _) (fun r8 _ q9 hV hF => ?_)
    refine Rl_ite (fun _ => ?_) (fun _ => ?_)
    · refine Rl_gR hV (by decide) ?_
      refine Rl_aI hV (by decide) (by decide) (fun x11 => ?_)
      refine Rl_ite (fun _ => ?_) (fun _ => ?_)
      · exact qj_X10_delegate_74 _ q9 l1 l2 l3 l4 hV hF
      · exact qj_X10_delegate_79 _ q9 l1 l2 l3 l4 hV hF
    · exact qj_X10_delegate_74 _ q9 l1 l2 l3 l4 hV hF
  · exact qj_X10_delegate_79 _ q3 l1 l2 l3 l4 hV hF
set_option maxHeartbeats 4000000 in
set_option maxRecDepth 100000 in
theorem qj_X10_delegate_41 {σ0 : HS} {m : Nat} {A : Nat → Nat} (σ : HS) (ms : MS) (l1 : Int32) (l2 : Int32) (l3 : Int32) (l4 : Int32) (hV : MV σ m A ms) (hF : MF σ0 σ m A) : Rl σ0 m A (j_X10_delegate_41 σ (some m) l1 l2 l3 l4 (some m)) (pj_X10_delegate_41 ms l1 l2 l3 l4) := by
  unfold j_X10_delegate_41 pj_X10_delegate_41
  exact qj_X10_delegate_42 _ ms l1 l2 l3 l4 1 hV hF
set_option maxHeartbeats 4000000 in
set_option maxRecDepth 100000 in
theorem q_X10_delegate {σ : HS} {m : Nat} {A : Nat → Nat} {ms : MS} (hV : MV σ m A ms) (a1 : Int32) (a2 : Int32) (a3 : Int32) (a4 : Int32) : Rl σ m A (f_X10_delegate σ (some m) a1 a2 a3 a4) (p_X10_delegate ms a1 a2 a3 a4) := by
  have hF : MF σ σ m A := MF.rf
  unfold f_X10_delegate p_X10_delegate
  refine Rl_rcv hV ?_
  refine Rl_bd hF (q_X10_isServerAt hV _) (fun r1 _ q2 hV hF => ?_)
  refine Rl_ite (fun _ => ?_) (fun _ => ?_)
  · exact qj_X10_delegate_41 _ q2 a1 a2 a3 a4 hV hF
  · refine Rl_bd hF (q_X10_in hV _ _ _) (fun r12 _ q13 hV hF => ?_)
    refine Rl_ite (fun _ => ?_) (fun _ => ?_)
    · exact qj_X10_delegate_41 _ q13 a1 a2 a3 a4 hV hF
    · refine Rl_gR hV (by decide) ?_
      refine Rl_aI hV (by decide) (by decide) (fun x14 => ?_)
      refine Rl_ite (fun _ => ?_) (fun _ => ?_)
      · refine Rl_bd hF (q_X10_isPrefix hV _ _) (fun r15 _ q16 hV hF => ?_)
        refine Rl_ite (fun _ => ?_) (fun _ => ?_)
        · exact qj_X10_delegate_41 _ q16 a1 a2 a3 a4 hV hF
        · exact qj_X10_delegate_42 _ q16 a1 a2 a3 a4 0 hV hF
      · exact qj_X10_delegate_41 _ q13 a1 a2 a3 a4 hV hF
/-! X10_siteAt -/
def pg_X10_siteAt_2 : Nat → MS → Int32 → Int32 → Option (Int32 × MS)
  | 0, _, _, _ => none
  | n + 1, ms, l1, l2 =>
    if 8 ≤ l2 then
      some ((-1), ms)
    else
      h_b1 (k_aI ms 14 l2) fun x1 =>
      if x1 = l1 then
        some (l2, ms)
      else
        pg_X10_siteAt_2 n ms l1 (l2 + 1)
def p_X10_siteAt (ms : MS) (a1 : Int32) : Option (Int32 × MS) :=
  pg_X10_siteAt_2 h_hN ms a1 0
set_option maxHeartbeats 4000000 in
set_option maxRecDepth 100000 in
theorem qg_X10_siteAt_2 {σ0 : HS} {m : Nat} {A : Nat → Nat} : ∀ (n : Nat) (σ : HS) (ms : MS) (l1 : Int32) (l2 : Int32), MV σ m A ms → MF σ0 σ m A → Rl σ0 m A (g_X10_siteAt_2 n σ (some m) l1 l2) (pg_X10_siteAt_2 n ms l1 l2) := by
  intro n
  induction n with
  | zero =>
    intro σ ms l1 l2 hV hF
    rw [pg_X10_siteAt_2]
    exact Rl_none
  | succ n ih =>
    intro σ ms l1 l2 hV hF
    rw [pg_X10_siteAt_2, g_X10_siteAt_2]
    refine Rl_ite (fun _ => ?_) (fun _ => ?_)
    · exact Rl_ret hV hF
    · refine Rl_gR hV (by decide) ?_
      refine Rl_aI hV (by decide) (by decide) (fun x1 => ?_)
      refine Rl_ite (fun _ => ?_) (fun _ => ?_)
      · exact Rl_ret hV hF
      · exact ih _ ms l1 (l2 + 1) hV hF
set_option maxHeartbeats 4000000 in
set_option maxRecDepth 100000 in
theorem q_X10_siteAt {σ : HS} {m : Nat} {A : Nat → Nat} {ms : MS} (hV : MV σ m A ms) (a1 : Int32) : Rl σ m A (f_X10_siteAt σ (some m) a1) (p_X10_siteAt ms a1) := by
  have hF : MF σ σ m A := MF.rf
  unfold f_X10_siteAt p_X10_siteAt
  exact qg_X10_siteAt_2 h_hN _ ms a1 0 hV hF
/-! X10_site -/
def pj_X10_site_45 (ms : MS) (l1 : Int32) (l2 : Int32) (t0 : Int32) : Option (Unit × MS) :=
  k_lt (k_pI ms 0 t0) fun q3 =>
  if (q3.1 0) = 0 then
    h_b1 (k_sI q3 14 l1 l2) fun q4 =>
    some ((), q4)
  else
    some ((), q3)
def pj_X10_site_44 (ms : MS) (l1 : Int32) (l2 : Int32) : Option (Unit × MS) :=
  pj_X10_site_45 ms l1 l2 1
def p_X10_site (ms : MS) (a1 : Int32) (a2 : Int32) : Option (Unit × MS) :=
  k_bd (p_X10_in ms a1 0 7) fun r1 q2 =>
  if r1 = 0 then
    pj_X10_site_44 q2 a1 a2
  else
    h_b1 (k_aI q2 14 a1) fun x5 =>
    if x5 = (-1) then
      k_bd (p_X10_in q2 a2 0 15) fun r6 q7 =>
      if r6 = 0 then
        pj_X10_site_44 q7 a1 a2
      else
        k_bd (p_X10_siteAt q7 a2) fun r8 q9 =>
        if r8 = (-1) then
          pj_X10_site_45 q9 a1 a2 0
        else
          pj_X10_site_44 q9 a1 a2
    else
      pj_X10_site_44 q2 a1 a2
set_option maxHeartbeats 4000000 in
set_option maxRecDepth 100000 in
theorem qj_X10_site_45 {σ0 : HS} {m : Nat} {A : Nat → Nat} (σ : HS) (ms : MS) (l1 : Int32) (l2 : Int32) (t0 : Int32) (hV : MV σ m A ms) (hF : MF σ0 σ m A) : Rl σ0 m A (j_X10_site_45 σ (some m) l1 l2 t0 (some m)) (pj_X10_site_45 ms l1 l2 t0) := by
  unfold j_X10_site_45 pj_X10_site_45
  refine Rl_pI hV hF (by decide) (fun _ q3 hV hF => ?_)
  refine Rl_gI hV (by decide) ?_
  refine Rl_ite (fun _ => ?_) (fun _ => ?_)
  · refine Rl_gR hV (by decide) ?_
    refine Rl_sI hV hF (by decide) (by decide) (fun _ q4 hV hF => ?_)
    exact Rl_ret hV hF
  · exact Rl_ret hV hF
set_option maxHeartbeats 4000000 in
set_option maxRecDepth 100000 in
theorem qj_X10_site_44 {σ0 : HS} {m : Nat} {A : Nat → Nat} (σ : HS) (ms : MS) (l1 : Int32) (l2 : Int32) (hV : MV σ m A ms) (hF : MF σ0 σ m A) : Rl σ0 m A (j_X10_site_44 σ (some m) l1 l2 (some m)) (pj_X10_site_44 ms l1 l2) := by
  unfold j_X10_site_44 pj_X10_site_44
  exact qj_X10_site_45 _ ms l1 l2 1 hV hF
set_option maxHeartbeats 4000000 in
set_option maxRecDepth 100000 in
theorem q_X10_site {σ : HS} {m : Nat} {A : Nat → Nat} {ms : MS} (hV : MV σ m A ms) (a1 : Int32) (a2 : Int32) : Rl σ m A (f_X10_site σ (some m) a1 a2) (p_X10_site ms a1 a2) := by
  have hF : MF σ σ m A := MF.rf
  unfold f_X10_site p_X10_site
  refine Rl_bd hF (q_X10_in hV _ _ _) (fun r1 _ q2 hV hF => ?_)
  refine Rl_ite (fun _ => ?_) (fun _ => ?_)
  · exact qj_X10_site_44 _ q2 a1 a2 hV hF
  · refine Rl_gR hV (by decide) ?_
    refine Rl_aI hV (by decide) (by decide) (fun x5 => ?_)
    refine Rl_ite (fun _ => ?_) (fun _ => ?_)
    · refine Rl_bd hF (q_X10_in hV _ _ _) (fun r6 _ q7 hV hF => ?_)
      refine Rl_ite (fun _ => ?_) (fun _ => ?_)
      · exact qj_X10_site_44 _ q7 a1 a2 hV hF
      · refine Rl_rcv hV ?_
        refine Rl_bd hF (q_X10_siteAt hV _) (fun r8 _ q9 hV hF => ?_)
        refine Rl_ite (fun _ => ?_) (fun _ => ?_)
        · exact qj_X10_site_45 _ q9 a1 a2 0 hV hF
        · exact qj_X10_site_44 _ q9 a1 a2 hV hF
    · exact qj_X10_site_44 _ q2 a1 a2 hV hF
/-! X10_prefix -/
def pj_X10_prefix_111 (ms : MS) (l1 : Int32) (l2 : Int32) (l3 : Int32) : Option (Int32 × MS) :=
  if (ms.1 0) ≤ 0 then
    h_b1 (k_aI ms 15 l1) fun x4 =>
    h_b1 (k_sI ms 16 ((4 * l1) + x4) l2) fun q5 =>
    h_b1 (k_aI q5 15 l1) fun x6 =>
    h_b1 (k_sI q5 17 ((4 * l1) + x6) l3) fun q7 =>
    h_b1 (k_aI q7 15 l1) fun x8 =>
    h_b1 (k_sI q7 15 l1 (x8 + 1)) fun q9 =>
    h_b1 (k_aI q9 15 l1) fun x10 =>
    some ((x10 - 1), q9)
  else
    some (0, ms)
def pg_X10_prefix_48 : Nat → MS → Int32 → Int32 → Int32 → Int32 → Option (Int32 × MS)
  | 0, _, _, _, _, _ => none
  | n + 1, ms, l1, l2, l3, l4 =>
    if 32 ≤ l4 then
      pj_X10_prefix_111 ms l1 l2 l3
    else
      if (ms.1 0) = 0 then
        h_b1 (k_aI ms 15 (l4 / 4)) fun x11 =>
        if x11 ≤ (l4 - l4 / 4 * 4) then
          pg_X10_prefix_48 n ms l1 l2 l3 (l4 + 1)
        else
          h_b1 (k_aI ms 16 l4) fun x12 =>
          if x12 = l2 then
            h_b1 (k_aI ms 17 l4) fun x13 =>
            if x13 = l3 then
              k_lt (k_pI ms 0 1) fun q14 =>
              pg_X10_prefix_48 n q14 l1 l2 l3 (l4 + 1)
            else
              pg_X10_prefix_48 n ms l1 l2 l3 (l4 + 1)
          else
            pg_X10_prefix_48 n ms l1 l2 l3 (l4 + 1)
      else
        pj_X10_prefix_111 ms l1 l2 l3
def p_X10_prefix (ms : MS) (a1 : Int32) (a2 : Int32) (a3 : Int32) : Option (Int32 × MS) :=
  k_bd (p_X10_isSite ms a1) fun r1 q2 =>
  if r1 = 0 then
    k_lt (k_pI q2 0 1) fun q3 =>
    pg_X10_prefix_48 h_hN q3 a1 a2 a3 0
  else
    h_b1 (k_aI q2 15 a1) fun x15 =>
    if 4 ≤ x15 then
      k_lt (k_pI q2 0 1) fun q16 =>
      pg_X10_prefix_48 h_hN q16 a1 a2 a3 0
    else
      k_bd (p_X10_isPrefix q2 a2 a3) fun r17 q18 =>
      if r17 = 0 then
        k_lt (k_pI q18 0 1) fun q19 =>
        pg_X10_prefix_48 h_hN q19 a1 a2 a3 0
      else
        k_bd (p_X10_owner q18 a2 a3) fun r20 q21 =>
        if r20 = (-1) then
          k_lt (k_pI q21 0 1) fun q22 =>
          pg_X10_prefix_48 h_hN q22 a1 a2 a3 0
        else
          k_lt (k_pI q21 0 0) fun q23 =>
          pg_X10_prefix_48 h_hN q23 a1 a2 a3 0
set_option maxHeartbeats 4000000 in
set_option maxRecDepth 100000 in
theorem qj_X10_prefix_111 {σ0 : HS} {m : Nat} {A : Nat → Nat} (σ : HS) (ms : MS) (l1 : Int32) (l2 : Int32) (l3 : Int32) (hV : MV σ m A ms) (hF : MF σ0 σ m A) : Rl σ0 m A (j_X10_prefix_111 σ (some m) l1 l2 l3) (pj_X10_prefix_111 ms l1 l2 l3) := by
  unfold j_X10_prefix_111 pj_X10_prefix_111
  refine Rl_gI hV (by decide) ?_
  refine Rl_ite (fun _ => ?_) (fun _ => ?_)
  · refine Rl_gR hV (by decide) ?_
    refine Rl_gR hV (by decide) ?_
    refine Rl_aI hV (by decide) (by decide) (fun x4 => ?_)
    refine Rl_sI hV hF (by decide) (by decide) (fun _ q5 hV hF => ?_)
    refine Rl_gR hV (by decide) ?_
    refine Rl_gR hV (by decide) ?_
    refine Rl_aI hV (by decide) (by decide) (fun x6 => ?_)
    refine Rl_sI hV hF (by decide) (by decide) (fun _ q7 hV hF => ?_)
    refine Rl_gR hV (by decide) ?_
    refine Rl_aI hV (by decide) (by decide) (fun x8 => ?_)
    refine Rl_sI hV hF (by decide) (by decide) (fun _ q9 hV hF => ?_)
    refine Rl_gR hV (by decide) ?_
    refine Rl_aI hV (by decide) (by decide) (fun x10 => ?_)
    exact Rl_ret hV hF
  · exact Rl_ret hV hF
set_option maxHeartbeats 4000000 in
set_option maxRecDepth 100000 in
theorem qg_X10_prefix_48 {σ0 : HS} {m : Nat} {A : Nat → Nat} : ∀ (n : Nat) (σ : HS) (ms : MS) (l1 : Int32) (l2 : Int32) (l3 : Int32) (l4 : Int32), MV σ m A ms → MF σ0 σ m A → Rl σ0 m A (g_X10_prefix_48 n σ (some m) l1 l2 l3 l4) (pg_X10_prefix_48 n ms l1 l2 l3 l4) := by
  intro n
  induction n with
  | zero =>
    intro σ ms l1 l2 l3 l4 hV hF
    rw [pg_X10_prefix_48]
    exact Rl_none
  | succ n ih =>
    intro σ ms l1 l2 l3 l4 hV hF
    rw [pg_X10_prefix_48, g_X10_prefix_48]
    refine Rl_ite (fun _ => ?_) (fun _ => ?_)
    · exact qj_X10_prefix_111 _ ms l1 l2 l3 hV hF
    · refine Rl_gI hV (by decide) ?_
      refine Rl_ite (fun _ => ?_) (fun _ => ?_)
      · refine Rl_gR hV (by decide) ?_
        refine Rl_aI hV (by decide) (by decide) (fun x11 => ?_)
        refine Rl_ite (fun _ => ?_) (fun _ => ?_)
        · exact ih _ ms l1 l2 l3 (l4 + 1) hV hF
        · refine Rl_gR hV (by decide) ?_
          refine Rl_aI hV (by decide) (by decide) (fun x12 => ?_)
          refine Rl_ite (fun _ => ?_) (fun _ => ?_)
          · refine Rl_gR hV (by decide) ?_
            refine Rl_aI hV (by decide) (by decide) (fun x13 => ?_)
            refine Rl_ite (fun _ => ?_) (fun _ => ?_)
            · refine Rl_pI hV hF (by decide) (fun _ q14 hV hF => ?_)
              exact ih _ q14 l1 l2 l3 (l4 + 1) hV hF
            · exact ih _ ms l1 l2 l3 (l4 + 1) hV hF
          · exact ih _ ms l1 l2 l3 (l4 + 1) hV hF
      · exact qj_X10_prefix_111 _ ms l1 l2 l3 hV hF
set_option maxHeartbeats 4000000 in
set_option maxRecDepth 100000 in
theorem q_X10_prefix {σ : HS} {m : Nat} {A : Nat → Nat} {ms : MS} (hV : MV σ m A ms) (a1 : Int32) (a2 : Int32) (a3 : Int32) : Rl σ m A (f_X10_prefix σ (some m) a1 a2 a3) (p_X10_prefix ms a1 a2 a3) := by
  have hF : MF σ σ m A := MF.rf
  unfold f_X10_prefix p_X10_prefix
  refine Rl_rcv hV ?_
  refine Rl_bd hF (q_X10_isSite hV _) (fun r1 _ q2 hV hF => ?_)
  refine Rl_ite (fun _ => ?_) (fun _ => ?_)
  · refine Rl_pI hV hF (by decide) (fun _ q3 hV hF => ?_)
    exact qg_X10_prefix_48 h_hN _ q3 a1 a2 a3 0 hV hF
  · refine Rl_gR hV (by decide) ?_
    refine Rl_aI hV (by decide) (by decide) (fun x15 => ?_)
    refine Rl_ite (fun _ => ?_) (fun _ => ?_)
    · refine Rl_pI hV hF (by decide) (fun _ q16 hV hF => ?_)
      exact qg_X10_prefix_48 h_hN _ q16 a1 a2 a3 0 hV hF
    · refine Rl_bd hF (q_X10_isPrefix hV _ _) (fun r17 _ q18 hV hF => ?_)
      refine Rl_ite (fun _ => ?_) (fun _ => ?_)
      · refine Rl_pI hV hF (by decide) (fun _ q19 hV hF => ?_)
        exact qg_X10_prefix_48 h_hN _ q19 a1 a2 a3 0 hV hF
      · refine Rl_rcv hV ?_
        refine Rl_bd hF (q_X10_owner hV _ _) (fun r20 _ q21 hV hF => ?_)
        refine Rl_ite (fun _ => ?_) (fun _ => ?_)
        · refine Rl_pI hV hF (by decide) (fun _ q22 hV hF => ?_)
          exact qg_X10_prefix_48 h_hN _ q22 a1 a2 a3 0 hV hF
        · refine Rl_pI hV hF (by decide) (fun _ q23 hV hF => ?_)
          exact qg_X10_prefix_48 h_hN _ q23 a1 a2 a3 0 hV hF
/-! X10_move -/
def pj_X10_move_33 (ms : MS) (l1 : Int32) (l2 : Int32) (t0 : Int32) : Option (Unit × MS) :=
  k_lt (k_pI ms 0 t0) fun q3 =>
  if (q3.1 0) ≤ 0 then
    h_b1 (k_aI q3 14 l1) fun x4 =>
    h_b1 (k_sI q3 26 x4 l1) fun q5 =>
    h_b1 (k_aI q5 14 l1) fun x6 =>
    h_b1 (k_sI q5 27 x6 ((q5.1 1) + 30)) fun q7 =>
    h_b1 (k_sI q7 14 l1 l2) fun q8 =>
    some ((), q8)
  else
    some ((), q3)
def pj_X10_move_32 (ms : MS) (l1 : Int32) (l2 : Int32) : Option (Unit × MS) :=
  pj_X10_move_33 ms l1 l2 1
def p_X10_move (ms : MS) (a1 : Int32) (a2 : Int32) : Option (Unit × MS) :=
  k_bd (p_X10_isSite ms a1) fun r1 q2 =>
  if r1 = 0 then
    pj_X10_move_32 q2 a1 a2
  else
    k_bd (p_X10_in q2 a2 0 15) fun r9 q10 =>
    if r9 = 0 then
      pj_X10_move_32 q10 a1 a2
    else
      k_bd (p_X10_siteAt q10 a2) fun r11 q12 =>
      if r11 = (-1) then
        pj_X10_move_33 q12 a1 a2 0
      else
        pj_X10_move_32 q12 a1 a2
set_option maxHeartbeats 4000000 in
set_option maxRecDepth 100000 in
theorem qj_X10_move_33 {σ0 : HS} {m : Nat} {A : Nat → Nat} (σ : HS) (ms : MS) (l1 : Int32) (l2 : Int32) (t0 : Int32) (hV : MV σ m A ms) (hF : MF σ0 σ m A) : Rl σ0 m A (j_X10_move_33 σ (some m) l1 l2 t0 (some m)) (pj_X10_move_33 ms l1 l2 t0) := by
  unfold j_X10_move_33 pj_X10_move_33
  refine Rl_pI hV hF (by decide) (fun _ q3 hV hF => ?_)
  refine Rl_gI hV (by decide) ?_
  refine Rl_ite (fun _ => ?_) (fun _ => ?_)
  · refine Rl_gR hV (by decide) ?_
    refine Rl_gR hV (by decide) ?_
    refine Rl_aI hV (by decide) (by decide) (fun x4 => ?_)
    refine Rl_sI hV hF (by decide) (by decide) (fun _ q5 hV hF => ?_)
    refine Rl_gR hV (by decide) ?_
    refine Rl_gR hV (by decide) ?_
    refine Rl_aI hV (by decide) (by decide) (fun x6 => ?_)
    refine Rl_gI hV (by decide) ?_
    refine Rl_sI hV hF (by decide) (by decide) (fun _ q7 hV hF => ?_)
    refine Rl_gR hV (by decide) ?_
    refine Rl_sI hV hF (by decide) (by decide) (fun _ q8 hV hF => ?_)
    exact Rl_ret hV hF
  · exact Rl_ret hV hF
set_option maxHeartbeats 4000000 in
set_option maxRecDepth 100000 in
theorem qj_X10_move_32 {σ0 : HS} {m : Nat} {A : Nat → Nat} (σ : HS) (ms : MS) (l1 : Int32) (l2 : Int32) (hV : MV σ m A ms) (hF : MF σ0 σ m A) : Rl σ0 m A (j_X10_move_32 σ (some m) l1 l2 (some m)) (pj_X10_move_32 ms l1 l2) := by
  unfold j_X10_move_32 pj_X10_move_32
  exact qj_X10_move_33 _ ms l1 l2 1 hV hF
set_option maxHeartbeats 4000000 in
set_option maxRecDepth 100000 in
theorem q_X10_move {σ : HS} {m : Nat} {A : Nat → Nat} {ms : MS} (hV : MV σ m A ms) (a1 : Int32) (a2 : Int32) : Rl σ m A (f_X10_move σ (some m) a1 a2) (p_X10_move ms a1 a2) := by
  have hF : MF σ σ m A := MF.rf
  unfold f_X10_move p_X10_move
  refine Rl_rcv hV ?_
  refine Rl_bd hF (q_X10_isSite hV _) (fun r1 _ q2 hV hF => ?_)
  refine Rl_ite (fun _ => ?_) (fun _ => ?_)
  · exact qj_X10_move_32 _ q2 a1 a2 hV hF
  · refine Rl_bd hF (q_X10_in hV _ _ _) (fun r9 _ q10 hV hF => ?_)
    refine Rl_ite (fun _ => ?_) (fun _ => ?_)
    · exact qj_X10_move_32 _ q10 a1 a2 hV hF
    · refine Rl_rcv hV ?_
      refine Rl_bd hF (q_X10_siteAt hV _) (fun r11 _ q12 hV hF => ?_)
      refine Rl_ite (fun _ => ?_) (fun _ => ?_)
      · exact qj_X10_move_33 _ q12 a1 a2 0 hV hF
      · exact qj_X10_move_32 _ q12 a1 a2 hV hF
/-! X10_post -/
def p_X10_post (ms : MS) (a1 : Int32) (a2 : Int32) (a3 : Int32) (a4 : Int32) (a5 : Int32) (a6 : Int32) (a7 : Int32) : Option (Unit × MS) :=
  if (ms.1 36) = 200 then
    k_lt (k_pI ms 42 ((ms.1 42) + 1)) fun q10 =>
    some ((), q10)
  else
    h_b1 (k_sI ms 37 (8 * (ms.1 36)) a3) fun q1 =>
    h_b1 (k_sI q1 37 ((8 * (ms.1 36)) + 1) a4) fun q2 =>
    h_b1 (k_sI q2 37 ((8 * (ms.1 36)) + 2) a5) fun q3 =>
    h_b1 (k_sI q3 37 ((8 * (ms.1 36)) + 3) a6) fun q4 =>
    h_b1 (k_sI q4 37 ((8 * (ms.1 36)) + 4) a7) fun q5 =>
    h_b1 (k_sI q5 37 ((8 * (ms.1 36)) + 5) 0) fun q6 =>
    h_b1 (k_sI q6 37 ((8 * (ms.1 36)) + 6) a1) fun q7 =>
    h_b1 (k_sI q7 37 ((8 * (ms.1 36)) + 7) a2) fun q8 =>
    k_lt (k_pI q8 36 ((q8.1 36) + 1)) fun q9 =>
    some ((), q9)
set_option maxHeartbeats 4000000 in
set_option maxRecDepth 100000 in
theorem q_X10_post {σ : HS} {m : Nat} {A : Nat → Nat} {ms : MS} (hV : MV σ m A ms) (a1 : Int32) (a2 : Int32) (a3 : Int32) (a4 : Int32) (a5 : Int32) (a6 : Int32) (a7 : Int32) : Rl σ m A (f_X10_post σ (some m) a1 a2 a3 a4 a5 a6 a7) (p_X10_post ms a1 a2 a3 a4 a5 a6 a7) := by
  have hF : MF σ σ m A := MF.rf
  unfold f_X10_post p_X10_post
  refine Rl_gI hV (by decide) ?_
  refine Rl_ite (fun _ => ?_) (fun _ => ?_)
  · refine Rl_gI hV (by decide) ?_
    refine Rl_pI hV hF (by decide) (fun _ q10 hV hF => ?_)
    exact Rl_ret hV hF
  · refine Rl_gI hV (by decide) ?_
    refine Rl_gR hV (by decide) ?_
    refine Rl_sI hV hF (by decide) (by decide) (fun _ q1 hV hF => ?_)
    refine Rl_gR hV (by decide) ?_
    refine Rl_sI hV hF (by decide) (by decide) (fun _ q2 hV hF => ?_)
    refine Rl_gR hV (by decide) ?_
    refine Rl_sI hV hF (by decide) (by decide) (fun _ q3 hV hF => ?_)
    refine Rl_gR hV (by decide) ?_
    refine Rl_sI hV hF (by decide) (by decide) (fun _ q4 hV hF => ?_)
    refine Rl_gR hV (by decide) ?_
    refine Rl_sI hV hF (by decide) (by decide) (fun _ q5 hV hF => ?_)
    refine Rl_gR hV (by decide) ?_
    refine Rl_sI hV hF (by decide) (by decide) (fun _ q6 hV hF => ?_)
    refine Rl_gR hV (by decide) ?_
    refine Rl_sI hV hF (by decide) (by decide) (fun _ q7 hV hF => ?_)
    refine Rl_gR hV (by decide) ?_
    refine Rl_sI hV hF (by decide) (by decide) (fun _ q8 hV hF => ?_)
    refine Rl_gI hV (by decide) ?_
    refine Rl_pI hV hF (by decide) (fun _ q9 hV hF => ?_)
    exact Rl_ret hV hF
/-! X10_last -/
def p_X10_last (ms : MS) (a1 : Int32) (a2 : Int32) : Option (Unit × MS) :=
  if (ms.1 36) ≤ a2 then
    some ((), ms)
  else
    h_b1 (k_sI ms 37 ((8 * (ms.1 36)) - 3) a1) fun q1 =>
    some ((), q1)
set_option maxHeartbeats 4000000 in
set_option maxRecDepth 100000 in
theorem q_X10_last {σ : HS} {m : Nat} {A : Nat → Nat} {ms : MS} (hV : MV σ m A ms) (a1 : Int32) (a2 : Int32) : Rl σ m A (f_X10_last σ (some m) a1 a2) (p_X10_last ms a1 a2) := by
  have hF : MF σ σ m A := MF.rf
  unfold f_X10_last p_X10_last
  refine Rl_gI hV (by decide) ?_
  refine Rl_ite (fun _ => ?_) (fun _ => ?_)
  · exact Rl_ret hV hF
  · refine Rl_gR hV (by decide) ?_
    refine Rl_gI hV (by decide) ?_
    refine Rl_sI hV hF (by decide) (by decide) (fun _ q1 hV hF => ?_)
    exact Rl_ret hV hF
/-! X10_mix -/
def p_X10_mix (ms : MS) (a0 : Int32) (a1 : Int32) : Option (Int32 × MS) :=
  some ((((a0 ^^^ a1) * 16777619) ^^^ (h_ushr ((a0 ^^^ a1) * 16777619) 15)), ms)
set_option maxHeartbeats 4000000 in
set_option maxRecDepth 100000 in
theorem q_X10_mix {σ : HS} {m : Nat} {A : Nat → Nat} {ms : MS} (hV : MV σ m A ms) (a0 : Int32) (a1 : Int32) : Rl σ m A (f_X10_mix σ a0 a1) (p_X10_mix ms a0 a1) := by
  have hF : MF σ σ m A := MF.rf
  unfold f_X10_mix p_X10_mix
  exact Rl_ret hV hF
/-! X10_tag -/
def p_X10_tag (ms : MS) (a0 : Int32) (a1 : Int32) (a2 : Int32) (a3 : Int32) (a4 : Int32) : Option (Int32 × MS) :=
  k_bd (p_X10_mix ms ((a0 + 1) * 40503) a0) fun r1 q2 =>
  k_bd (p_X10_mix q2 r1 a1) fun r3 q4 =>
  k_bd (p_X10_mix q4 r3 a2) fun r5 q6 =>
  k_bd (p_X10_mix q6 r5 a3) fun r7 q8 =>
  k_bd (p_X10_mix q8 r7 a4) fun r9 q10 =>
  some (r9, q10)
set_option maxHeartbeats 4000000 in
set_option maxRecDepth 100000 in
theorem q_X10_tag {σ : HS} {m : Nat} {A : Nat → Nat} {ms : MS} (hV : MV σ m A ms) (a0 : Int32) (a1 : Int32) (a2 : Int32) (a3 : Int32) (a4 : Int32) : Rl σ m A (f_X10_tag σ a0 a1 a2 a3 a4) (p_X10_tag ms a0 a1 a2 a3 a4) := by
  have hF : MF σ σ m A := MF.rf
  unfold f_X10_tag p_X10_tag
  refine Rl_bd hF (q_X10_mix hV _ _) (fun r1 _ q2 hV hF => ?_)
  refine Rl_bd hF (q_X10_mix hV _ _) (fun r3 _ q4 hV hF => ?_)
  refine Rl_bd hF (q_X10_mix hV _ _) (fun r5 _ q6 hV hF => ?_)
  refine Rl_bd hF (q_X10_mix hV _ _) (fun r7 _ q8 hV hF => ?_)
  refine Rl_bd hF (q_X10_mix hV _ _) (fun r9 _ q10 hV hF => ?_)
  exact Rl_ret hV hF
/-! X10_register -/
def pg_X10_register_32 : Nat → MS → Int32 → Int32 → Int32 → Option (Int32 × MS)
  | 0, _, _, _, _ => none
  | n + 1, ms, l1, l2, l3 =>
    h_b1 (k_aI ms 15 l1) fun x4 =>
    if ((4 * l1) + x4) ≤ l3 then
      some (l2, ms)
    else
      h_b1 (k_aI ms 16 l3) fun x5 =>
      h_b1 (k_aI ms 17 l3) fun x6 =>
      k_bd (p_X10_owner ms x5 x6) fun r7 q8 =>
      if r7 = (-1) then
        pg_X10_register_32 n q8 l1 l2 (l3 + 1)
      else
        h_b1 (k_aI q8 18 l1) fun x9 =>
        h_b1 (k_sI q8 18 l1 (x9 + 1)) fun q10 =>
        h_b1 (k_aI q10 16 l3) fun x11 =>
        h_b1 (k_aI q10 17 l3) fun x12 =>
        h_b1 (k_aI q10 14 l1) fun x13 =>
        h_b1 (k_aI q10 18 l1) fun x14 =>
        k_bd (p_X10_post q10 0 r7 l1 x11 x12 x13 x14) fun _ q16 =>
        h_b1 (k_aI q16 16 l3) fun x17 =>
        h_b1 (k_aI q16 17 l3) fun x18 =>
        h_b1 (k_aI q16 14 l1) fun x19 =>
        h_b1 (k_aI q16 18 l1) fun x20 =>
        k_bd (p_X10_tag q16 l1 x17 x18 x19 x20) fun r21 q22 =>
        k_bd (p_X10_last q22 r21 (q10.1 36)) fun _ q24 =>
        pg_X10_register_32 n q24 l1 (l2 + 1) (l3 + 1)
def pj_X10_register_14 (ms : MS) (l1 : Int32) (t0 : Int32) : Option (Int32 × MS) :=
  k_lt (k_pI ms 0 t0) fun q3 =>
  if (q3.1 0) ≤ 0 then
    pg_X10_register_32 h_hN q3 l1 0 (4 * l1)
  else
    some (0, q3)
def p_X10_register (ms : MS) (a1 : Int32) : Option (Int32 × MS) :=
  k_bd (p_X10_isSite ms a1) fun r1 q2 =>
  if r1 = 0 then
    pj_X10_register_14 q2 a1 1
  else
    pj_X10_register_14 q2 a1 0
set_option maxHeartbeats 4000000 in
set_option maxRecDepth 100000 in
theorem qg_X10_register_32 {σ0 : HS} {m : Nat} {A : Nat → Nat} : ∀ (n : Nat) (σ : HS) (ms : MS) (l1 : Int32) (l2 : Int32) (l3 : Int32), MV σ m A ms → MF σ0 σ m A → Rl σ0 m A (g_X10_register_32 n σ (some m) l1 l2 l3) (pg_X10_register_32 n ms l1 l2 l3) := by
  intro n
  induction n with
  | zero =>
    intro σ ms l1 l2 l3 hV hF
    rw [pg_X10_register_32]
    exact Rl_none
  | succ n ih =>
    intro σ ms l1 l2 l3 hV hF
    rw [pg_X10_register_32, g_X10_register_32]
    refine Rl_gR hV (by decide) ?_
    refine Rl_aI hV (by decide) (by decide) (fun x4 => ?_)
    refine Rl_ite (fun _ => ?_) (fun _ => ?_)
    · exact Rl_ret hV hF
    · refine Rl_gR hV (by decide) ?_
      refine Rl_aI hV (by decide) (by decide) (fun x5 => ?_)
      refine Rl_gR hV (by decide) ?_
      refine Rl_aI hV (by decide) (by decide) (fun x6 => ?_)
      refine Rl_rcv hV ?_
      refine Rl_bd hF (q_X10_owner hV _ _) (fun r7 _ q8 hV hF => ?_)
      refine Rl_ite (fun _ => ?_) (fun _ => ?_)
      · exact ih _ q8 l1 l2 (l3 + 1) hV hF
      · refine Rl_gR hV (by decide) ?_
        refine Rl_aI hV (by decide) (by decide) (fun x9 => ?_)
        refine Rl_sI hV hF (by decide) (by decide) (fun _ q10 hV hF => ?_)
        refine Rl_gI hV (by decide) ?_
        refine Rl_gR hV (by decide) ?_
        refine Rl_aI hV (by decide) (by decide) (fun x11 => ?_)
        refine Rl_gR hV (by decide) ?_
        refine Rl_aI hV (by decide) (by decide) (fun x12 => ?_)
        refine Rl_gR hV (by decide) ?_
        refine Rl_aI hV (by decide) (by decide) (fun x13 => ?_)
        refine Rl_gR hV (by decide) ?_
        refine Rl_aI hV (by decide) (by decide) (fun x14 => ?_)
        refine Rl_rcv hV ?_
        refine Rl_bd hF (q_X10_post hV _ _ _ _ _ _ _) (fun r15 _ q16 hV hF => ?_)
        refine Rl_gR hV (by decide) ?_
        refine Rl_aI hV (by decide) (by decide) (fun x17 => ?_)
        refine Rl_gR hV (by decide) ?_
        refine Rl_aI hV (by decide) (by decide) (fun x18 => ?_)
        refine Rl_gR hV (by decide) ?_
        refine Rl_aI hV (by decide) (by decide) (fun x19 => ?_)
        refine Rl_gR hV (by decide) ?_
        refine Rl_aI hV (by decide) (by decide) (fun x20 => ?_)
        refine Rl_bd hF (q_X10_tag hV _ _ _ _ _) (fun r21 _ q22 hV hF => ?_)
        refine Rl_rcv hV ?_
        refine Rl_bd hF (q_X10_last hV _ _) (fun r23 _ q24 hV hF => ?_)
        exact ih _ q24 l1 (l2 + 1) (l3 + 1) hV hF
set_option maxHeartbeats 4000000 in
set_option maxRecDepth 100000 in
theorem qj_X10_register_14 {σ0 : HS} {m : Nat} {A : Nat → Nat} (σ : HS) (ms : MS) (l1 : Int32) (t0 : Int32) (hV : MV σ m A ms) (hF : MF σ0 σ m A) : Rl σ0 m A (j_X10_register_14 σ (some m) l1 t0 (some m)) (pj_X10_register_14 ms l1 t0) := by
  unfold j_X10_register_14 pj_X10_register_14
  refine Rl_pI hV hF (by decide) (fun _ q3 hV hF => ?_)
  refine Rl_gI hV (by decide) ?_
  refine Rl_ite (fun _ => ?_) (fun _ => ?_)
  · exact qg_X10_register_32 h_hN _ q3 l1 0 (4 * l1) hV hF
  · exact Rl_ret hV hF
set_option maxHeartbeats 4000000 in
set_option maxRecDepth 100000 in
theorem q_X10_register {σ : HS} {m : Nat} {A : Nat → Nat} {ms : MS} (hV : MV σ m A ms) (a1 : Int32) : Rl σ m A (f_X10_register σ (some m) a1) (p_X10_register ms a1) := by
  have hF : MF σ σ m A := MF.rf
  unfold f_X10_register p_X10_register
  refine Rl_rcv hV ?_
  refine Rl_bd hF (q_X10_isSite hV _) (fun r1 _ q2 hV hF => ?_)
  refine Rl_ite (fun _ => ?_) (fun _ => ?_)
  · exact qj_X10_register_14 _ q2 a1 1 hV hF
  · exact qj_X10_register_14 _ q2 a1 0 hV hF
/-! X10_take -/
def pg_X10_take_36 : Nat → MS → Int32 → Option (Unit × MS)
  | 0, _, _ => none
  | n + 1, ms, l2 =>
    if ((8 * (ms.1 36)) - 8) ≤ l2 then
      k_lt (k_pI ms 36 ((ms.1 36) - 1)) fun q1 =>
      some ((), q1)
    else
      h_b1 (k_aI ms 37 (l2 + 8)) fun x2 =>
      h_b1 (k_sI ms 37 l2 x2) fun q3 =>
      pg_X10_take_36 n q3 (l2 + 1)
def pg_X10_take_2 : Nat → MS → Int32 → Int32 → Option (Unit × MS)
  | 0, _, _, _ => none
  | n + 1, ms, l1, l2 =>
    if 8 ≤ l2 then
      pg_X10_take_36 h_hN ms (8 * l1)
    else
      h_b1 (k_aI ms 37 ((8 * l1) + l2)) fun x4 =>
      h_b1 (k_sI ms 38 l2 x4) fun q5 =>
      pg_X10_take_2 n q5 l1 (l2 + 1)
def p_X10_take (ms : MS) (a1 : Int32) : Option (Unit × MS) :=
  pg_X10_take_2 h_hN ms a1 0
set_option maxHeartbeats 4000000 in
set_option maxRecDepth 100000 in
theorem qg_X10_take_36 {σ0 : HS} {m : Nat} {A : Nat → Nat} : ∀ (n : Nat) (σ : HS) (ms : MS) (l2 : Int32), MV σ m A ms → MF σ0 σ m A → Rl σ0 m A (g_X10_take_36 n σ (some m) l2) (pg_X10_take_36 n ms l2) := by
  intro n
  induction n with
  | zero =>
    intro σ ms l2 hV hF
    rw [pg_X10_take_36]
    exact Rl_none
  | succ n ih =>
    intro σ ms l2 hV hF
    rw [pg_X10_take_36, g_X10_take_36]
    refine Rl_gI hV (by decide) ?_
    refine Rl_ite (fun _ => ?_) (fun _ => ?_)
    · refine Rl_gI hV (by decide) ?_
      refine Rl_pI hV hF (by decide) (fun _ q1 hV hF => ?_)
      exact Rl_ret hV hF
    · refine Rl_gR hV (by decide) ?_
      refine Rl_gR hV (by decide) ?_
      refine Rl_aI hV (by decide) (by decide) (fun x2 => ?_)
      refine Rl_sI hV hF (by decide) (by decide) (fun _ q3 hV hF => ?_)
      exact ih _ q3 (l2 + 1) hV hF
set_option maxHeartbeats 4000000 in
set_option maxRecDepth 100000 in
theorem qg_X10_take_2 {σ0 : HS} {m : Nat} {A : Nat → Nat} : ∀ (n : Nat) (σ : HS) (ms : MS) (l1 : Int32) (l2 : Int32), MV σ m A ms → MF σ0 σ m A → Rl σ0 m A (g_X10_take_2 n σ (some m) l1 l2) (pg_X10_take_2 n ms l1 l2) := by
  intro n
  induction n with
  | zero =>
    intro σ ms l1 l2 hV hF
    rw [pg_X10_take_2]
    exact Rl_none
  | succ n ih =>
    intro σ ms l1 l2 hV hF
    rw [pg_X10_take_2, g_X10_take_2]
    refine Rl_ite (fun _ => ?_) (fun _ => ?_)
    · exact qg_X10_take_36 h_hN _ ms (8 * l1) hV hF
    · refine Rl_gR hV (by decide) ?_
      refine Rl_gR hV (by decide) ?_
      refine Rl_aI hV (by decide) (by decide) (fun x4 => ?_)
      refine Rl_sI hV hF (by decide) (by decide) (fun _ q5 hV hF => ?_)
      exact ih _ q5 l1 (l2 + 1) hV hF
set_option maxHeartbeats 4000000 in
set_option maxRecDepth 100000 in
theorem q_X10_take {σ : HS} {m : Nat} {A : Nat → Nat} {ms : MS} (hV : MV σ m A ms) (a1 : Int32) : Rl σ m A (f_X10_take σ (some m) a1) (p_X10_take ms a1) := by
  have hF : MF σ σ m A := MF.rf
  unfold f_X10_take p_X10_take
  exact qg_X10_take_2 h_hN _ ms a1 0 hV hF
/-! X10_isMessage -/
def pj_X10_isMessage_20 (ms : MS)  (t0 : Int32) : Option (Int32 × MS) :=
  k_lt (k_pI ms 0 t0) fun q3 =>
  if (q3.1 0) = 0 then
    some (1, q3)
  else
    some (0, q3)
def p_X10_isMessage (ms : MS) (a1 : Int32) : Option (Int32 × MS) :=
  k_bd (p_X10_in ms a1 0 ((ms.1 36) - 1)) fun r1 q2 =>
  if r1 = 0 then
    pj_X10_isMessage_20 q2 1
  else
    pj_X10_isMessage_20 q2 0
set_option maxHeartbeats 4000000 in
set_option maxRecDepth 100000 in
theorem qj_X10_isMessage_20 {σ0 : HS} {m : Nat} {A : Nat → Nat} (σ : HS) (ms : MS)  (t0 : Int32) (hV : MV σ m A ms) (hF : MF σ0 σ m A) : Rl σ0 m A (j_X10_isMessage_20 σ (some m) t0 (some m)) (pj_X10_isMessage_20 ms t0) := by
  unfold j_X10_isMessage_20 pj_X10_isMessage_20
  refine Rl_pI hV hF (by decide) (fun _ q3 hV hF => ?_)
  refine Rl_gI hV (by decide) ?_
  refine Rl_ite (fun _ => ?_) (fun _ => ?_)
  · exact Rl_ret hV hF
  · exact Rl_ret hV hF
set_option maxHeartbeats 4000000 in
set_option maxRecDepth 100000 in
theorem q_X10_isMessage {σ : HS} {m : Nat} {A : Nat → Nat} {ms : MS} (hV : MV σ m A ms) (a1 : Int32) : Rl σ m A (f_X10_isMessage σ (some m) a1) (p_X10_isMessage ms a1) := by
  have hF : MF σ σ m A := MF.rf
  unfold f_X10_isMessage p_X10_isMessage
  refine Rl_gI hV (by decide) ?_
  refine Rl_bd hF (q_X10_in hV _ _ _) (fun r1 _ q2 hV hF => ?_)
  refine Rl_ite (fun _ => ?_) (fun _ => ?_)
  · exact qj_X10_isMessage_20 _ q2 1 hV hF
  · exact qj_X10_isMessage_20 _ q2 0 hV hF
/-! X10_deliver -/
def pj_X10_deliver_16 (ms : MS) (l1 : Int32) : Option (Unit × MS) :=
  h_b1 (k_aI ms 35 l1) fun x2 =>
  h_b1 (k_sI ms 35 l1 (x2 + 1)) fun q3 =>
  h_b1 (k_sI q3 31 l1 2) fun q4 =>
  some ((), q4)
def p_X10_deliver (ms : MS) (a1 : Int32) (a2 : Int32) : Option (Unit × MS) :=
  h_b1 (k_aI ms 35 a1) fun x1 =>
  if x1 = 0 then
    h_b1 (k_sI ms 33 a1 a2) fun q5 =>
    pj_X10_deliver_16 q5 a1
  else
    pj_X10_deliver_16 ms a1
set_option maxHeartbeats 4000000 in
set_option maxRecDepth 100000 in
theorem qj_X10_deliver_16 {σ0 : HS} {m : Nat} {A : Nat → Nat} (σ : HS) (ms : MS) (l1 : Int32) (hV : MV σ m A ms) (hF : MF σ0 σ m A) : Rl σ0 m A (j_X10_deliver_16 σ (some m) l1) (pj_X10_deliver_16 ms l1) := by
  unfold j_X10_deliver_16 pj_X10_deliver_16
  refine Rl_gR hV (by decide) ?_
  refine Rl_aI hV (by decide) (by decide) (fun x2 => ?_)
  refine Rl_sI hV hF (by decide) (by decide) (fun _ q3 hV hF => ?_)
  refine Rl_gR hV (by decide) ?_
  refine Rl_sI hV hF (by decide) (by decide) (fun _ q4 hV hF => ?_)
  exact Rl_ret hV hF
set_option maxHeartbeats 4000000 in
set_option maxRecDepth 100000 in
theorem q_X10_deliver {σ : HS} {m : Nat} {A : Nat → Nat} {ms : MS} (hV : MV σ m A ms) (a1 : Int32) (a2 : Int32) : Rl σ m A (f_X10_deliver σ (some m) a1 a2) (p_X10_deliver ms a1 a2) := by
  have hF : MF σ σ m A := MF.rf
  unfold f_X10_deliver p_X10_deliver
  refine Rl_gR hV (by decide) ?_
  refine Rl_aI hV (by decide) (by decide) (fun x1 => ?_)
  refine Rl_ite (fun _ => ?_) (fun _ => ?_)
  · refine Rl_gR hV (by decide) ?_
    refine Rl_sI hV hF (by decide) (by decide) (fun _ q5 hV hF => ?_)
    exact qj_X10_deliver_16 _ q5 a1 hV hF
  · exact qj_X10_deliver_16 _ ms a1 hV hF
/-! X10_hasEndpoint -/
def pg_X10_hasEndpoint_4 : Nat → MS → Int32 → Int32 → Int32 → Option (Int32 × MS)
  | 0, _, _, _, _ => none
  | n + 1, ms, l1, l2, l3 =>
    h_b1 (k_aI ms 15 l1) fun x1 =>
    if ((4 * l1) + x1) ≤ l3 then
      some (0, ms)
    else
      h_b1 (k_aI ms 16 l3) fun x2 =>
      h_b1 (k_aI ms 17 l3) fun x3 =>
      k_bd (p_X10_begin ms x2 l2 x3) fun r4 q5 =>
      if r4 = 0 then
        pg_X10_hasEndpoint_4 n q5 l1 l2 (l3 + 1)
      else
        some (1, q5)
def p_X10_hasEndpoint (ms : MS) (a1 : Int32) (a2 : Int32) : Option (Int32 × MS) :=
  pg_X10_hasEndpoint_4 h_hN ms a1 a2 (4 * a1)
set_option maxHeartbeats 4000000 in
set_option maxRecDepth 100000 in
theorem qg_X10_hasEndpoint_4 {σ0 : HS} {m : Nat} {A : Nat → Nat} : ∀ (n : Nat) (σ : HS) (ms : MS) (l1 : Int32) (l2 : Int32) (l3 : Int32), MV σ m A ms → MF σ0 σ m A → Rl σ0 m A (g_X10_hasEndpoint_4 n σ (some m) l1 l2 l3) (pg_X10_hasEndpoint_4 n ms l1 l2 l3) := by
  intro n
  induction n with
  | zero =>
    intro σ ms l1 l2 l3 hV hF
    rw [pg_X10_hasEndpoint_4]
    exact Rl_none
  | succ n ih =>
    intro σ ms l1 l2 l3 hV hF
    rw [pg_X10_hasEndpoint_4, g_X10_hasEndpoint_4]
    refine Rl_gR hV (by decide) ?_
    refine Rl_aI hV (by decide) (by decide) (fun x1 => ?_)
    refine Rl_ite (fun _ => ?_) (fun _ => ?_)
    · exact Rl_ret hV hF
    · refine Rl_gR hV (by decide) ?_
      refine Rl_aI hV (by decide) (by decide) (fun x2 => ?_)
      refine Rl_gR hV (by decide) ?_
      refine Rl_aI hV (by decide) (by decide) (fun x3 => ?_)
      refine Rl_bd hF (q_X10_begin hV _ _ _) (fun r4 _ q5 hV hF => ?_)
      refine Rl_ite (fun _ => ?_) (fun _ => ?_)
      · exact ih _ q5 l1 l2 (l3 + 1) hV hF
      · exact Rl_ret hV hF
set_option maxHeartbeats 4000000 in
set_option maxRecDepth 100000 in
theorem q_X10_hasEndpoint {σ : HS} {m : Nat} {A : Nat → Nat} {ms : MS} (hV : MV σ m A ms) (a1 : Int32) (a2 : Int32) : Rl σ m A (f_X10_hasEndpoint σ (some m) a1 a2) (p_X10_hasEndpoint ms a1 a2) := by
  have hF : MF σ σ m A := MF.rf
  unfold f_X10_hasEndpoint p_X10_hasEndpoint
  exact qg_X10_hasEndpoint_4 h_hN _ ms a1 a2 (4 * a1) hV hF
/-! X10_lose -/
def p_X10_lose (ms : MS) (a1 : Int32) : Option (Unit × MS) :=
  h_b1 (k_aI ms 31 a1) fun x1 =>
  if x1 = 1 then
    h_b1 (k_sI ms 31 a1 4) fun q2 =>
    some ((), q2)
  else
    some ((), ms)
set_option maxHeartbeats 4000000 in
set_option maxRecDepth 100000 in
theorem q_X10_lose {σ : HS} {m : Nat} {A : Nat → Nat} {ms : MS} (hV : MV σ m A ms) (a1 : Int32) : Rl σ m A (f_X10_lose σ (some m) a1) (p_X10_lose ms a1) := by
  have hF : MF σ σ m A := MF.rf
  unfold f_X10_lose p_X10_lose
  refine Rl_gR hV (by decide) ?_
  refine Rl_aI hV (by decide) (by decide) (fun x1 => ?_)
  refine Rl_ite (fun _ => ?_) (fun _ => ?_)
  · refine Rl_gR hV (by decide) ?_
    refine Rl_sI hV hF (by decide) (by decide) (fun _ q2 hV hF => ?_)
    exact Rl_ret hV hF
  · exact Rl_ret hV hF
/-! X10_came -/
def pj_X10_came_196 (ms : MS) (l1 : Int32) (l3 : Int32) : Option (Unit × MS) :=
  k_lt (k_pI ms 41 ((ms.1 41) + 1)) fun q11 =>
  h_b1 (k_aI q11 38 0) fun x12 =>
  k_bd (p_X10_post q11 4 x12 l3 l1 0 0 0) fun _ q14 =>
  some ((), q14)
def pj_X10_came_137 (ms : MS) (l1 : Int32) (l2 : Int32) (l3 : Int32) (l5 : Int32) : Option (Unit × MS) :=
  if l5 = 0 then
    pj_X10_came_196 ms l1 l3
  else
    h_b1 (k_aI ms 26 l1) fun x15 =>
    h_b1 (k_aI ms 14 x15) fun x16 =>
    h_b1 (k_aI ms 38 0) fun x17 =>
    h_b1 (k_aI ms 38 3) fun x18 =>
    h_b1 (k_aI ms 38 4) fun x19 =>
    k_bd (p_X10_post ms 3 x16 x17 l2 l3 x18 x19) fun _ q21 =>
    h_b1 (k_aI q21 38 5) fun x22 =>
    k_bd (p_X10_last q21 x22 (ms.1 36)) fun _ q24 =>
    pj_X10_came_196 q24 l1 l3
def pj_X10_came_125 (ms : MS) (l1 : Int32) (l2 : Int32) (l3 : Int32) (l4 : Int32) (l5 : Int32) : Option (Unit × MS) :=
  if l4 = (-1) then
    if l5 = 0 then
      some ((), ms)
    else
      pj_X10_came_137 ms l1 l2 l3 l5
  else
    pj_X10_came_137 ms l1 l2 l3 l5
def pj_X10_came_115 (ms : MS) (l1 : Int32) (l2 : Int32) (l3 : Int32) (l4 : Int32) (l5 : Int32) : Option (Unit × MS) :=
  if l5 = 0 then
    k_bd (p_X10_lose ms l2) fun _ q26 =>
    pj_X10_came_125 q26 l1 l2 l3 l4 l5
  else
    pj_X10_came_125 ms l1 l2 l3 l4 l5
def pj_X10_came_89 (ms : MS) (l1 : Int32) (l2 : Int32) (l3 : Int32) (l4 : Int32) (t0 : Int32) : Option (Unit × MS) :=
  if l4 = (-1) then
    pj_X10_came_115 ms l1 l2 l3 l4 t0
  else
    k_bd (p_X10_hasEndpoint ms l4 l3) fun r27 q28 =>
    if r27 = 0 then
      pj_X10_came_115 q28 l1 l2 l3 l4 t0
    else
      k_bd (p_X10_deliver q28 l2 l4) fun _ q30 =>
      some ((), q30)
def pj_X10_came_88 (ms : MS) (l1 : Int32) (l2 : Int32) (l3 : Int32) (l4 : Int32) : Option (Unit × MS) :=
  pj_X10_came_89 ms l1 l2 l3 l4 0
def p_X10_came (ms : MS)  : Option (Unit × MS) :=
  h_b1 (k_aI ms 38 7) fun x1 =>
  h_b1 (k_aI ms 38 1) fun x2 =>
  h_b1 (k_aI ms 38 2) fun x3 =>
  h_b1 (k_aI ms 38 0) fun x4 =>
  k_bd (p_X10_isSite ms x4) fun r5 q6 =>
  if r5 = 0 then
    some ((), q6)
  else
    k_bd (p_X10_in q6 x2 1 (q6.1 28)) fun r7 q8 =>
    if r7 = 0 then
      some ((), q8)
    else
      k_bd (p_X10_siteAt q8 x1) fun r9 q10 =>
      if r9 = (-1) then
        h_b1 (k_aI q10 26 x1) fun x31 =>
        if x31 = (-1) then
          pj_X10_came_88 q10 x1 x2 x3 r9
        else
          h_b1 (k_aI q10 27 x1) fun x32 =>
          if x32 ≤ (q10.1 1) then
            pj_X10_came_88 q10 x1 x2 x3 r9
          else
            pj_X10_came_89 q10 x1 x2 x3 r9 1
      else
        pj_X10_came_88 q10 x1 x2 x3 r9
set_option maxHeartbeats 4000000 in
set_option maxRecDepth 100000 in
theorem qj_X10_came_196 {σ0 : HS} {m : Nat} {A : Nat → Nat} (σ : HS) (ms : MS) (l1 : Int32) (l3 : Int32) (hV : MV σ m A ms) (hF : MF σ0 σ m A) : Rl σ0 m A (j_X10_came_196 σ (some m) l1 l3) (pj_X10_came_196 ms l1 l3) := by
  unfold j_X10_came_196 pj_X10_came_196
  refine Rl_gI hV (by decide) ?_
  refine Rl_pI hV hF (by decide) (fun _ q11 hV hF => ?_)
  refine Rl_gR hV (by decide) ?_
  refine Rl_aI hV (by decide) (by decide) (fun x12 => ?_)
  refine Rl_rcv hV ?_
  refine Rl_bd hF (q_X10_post hV _ _ _ _ _ _ _) (fun r13 _ q14 hV hF => ?_)
  exact Rl_ret hV hF
set_option maxHeartbeats 4000000 in
set_option maxRecDepth 100000 in
theorem qj_X10_came_137 {σ0 : HS} {m : Nat} {A : Nat → Nat} (σ : HS) (ms : MS) (l1 : Int32) (l2 : Int32) (l3 : Int32) (l5 : Int32) (hV : MV σ m A ms) (hF : MF σ0 σ m A) : Rl σ0 m A (j_X10_came_137 σ (some m) l1 l2 l3 l5) (pj_X10_came_137 ms l1 l2 l3 l5) := by
  unfold j_X10_came_137 pj_X10_came_137
  refine Rl_ite (fun _ => ?_) (fun _ => ?_)
  · exact qj_X10_came_196 _ ms l1 l3 hV hF
  · refine Rl_gI hV (by decide) ?_
    refine Rl_gR hV (by decide) ?_
    refine Rl_gR hV (by decide) ?_
    refine Rl_aI hV (by decide) (by decide) (fun x15 => ?_)
    refine Rl_aI hV (by decide) (by decide) (fun x16 => ?_)
    refine Rl_gR hV (by decide) ?_
    refine Rl_aI hV (by decide) (by decide) (fun x17 => ?_)
    refine Rl_gR hV (by decide) ?_
    refine Rl_aI hV (by decide) (by decide) (fun x18 => ?_)
    refine Rl_gR hV (by decide) ?_
    refine Rl_aI hV (by decide) (by decide) (fun x19 => ?_)
    refine Rl_rcv hV ?_
    refine Rl_bd hF (q_X10_post hV _ _ _ _ _ _ _) (fun r20 _ q21 hV hF => ?_)
    refine Rl_gR hV (by decide) ?_
    refine Rl_aI hV (by decide) (by decide) (fun x22 => ?_)
    refine Rl_rcv hV ?_
    refine Rl_bd hF (q_X10_last hV _ _) (fun r23 _ q24 hV hF => ?_)
    exact qj_X10_came_196 _ q24 l1 l3 hV hF
set_option maxHeartbeats 4000000 in
set_option maxRecDepth 100000 in
theorem qj_X10_came_125 {σ0 : HS} {m : Nat} {A : Nat → Nat} (σ : HS) (ms : MS) (l1 : Int32) (l2 : Int32) (l3 : Int32) (l4 : Int32) (l5 : Int32) (hV : MV σ m A ms) (hF : MF σ0 σ m A) : Rl σ0 m A (j_X10_came_125 σ (some m) l1 l2 l3 l4 l5) (pj_X10_came_125 ms l1 l2 l3 l4 l5) := by
  unfold j_X10_came_125 pj_X10_came_125
  refine Rl_ite (fun _ => ?_) (fun _ => ?_)
  · refine Rl_ite (fun _ => ?_) (fun _ => ?_)
    · exact Rl_ret hV hF
    · exact qj_X10_came_137 _ ms l1 l2 l3 l5 hV hF
  · exact qj_X10_came_137 _ ms l1 l2 l3 l5 hV hF
set_option maxHeartbeats 4000000 in
set_option maxRecDepth 100000 in
theorem qj_X10_came_115 {σ0 : HS} {m : Nat} {A : Nat → Nat} (σ : HS) (ms : MS) (l1 : Int32) (l2 : Int32) (l3 : Int32) (l4 : Int32) (l5 : Int32) (hV : MV σ m A ms) (hF : MF σ0 σ m A) : Rl σ0 m A (j_X10_came_115 σ (some m) l1 l2 l3 l4 l5) (pj_X10_came_115 ms l1 l2 l3 l4 l5) := by
  unfold j_X10_came_115 pj_X10_came_115
  refine Rl_ite (fun _ => ?_) (fun _ => ?_)
  · refine Rl_rcv hV ?_
    refine Rl_bd hF (q_X10_lose hV _) (fun r25 _ q26 hV hF => ?_)
    exact qj_X10_came_125 _ q26 l1 l2 l3 l4 l5 hV hF
  · exact qj_X10_came_125 _ ms l1 l2 l3 l4 l5 hV hF
set_option maxHeartbeats 4000000 in
set_option maxRecDepth 100000 in
theorem qj_X10_came_89 {σ0 : HS} {m : Nat} {A : Nat → Nat} (σ : HS) (ms : MS) (l1 : Int32) (l2 : Int32) (l3 : Int32) (l4 : Int32) (t0 : Int32) (hV : MV σ m A ms) (hF : MF σ0 σ m A) : Rl σ0 m A (j_X10_came_89 σ (some m) l1 l2 l3 l4 t0) (pj_X10_came_89 ms l1 l2 l3 l4 t0) := by
  unfold j_X10_came_89 pj_X10_came_89
  refine Rl_ite (fun _ => ?_) (fun _ => ?_)
  · exact qj_X10_came_115 _ ms l1 l2 l3 l4 t0 hV hF
  · refine Rl_rcv hV ?_
    refine Rl_bd hF (q_X10_hasEndpoint hV _ _) (fun r27 _ q28 hV hF => ?_)
    refine Rl_ite (fun _ => ?_) (fun _ => ?_)
    · exact qj_X10_came_115 _ q28 l1 l2 l3 l4 t0 hV hF
    · refine Rl_rcv hV ?_
      refine Rl_bd hF (q_X10_deliver hV _ _) (fun r29 _ q30 hV hF => ?_)
      exact Rl_ret hV hF
set_option maxHeartbeats 4000000 in
set_option maxRecDepth 100000 in
theorem qj_X10_came_88 {σ0 : HS} {m : Nat} {A : Nat → Nat} (σ : HS) (ms : MS) (l1 : Int32) (l2 : Int32) (l3 : Int32) (l4 : Int32) (hV : MV σ m A ms) (hF : MF σ0 σ m A) : Rl σ0 m A (j_X10_came_88 σ (some m) l1 l2 l3 l4) (pj_X10_came_88 ms l1 l2 l3 l4) := by
  unfold j_X10_came_88 pj_X10_came_88
  exact qj_X10_came_89 _ ms l1 l2 l3 l4 0 hV hF
set_option maxHeartbeats 4000000 in
set_option maxRecDepth 100000 in
theorem q_X10_came {σ : HS} {m : Nat} {A : Nat → Nat} {ms : MS} (hV : MV σ m A ms)  : Rl σ m A (f_X10_came σ (some m)) (p_X10_came ms ) := by
  have hF : MF σ σ m A := MF.rf
  unfold f_X10_came p_X10_came
  refine Rl_gR hV (by decide) ?_
  refine Rl_aI hV (by decide) (by decide) (fun x1 => ?_)
  refine Rl_gR hV (by decide) ?_
  refine Rl_aI hV (by decide) (by decide) (fun x2 => ?_)
  refine Rl_gR hV (by decide) ?_
  refine Rl_aI hV (by decide) (by decide) (fun x3 => ?_)
  refine Rl_gR hV (by decide) ?_
  refine Rl_aI hV (by decide) (by decide) (fun x4 => ?_)
  refine Rl_rcv hV ?_
  refine Rl_bd hF (q_X10_isSite hV _) (fun r5 _ q6 hV hF => ?_)
  refine Rl_ite (fun _ => ?_) (fun _ => ?_)
  · exact Rl_ret hV hF
  · refine Rl_gI hV (by decide) ?_
    refine Rl_bd hF (q_X10_in hV _ _ _) (fun r7 _ q8 hV hF => ?_)
    refine Rl_ite (fun _ => ?_) (fun _ => ?_)
    · exact Rl_ret hV hF
    · refine Rl_rcv hV ?_
      refine Rl_bd hF (q_X10_siteAt hV _) (fun r9 _ q10 hV hF => ?_)
      refine Rl_ite (fun _ => ?_) (fun _ => ?_)
      · refine Rl_gR hV (by decide) ?_
        refine Rl_aI hV (by decide) (by decide) (fun x31 => ?_)
        refine Rl_ite (fun _ => ?_) (fun _ => ?_)
        · exact qj_X10_came_88 _ q10 x1 x2 x3 r9 hV hF
        · refine Rl_gI hV (by decide) ?_
          refine Rl_gR hV (by decide) ?_
          refine Rl_aI hV (by decide) (by decide) (fun x32 => ?_)
          refine Rl_ite (fun _ => ?_) (fun _ => ?_)
          · exact qj_X10_came_88 _ q10 x1 x2 x3 r9 hV hF
          · exact qj_X10_came_89 _ q10 x1 x2 x3 r9 1 hV hF
      · exact qj_X10_came_88 _ q10 x1 x2 x3 r9 hV hF
/-! X10_noteFor -/
def pg_X10_noteFor_5 : Nat → MS → Int32 → Int32 → Int32 → Option (Int32 × MS)
  | 0, _, _, _, _ => none
  | n + 1, ms, l1, l2, l3 =>
    if ((6 * l1) + 6) ≤ l3 then
      some ((-1), ms)
    else
      h_b1 (k_aI ms 23 l3) fun x1 =>
      if x1 ≤ (ms.1 1) then
        pg_X10_noteFor_5 n ms l1 l2 (l3 + 1)
      else
        h_b1 (k_aI ms 19 l3) fun x2 =>
        h_b1 (k_aI ms 20 l3) fun x3 =>
        k_bd (p_X10_begin ms x2 l2 x3) fun r4 q5 =>
        if r4 = 0 then
          pg_X10_noteFor_5 n q5 l1 l2 (l3 + 1)
        else
          some (l3, q5)
def p_X10_noteFor (ms : MS) (a1 : Int32) (a2 : Int32) : Option (Int32 × MS) :=
  pg_X10_noteFor_5 h_hN ms a1 a2 (6 * a1)
set_option maxHeartbeats 4000000 in
set_option maxRecDepth 100000 in
theorem qg_X10_noteFor_5 {σ0 : HS} {m : Nat} {A : Nat → Nat} : ∀ (n : Nat) (σ : HS) (ms : MS) (l1 : Int32) (l2 : Int32) (l3 : Int32), MV σ m A ms → MF σ0 σ m A → Rl σ0 m A (g_X10_noteFor_5 n σ (some m) l1 l2 l3) (pg_X10_noteFor_5 n ms l1 l2 l3) := by
  intro n
  induction n with
  | zero =>
    intro σ ms l1 l2 l3 hV hF
    rw [pg_X10_noteFor_5]
    exact Rl_none
  | succ n ih =>
    intro σ ms l1 l2 l3 hV hF
    rw [pg_X10_noteFor_5, g_X10_noteFor_5]
    refine Rl_ite (fun _ => ?_) (fun _ => ?_)
    · exact Rl_ret hV hF
    · refine Rl_gR hV (by decide) ?_
      refine Rl_aI hV (by decide) (by decide) (fun x1 => ?_)
      refine Rl_gI hV (by decide) ?_
      refine Rl_ite (fun _ => ?_) (fun _ => ?_)
      · exact ih _ ms l1 l2 (l3 + 1) hV hF
      · refine Rl_gR hV (by decide) ?_
        refine Rl_aI hV (by decide) (by decide) (fun x2 => ?_)
        refine Rl_gR hV (by decide) ?_
        refine Rl_aI hV (by decide) (by decide) (fun x3 => ?_)
        refine Rl_bd hF (q_X10_begin hV _ _ _) (fun r4 _ q5 hV hF => ?_)
        refine Rl_ite (fun _ => ?_) (fun _ => ?_)
        · exact ih _ q5 l1 l2 (l3 + 1) hV hF
        · exact Rl_ret hV hF
set_option maxHeartbeats 4000000 in
set_option maxRecDepth 100000 in
theorem q_X10_noteFor {σ : HS} {m : Nat} {A : Nat → Nat} {ms : MS} (hV : MV σ m A ms) (a1 : Int32) (a2 : Int32) : Rl σ m A (f_X10_noteFor σ (some m) a1 a2) (p_X10_noteFor ms a1 a2) := by
  have hF : MF σ σ m A := MF.rf
  unfold f_X10_noteFor p_X10_noteFor
  exact qg_X10_noteFor_5 h_hN _ ms a1 a2 (6 * a1) hV hF
/-! X10_forget -/
def p_X10_forget (ms : MS) (a1 : Int32) (a2 : Int32) (a3 : Int32) : Option (Unit × MS) :=
  k_bd (p_X10_noteFor ms a1 a2) fun r1 q2 =>
  if r1 = (-1) then
    some ((), q2)
  else
    h_b1 (k_aI q2 21 r1) fun x3 =>
    if x3 = a3 then
      h_b1 (k_sI q2 23 r1 0) fun q4 =>
      some ((), q4)
    else
      some ((), q2)
set_option maxHeartbeats 4000000 in
set_option maxRecDepth 100000 in
theorem q_X10_forget {σ : HS} {m : Nat} {A : Nat → Nat} {ms : MS} (hV : MV σ m A ms) (a1 : Int32) (a2 : Int32) (a3 : Int32) : Rl σ m A (f_X10_forget σ (some m) a1 a2 a3) (p_X10_forget ms a1 a2 a3) := by
  have hF : MF σ σ m A := MF.rf
  unfold f_X10_forget p_X10_forget
  refine Rl_rcv hV ?_
  refine Rl_bd hF (q_X10_noteFor hV _ _) (fun r1 _ q2 hV hF => ?_)
  refine Rl_ite (fun _ => ?_) (fun _ => ?_)
  · exact Rl_ret hV hF
  · refine Rl_gR hV (by decide) ?_
    refine Rl_aI hV (by decide) (by decide) (fun x3 => ?_)
    refine Rl_ite (fun _ => ?_) (fun _ => ?_)
    · refine Rl_gR hV (by decide) ?_
      refine Rl_sI hV hF (by decide) (by decide) (fun _ q4 hV hF => ?_)
      exact Rl_ret hV hF
    · exact Rl_ret hV hF
/-! X10_emptyEntry -/
def pg_X10_emptyEntry_5 : Nat → MS → Int32 → Int32 → Option (Int32 × MS)
  | 0, _, _, _ => none
  | n + 1, ms, l1, l2 =>
    if ((16 * l1) + 16) ≤ l2 then
      some ((-1), ms)
    else
      h_b1 (k_aI ms 12 l2) fun x1 =>
      if (ms.1 1) < x1 then
        pg_X10_emptyEntry_5 n ms l1 (l2 + 1)
      else
        some (l2, ms)
def p_X10_emptyEntry (ms : MS) (a1 : Int32) : Option (Int32 × MS) :=
  pg_X10_emptyEntry_5 h_hN ms a1 (16 * a1)
set_option maxHeartbeats 4000000 in
set_option maxRecDepth 100000 in
theorem qg_X10_emptyEntry_5 {σ0 : HS} {m : Nat} {A : Nat → Nat} : ∀ (n : Nat) (σ : HS) (ms : MS) (l1 : Int32) (l2 : Int32), MV σ m A ms → MF σ0 σ m A → Rl σ0 m A (g_X10_emptyEntry_5 n σ (some m) l1 l2) (pg_X10_emptyEntry_5 n ms l1 l2) := by
  intro n
  induction n with
  | zero =>
    intro σ ms l1 l2 hV hF
    rw [pg_X10_emptyEntry_5]
    exact Rl_none
  | succ n ih =>
    intro σ ms l1 l2 hV hF
    rw [pg_X10_emptyEntry_5, g_X10_emptyEntry_5]
    refine Rl_ite (fun _ => ?_) (fun _ => ?_)
    · exact Rl_ret hV hF
    · refine Rl_gR hV (by decide) ?_
      refine Rl_aI hV (by decide) (by decide) (fun x1 => ?_)
      refine Rl_gI hV (by decide) ?_
      refine Rl_ite (fun _ => ?_) (fun _ => ?_)
      · exact ih _ ms l1 (l2 + 1) hV hF
      · exact Rl_ret hV hF
set_option maxHeartbeats 4000000 in
set_option maxRecDepth 100000 in
theorem q_X10_emptyEntry {σ : HS} {m : Nat} {A : Nat → Nat} {ms : MS} (hV : MV σ m A ms) (a1 : Int32) : Rl σ m A (f_X10_emptyEntry σ (some m) a1) (p_X10_emptyEntry ms a1) := by
  have hF : MF σ σ m A := MF.rf
  unfold f_X10_emptyEntry p_X10_emptyEntry
  exact qg_X10_emptyEntry_5 h_hN _ ms a1 (16 * a1) hV hF
/-! X10_entryFor -/
def pg_X10_entryFor_6 : Nat → MS → Int32 → Int32 → Int32 → Int32 → Option (Int32 × MS)
  | 0, _, _, _, _, _ => none
  | n + 1, ms, l1, l2, l3, l4 =>
    if ((16 * l1) + 16) ≤ l4 then
      some ((-1), ms)
    else
      h_b1 (k_aI ms 12 l4) fun x1 =>
      if x1 ≤ (ms.1 1) then
        pg_X10_entryFor_6 n ms l1 l2 l3 (l4 + 1)
      else
        h_b1 (k_aI ms 7 l4) fun x2 =>
        if x2 = l2 then
          h_b1 (k_aI ms 8 l4) fun x3 =>
          if x3 = l3 then
            some (l4, ms)
          else
            pg_X10_entryFor_6 n ms l1 l2 l3 (l4 + 1)
        else
          pg_X10_entryFor_6 n ms l1 l2 l3 (l4 + 1)
def p_X10_entryFor (ms : MS) (a1 : Int32) (a2 : Int32) (a3 : Int32) : Option (Int32 × MS) :=
  pg_X10_entryFor_6 h_hN ms a1 a2 a3 (16 * a1)
set_option maxHeartbeats 4000000 in
set_option maxRecDepth 100000 in
theorem qg_X10_entryFor_6 {σ0 : HS} {m : Nat} {A : Nat → Nat} : ∀ (n : Nat) (σ : HS) (ms : MS) (l1 : Int32) (l2 : Int32) (l3 : Int32) (l4 : Int32), MV σ m A ms → MF σ0 σ m A → Rl σ0 m A (g_X10_entryFor_6 n σ (some m) l1 l2 l3 l4) (pg_X10_entryFor_6 n ms l1 l2 l3 l4) := by
  intro n
  induction n with
  | zero =>
    intro σ ms l1 l2 l3 l4 hV hF
    rw [pg_X10_entryFor_6]
    exact Rl_none
  | succ n ih =>
    intro σ ms l1 l2 l3 l4 hV hF
    rw [pg_X10_entryFor_6, g_X10_entryFor_6]
    refine Rl_ite (fun _ => ?_) (fun _ => ?_)
    · exact Rl_ret hV hF
    · refine Rl_gR hV (by decide) ?_
      refine Rl_aI hV (by decide) (by decide) (fun x1 => ?_)
      refine Rl_gI hV (by decide) ?_
      refine Rl_ite (fun _ => ?_) (fun _ => ?_)
      · exact ih _ ms l1 l2 l3 (l4 + 1) hV hF
      · refine Rl_gR hV (by decide) ?_
        refine Rl_aI hV (by decide) (by decide) (fun x2 => ?_)
        refine Rl_ite (fun _ => ?_) (fun _ => ?_)
        · refine Rl_gR hV (by decide) ?_
          refine Rl_aI hV (by decide) (by decide) (fun x3 => ?_)
          refine Rl_ite (fun _ => ?_) (fun _ => ?_)
          · exact Rl_ret hV hF
          · exact ih _ ms l1 l2 l3 (l4 + 1) hV hF
        · exact ih _ ms l1 l2 l3 (l4 + 1) hV hF
set_option maxHeartbeats 4000000 in
set_option maxRecDepth 100000 in
theorem q_X10_entryFor {σ : HS} {m : Nat} {A : Nat → Nat} {ms : MS} (hV : MV σ m A ms) (a1 : Int32) (a2 : Int32) (a3 : Int32) : Rl σ m A (f_X10_entryFor σ (some m) a1 a2 a3) (p_X10_entryFor ms a1 a2 a3) := by
  have hF : MF σ σ m A := MF.rf
  unfold f_X10_entryFor p_X10_entryFor
  exact qg_X10_entryFor_6 h_hN _ ms a1 a2 a3 (16 * a1) hV hF
/-! X10_registered -/
def pj_X10_registered_243 (ms : MS) (l1 : Int32) (l2 : Int32) (l3 : Int32) (l4 : Int32) : Option (Unit × MS) :=
  if l3 = 0 then
    k_lt (k_pI ms 39 ((ms.1 39) + 1)) fun q19 =>
    some ((), q19)
  else
    h_b1 (k_aI ms 38 4) fun x7 =>
    h_b1 (k_sL ms ((8 * l1) + l2) (Int32.toInt64 x7)) fun q8 =>
    h_b1 (k_aI q8 38 1) fun x9 =>
    h_b1 (k_sI q8 7 l4 x9) fun q10 =>
    h_b1 (k_aI q10 38 2) fun x11 =>
    h_b1 (k_sI q10 8 l4 x11) fun q12 =>
    h_b1 (k_sI q12 9 l4 l2) fun q13 =>
    h_b1 (k_aI q13 38 3) fun x14 =>
    h_b1 (k_sI q13 10 l4 x14) fun q15 =>
    h_b1 (k_aI q15 38 4) fun x16 =>
    h_b1 (k_sI q15 11 l4 x16) fun q17 =>
    h_b1 (k_sI q17 12 l4 ((q17.1 1) + 180)) fun q18 =>
    some ((), q18)
def pj_X10_registered_242 (ms : MS) (l1 : Int32) (l2 : Int32) (l4 : Int32) (t0 : Int32) : Option (Unit × MS) :=
  pj_X10_registered_243 ms l1 l2 t0 l4
def pj_X10_registered_213 (ms : MS) (l1 : Int32) (l2 : Int32) (l4 : Int32) (t0 : Int32) : Option (Unit × MS) :=
  if t0 = 0 then
    pj_X10_registered_243 ms l1 l2 t0 l4
  else
    if l4 = (-1) then
      k_bd (p_X10_emptyEntry ms l1) fun r20 q21 =>
      if r20 = (-1) then
        pj_X10_registered_242 q21 l1 l2 r20 0
      else
        pj_X10_registered_242 q21 l1 l2 r20 1
    else
      pj_X10_registered_243 ms l1 l2 t0 l4
def pj_X10_registered_212 (ms : MS) (l1 : Int32) (l2 : Int32) (l4 : Int32) : Option (Unit × MS) :=
  pj_X10_registered_213 ms l1 l2 l4 0
def pj_X10_registered_208 (ms : MS) (l1 : Int32) (l2 : Int32) (l4 : Int32) : Option (Unit × MS) :=
  pj_X10_registered_213 ms l1 l2 l4 1
def pj_X10_registered_185 (ms : MS) (l1 : Int32) (l2 : Int32) (l3 : Int32) (t0 : Int32) : Option (Unit × MS) :=
  if l3 = 0 then
    pj_X10_registered_212 ms l1 l2 t0
  else
    if t0 = (-1) then
      pj_X10_registered_208 ms l1 l2 t0
    else
      h_b1 (k_aI ms 9 t0) fun x22 =>
      if x22 = l2 then
        pj_X10_registered_208 ms l1 l2 t0
      else
        pj_X10_registered_212 ms l1 l2 t0
def pj_X10_registered_159 (ms : MS) (l1 : Int32) (l2 : Int32) (t0 : Int32) : Option (Unit × MS) :=
  if t0 = 0 then
    pj_X10_registered_185 ms l1 l2 t0 (-1)
  else
    h_b1 (k_aI ms 38 1) fun x23 =>
    h_b1 (k_aI ms 38 2) fun x24 =>
    k_bd (p_X10_entryFor ms l1 x23 x24) fun r25 q26 =>
    pj_X10_registered_185 q26 l1 l2 t0 r25
def pj_X10_registered_158 (ms : MS) (l1 : Int32) (l2 : Int32) : Option (Unit × MS) :=
  pj_X10_registered_159 ms l1 l2 0
def pj_X10_registered_107 (ms : MS) (l1 : Int32) (l2 : Int32) (t0 : Int32) : Option (Unit × MS) :=
  if t0 = 0 then
    pj_X10_registered_158 ms l1 l2
  else
    h_b1 (k_aI ms 38 1) fun x27 =>
    h_b1 (k_aI ms 38 2) fun x28 =>
    k_bd (p_X10_owner ms x27 x28) fun r29 q30 =>
    if r29 = l1 then
      h_b1 (k_aI q30 38 4) fun x31 =>
      h_b1 (k_aL q30 ((8 * l1) + l2)) fun x32 =>
      if (lg_cmp (Int32.toInt64 x31) x32) ≤ 0 then
        pj_X10_registered_158 q30 l1 l2
      else
        pj_X10_registered_159 q30 l1 l2 1
    else
      pj_X10_registered_158 q30 l1 l2
def pj_X10_registered_106 (ms : MS) (l1 : Int32) (l2 : Int32) : Option (Unit × MS) :=
  pj_X10_registered_107 ms l1 l2 0
def p_X10_registered (ms : MS)  : Option (Unit × MS) :=
  h_b1 (k_aI ms 38 7) fun x1 =>
  k_bd (p_X10_isServerAt ms x1) fun r2 q3 =>
  if r2 = 0 then
    some ((), q3)
  else
    h_b1 (k_aI q3 38 0) fun x4 =>
    k_bd (p_X10_isSite q3 x4) fun r5 q6 =>
    if r5 = 0 then
      pj_X10_registered_106 q6 x1 x4
    else
      h_b1 (k_aI q6 38 3) fun x33 =>
      k_bd (p_X10_in q6 x33 0 15) fun r34 q35 =>
      if r34 = 0 then
        pj_X10_registered_106 q35 x1 x4
      else
        h_b1 (k_aI q35 38 1) fun x36 =>
        h_b1 (k_aI q35 38 2) fun x37 =>
        k_bd (p_X10_isPrefix q35 x36 x37) fun r38 q39 =>
        if r38 = 0 then
          pj_X10_registered_106 q39 x1 x4
        else
          h_b1 (k_aI q39 38 1) fun x40 =>
          h_b1 (k_aI q39 38 2) fun x41 =>
          h_b1 (k_aI q39 38 3) fun x42 =>
          h_b1 (k_aI q39 38 4) fun x43 =>
          k_bd (p_X10_tag q39 x4 x40 x41 x42 x43) fun r44 q45 =>
          h_b1 (k_aI q45 38 5) fun x46 =>
          if r44 = x46 then
            pj_X10_registered_107 q45 x1 x4 1
          else
            pj_X10_registered_106 q45 x1 x4
set_option maxHeartbeats 4000000 in
set_option maxRecDepth 100000 in
theorem qj_X10_registered_243 {σ0 : HS} {m : Nat} {A : Nat → Nat} (σ : HS) (ms : MS) (l1 : Int32) (l2 : Int32) (l3 : Int32) (l4 : Int32) (hV : MV σ m A ms) (hF : MF σ0 σ m A) : Rl σ0 m A (j_X10_registered_243 σ (some m) l1 l2 l3 l4) (pj_X10_registered_243 ms l1 l2 l3 l4) := by
  unfold j_X10_registered_243 pj_X10_registered_243
  refine Rl_ite (fun _ => ?_) (fun _ => ?_)
  · refine Rl_gI hV (by decide) ?_
    refine Rl_pI hV hF (by decide) (fun _ q19 hV hF => ?_)
    exact Rl_ret hV hF
  · refine Rl_gR hV (by decide) ?_
    refine Rl_gR hV (by decide) ?_
    refine Rl_aI hV (by decide) (by decide) (fun x7 => ?_)
    refine Rl_sL hV hF (fun _ q8 hV hF => ?_)
    refine Rl_gR hV (by decide) ?_
    refine Rl_gR hV (by decide) ?_
    refine Rl_aI hV (by decide) (by decide) (fun x9 => ?_)
    refine Rl_sI hV hF (by decide) (by decide) (fun _ q10 hV hF => ?_)
    refine Rl_gR hV (by decide) ?_
    refine Rl_gR hV (by decide) ?_
    refine Rl_aI hV (by decide) (by decide) (fun x11 => ?_)
    refine Rl_sI hV hF (by decide) (by decide) (fun _ q12 hV hF => ?_)
    refine Rl_gR hV (by decide) ?_
    refine Rl_sI hV hF (by decide) (by decide) (fun _ q13 hV hF => ?_)
    refine Rl_gR hV (by decide) ?_
    refine Rl_gR hV (by decide) ?_
    refine Rl_aI hV (by decide) (by decide) (fun x14 => ?_)
    refine Rl_sI hV hF (by decide) (by decide) (fun _ q15 hV hF => ?_)
    refine Rl_gR hV (by decide) ?_
    refine Rl_gR hV (by decide) ?_
    refine Rl_aI hV (by decide) (by decide) (fun x16 => ?_)
    refine Rl_sI hV hF (by decide) (by decide) (fun _ q17 hV hF => ?_)
    refine Rl_gR hV (by decide) ?_
    refine Rl_gI hV (by decide) ?_
    refine Rl_sI hV hF (by decide) (by decide) (fun _ q18 hV hF => ?_)
    exact Rl_ret hV hF
set_option maxHeartbeats 4000000 in
set_option maxRecDepth 100000 in
theorem qj_X10_registered_242 {σ0 : HS} {m : Nat} {A : Nat → Nat} (σ : HS) (ms : MS) (l1 : Int32) (l2 : Int32) (l4 : Int32) (t0 : Int32) (hV : MV σ m A ms) (hF : MF σ0 σ m A) : Rl σ0 m A (j_X10_registered_242 σ (some m) l1 l2 l4 t0) (pj_X10_registered_242 ms l1 l2 l4 t0) := by
  unfold j_X10_registered_242 pj_X10_registered_242
  exact qj_X10_registered_243 _ ms l1 l2 t0 l4 hV hF
set_option maxHeartbeats 4000000 in
set_option maxRecDepth 100000 in
theorem qj_X10_registered_213 {σ0 : HS} {m : Nat} {A : Nat → Nat} (σ : HS) (ms : MS) (l1 : Int32) (l2 : Int32) (l4 : Int32) (t0 : Int32) (hV : MV σ m A ms) (hF : MF σ0 σ m A) : Rl σ0 m A (j_X10_registered_213 σ (some m) l1 l2 l4 t0) (pj_X10_registered_213 ms l1 l2 l4 t0) := by
  unfold j_X10_registered_213 pj_X10_registered_213
  refine Rl_ite (fun _ => ?_) (fun _ => ?_)
  · exact qj_X10_registered_243 _ ms l1 l2 t0 l4 hV hF
  · refine Rl_ite (fun _ => ?_) (fun _ => ?_)
    · refine Rl_rcv hV ?_
      refine Rl_bd hF (q_X10_emptyEntry hV _) (fun r20 _ q21 hV hF => ?_)
      refine Rl_ite (fun _ => ?_) (fun _ => ?_)
      · exact qj_X10_registered_242 _ q21 l1 l2 r20 0 hV hF
      · exact qj_X10_registered_242 _ q21 l1 l2 r20 1 hV hF
    · exact qj_X10_registered_243 _ ms l1 l2 t0 l4 hV hF
set_option maxHeartbeats 4000000 in
set_option maxRecDepth 100000 in
theorem qj_X10_registered_212 {σ0 : HS} {m : Nat} {A : Nat → Nat} (σ : HS) (ms : MS) (l1 : Int32) (l2 : Int32) (l4 : Int32) (hV : MV σ m A ms) (hF : MF σ0 σ m A) : Rl σ0 m A (j_X10_registered_212 σ (some m) l1 l2 l4) (pj_X10_registered_212 ms l1 l2 l4) := by
  unfold j_X10_registered_212 pj_X10_registered_212
  exact qj_X10_registered_213 _ ms l1 l2 l4 0 hV hF
set_option maxHeartbeats 4000000 in
set_option maxRecDepth 100000 in
theorem qj_X10_registered_208 {σ0 : HS} {m : Nat} {A : Nat → Nat} (σ : HS) (ms : MS) (l1 : Int32) (l2 : Int32) (l4 : Int32) (hV : MV σ m A ms) (hF : MF σ0 σ m A) : Rl σ0 m A (j_X10_registered_208 σ (some m) l1 l2 l4) (pj_X10_registered_208 ms l1 l2 l4) := by
  unfold j_X10_registered_208 pj_X10_registered_208
  exact qj_X10_registered_213 _ ms l1 l2 l4 1 hV hF
set_option maxHeartbeats 4000000 in
set_option maxRecDepth 100000 in
theorem qj_X10_registered_185 {σ0 : HS} {m : Nat} {A : Nat → Nat} (σ : HS) (ms : MS) (l1 : Int32) (l2 : Int32) (l3 : Int32) (t0 : Int32) (hV : MV σ m A ms) (hF : MF σ0 σ m A) : Rl σ0 m A (j_X10_registered_185 σ (some m) l1 l2 l3 t0) (pj_X10_registered_185 ms l1 l2 l3 t0) := by
  unfold j_X10_registered_185 pj_X10_registered_185
  refine Rl_ite (fun _ => ?_) (fun _ => ?_)
  · exact qj_X10_registered_212 _ ms l1 l2 t0 hV hF
  · refine Rl_ite (fun _ => ?_) (fun _ => ?_)
    · exact qj_X10_registered_208 _ ms l1 l2 t0 hV hF
    · refine Rl_gR hV (by decide) ?_
      refine Rl_aI hV (by decide) (by decide) (fun x22 => ?_)
      refine Rl_ite (fun _ => ?_) (fun _ => ?_)
      · exact qj_X10_registered_208 _ ms l1 l2 t0 hV hF
      · exact qj_X10_registered_212 _ ms l1 l2 t0 hV hF
set_option maxHeartbeats 4000000 in
set_option maxRecDepth 100000 in
theorem qj_X10_registered_159 {σ0 : HS} {m : Nat} {A : Nat → Nat} (σ : HS) (ms : MS) (l1 : Int32) (l2 : Int32) (t0 : Int32) (hV : MV σ m A ms) (hF : MF σ0 σ m A) : Rl σ0 m A (j_X10_registered_159 σ (some m) l1 l2 t0) (pj_X10_registered_159 ms l1 l2 t0) := by
  unfold j_X10_registered_159 pj_X10_registered_159
  refine Rl_ite (fun _ => ?_) (fun _ => ?_)
  · exact qj_X10_registered_185 _ ms l1 l2 t0 (-1) hV hF
  · refine Rl_gR hV (by decide) ?_
    refine Rl_aI hV (by decide) (by decide) (fun x23 => ?_)
    refine Rl_gR hV (by decide) ?_
    refine Rl_aI hV (by decide) (by decide) (fun x24 => ?_)
    refine Rl_rcv hV ?_
    refine Rl_bd hF (q_X10_entryFor hV _ _ _) (fun r25 _ q26 hV hF => ?_)
    exact qj_X10_registered_185 _ q26 l1 l2 t0 r25 hV hF
set_option maxHeartbeats 4000000 in
set_option maxRecDepth 100000 in
theorem qj_X10_registered_158 {σ0 : HS} {m : Nat} {A : Nat → Nat} (σ : HS) (ms : MS) (l1 : Int32) (l2 : Int32) (hV : MV σ m A ms) (hF : MF σ0 σ m A) : Rl σ0 m A (j_X10_registered_158 σ (some m) l1 l2) (pj_X10_registered_158 ms l1 l2) := by
  unfold j_X10_registered_158 pj_X10_registered_158
  exact qj_X10_registered_159 _ ms l1 l2 0 hV hF
set_option maxHeartbeats 4000000 in
set_option maxRecDepth 100000 in
theorem qj_X10_registered_107 {σ0 : HS} {m : Nat} {A : Nat → Nat} (σ : HS) (ms : MS) (l1 : Int32) (l2 : Int32) (t0 : Int32) (hV : MV σ m A ms) (hF : MF σ0 σ m A) : Rl σ0 m A (j_X10_registered_107 σ (some m) l1 l2 t0) (pj_X10_registered_107 ms l1 l2 t0) := by
  unfold j_X10_registered_107 pj_X10_registered_107
  refine Rl_ite (fun _ => ?_) (fun _ => ?_)
  · exact qj_X10_registered_158 _ ms l1 l2 hV hF
  · refine Rl_gR hV (by decide) ?_
    refine Rl_aI hV (by decide) (by decide) (fun x27 => ?_)
    refine Rl_gR hV (by decide) ?_
    refine Rl_aI hV (by decide) (by decide) (fun x28 => ?_)
    refine Rl_rcv hV ?_
    refine Rl_bd hF (q_X10_owner hV _ _) (fun r29 _ q30 hV hF => ?_)
    refine Rl_ite (fun _ => ?_) (fun _ => ?_)
    · refine Rl_gR hV (by decide) ?_
      refine Rl_aI hV (by decide) (by decide) (fun x31 => ?_)
      refine Rl_gR hV (by decide) ?_
      refine Rl_aL hV (fun x32 => ?_)
      refine Rl_ite (fun _ => ?_) (fun _ => ?_)
      · exact qj_X10_registered_158 _ q30 l1 l2 hV hF
      · exact qj_X10_registered_159 _ q30 l1 l2 1 hV hF
    · exact qj_X10_registered_158 _ q30 l1 l2 hV hF
set_option maxHeartbeats 4000000 in
set_option maxRecDepth 100000 in
theorem qj_X10_registered_106 {σ0 : HS} {m : Nat} {A : Nat → Nat} (σ : HS) (ms : MS) (l1 : Int32) (l2 : Int32) (hV : MV σ m A ms) (hF : MF σ0 σ m A) : Rl σ0 m A (j_X10_registered_106 σ (some m) l1 l2) (pj_X10_registered_106 ms l1 l2) := by
  unfold j_X10_registered_106 pj_X10_registered_106
  exact qj_X10_registered_107 _ ms l1 l2 0 hV hF
set_option maxHeartbeats 4000000 in
set_option maxRecDepth 100000 in
theorem q_X10_registered {σ : HS} {m : Nat} {A : Nat → Nat} {ms : MS} (hV : MV σ m A ms)  : Rl σ m A (f_X10_registered σ (some m)) (p_X10_registered ms ) := by
  have hF : MF σ σ m A := MF.rf
  unfold f_X10_registered p_X10_registered
  refine Rl_gR hV (by decide) ?_
  refine Rl_aI hV (by decide) (by decide) (fun x1 => ?_)
  refine Rl_rcv hV ?_
  refine Rl_bd hF (q_X10_isServerAt hV _) (fun r2 _ q3 hV hF => ?_)
  refine Rl_ite (fun _ => ?_) (fun _ => ?_)
  · exact Rl_ret hV hF
  · refine Rl_gR hV (by decide) ?_
    refine Rl_aI hV (by decide) (by decide) (fun x4 => ?_)
    refine Rl_rcv hV ?_
    refine Rl_bd hF (q_X10_isSite hV _) (fun r5 _ q6 hV hF => ?_)
    refine Rl_ite (fun _ => ?_) (fun _ => ?_)
    · exact qj_X10_registered_106 _ q6 x1 x4 hV hF
    · refine Rl_gR hV (by decide) ?_
      refine Rl_aI hV (by decide) (by decide) (fun x33 => ?_)
      refine Rl_bd hF (q_X10_in hV _ _ _) (fun r34 _ q35 hV hF => ?_)
      refine Rl_ite (fun _ => ?_) (fun _ => ?_)
      · exact qj_X10_registered_106 _ q35 x1 x4 hV hF
      · refine Rl_gR hV (by decide) ?_
        refine Rl_aI hV (by decide) (by decide) (fun x36 => ?_)
        refine Rl_gR hV (by decide) ?_
        refine Rl_aI hV (by decide) (by decide) (fun x37 => ?_)
        refine Rl_bd hF (q_X10_isPrefix hV _ _) (fun r38 _ q39 hV hF => ?_)
        refine Rl_ite (fun _ => ?_) (fun _ => ?_)
        · exact qj_X10_registered_106 _ q39 x1 x4 hV hF
        · refine Rl_gR hV (by decide) ?_
          refine Rl_aI hV (by decide) (by decide) (fun x40 => ?_)
          refine Rl_gR hV (by decide) ?_
          refine Rl_aI hV (by decide) (by decide) (fun x41 => ?_)
          refine Rl_gR hV (by decide) ?_
          refine Rl_aI hV (by decide) (by decide) (fun x42 => ?_)
          refine Rl_gR hV (by decide) ?_
          refine Rl_aI hV (by decide) (by decide) (fun x43 => ?_)
          refine Rl_bd hF (q_X10_tag hV _ _ _ _ _) (fun r44 _ q45 hV hF => ?_)
          refine Rl_gR hV (by decide) ?_
          refine Rl_aI hV (by decide) (by decide) (fun x46 => ?_)
          refine Rl_ite (fun _ => ?_) (fun _ => ?_)
          · exact qj_X10_registered_107 _ q45 x1 x4 1 hV hF
          · exact qj_X10_registered_106 _ q45 x1 x4 hV hF
