/-! X10_draw -/
def p_X10_draw (ms : MS)  : Option (Unit × MS) :=
  k_lt (k_pI ms 2 ((ms.1 2) ^^^ ((ms.1 2) <<< (13 &&& 31)))) fun q1 =>
  k_lt (k_pI q1 2 ((q1.1 2) ^^^ (h_ushr (q1.1 2) 17))) fun q2 =>
  k_lt (k_pI q2 2 ((q2.1 2) ^^^ ((q2.1 2) <<< (5 &&& 31)))) fun q3 =>
  some ((), q3)
set_option maxHeartbeats 4000000 in
set_option maxRecDepth 100000 in
theorem q_X10_draw {σ : HS} {m : Nat} {A : Nat → Nat} {ms : MS} (hV : MV σ m A ms)  : Rl σ m A (f_X10_draw σ (some m)) (p_X10_draw ms ) := by
  have hF : MF σ σ m A := MF.rf
  unfold f_X10_draw p_X10_draw
  refine Rl_gI hV (by decide) ?_
  refine Rl_gI hV (by decide) ?_
  refine Rl_pI hV hF (by decide) (fun _ q1 hV hF => ?_)
  refine Rl_gI hV (by decide) ?_
  refine Rl_gI hV (by decide) ?_
  refine Rl_pI hV hF (by decide) (fun _ q2 hV hF => ?_)
  refine Rl_gI hV (by decide) ?_
  refine Rl_gI hV (by decide) ?_
  refine Rl_pI hV hF (by decide) (fun _ q3 hV hF => ?_)
  exact Rl_ret hV hF
/-! X10_ask -/
def p_X10_ask (ms : MS) (a1 : Int32) (a2 : Int32) : Option (Unit × MS) :=
  k_bd (p_X10_draw ms ) fun _ q2 =>
  h_b1 (k_sI q2 31 a1 0) fun q3 =>
  h_b1 (k_sI q3 32 a1 (q3.1 2)) fun q4 =>
  h_b1 (k_aI q4 29 a1) fun x5 =>
  h_b1 (k_aI q4 30 a1) fun x6 =>
  k_bd (p_X10_post q4 1 a2 x5 (q4.1 2) x6 0 0) fun _ q8 =>
  some ((), q8)
set_option maxHeartbeats 4000000 in
set_option maxRecDepth 100000 in
theorem q_X10_ask {σ : HS} {m : Nat} {A : Nat → Nat} {ms : MS} (hV : MV σ m A ms) (a1 : Int32) (a2 : Int32) : Rl σ m A (f_X10_ask σ (some m) a1 a2) (p_X10_ask ms a1 a2) := by
  have hF : MF σ σ m A := MF.rf
  unfold f_X10_ask p_X10_ask
  refine Rl_rcv hV ?_
  refine Rl_bd hF (q_X10_draw hV ) (fun r1 _ q2 hV hF => ?_)
  refine Rl_gR hV (by decide) ?_
  refine Rl_sI hV hF (by decide) (by decide) (fun _ q3 hV hF => ?_)
  refine Rl_gR hV (by decide) ?_
  refine Rl_gI hV (by decide) ?_
  refine Rl_sI hV hF (by decide) (by decide) (fun _ q4 hV hF => ?_)
  refine Rl_gR hV (by decide) ?_
  refine Rl_aI hV (by decide) (by decide) (fun x5 => ?_)
  refine Rl_gI hV (by decide) ?_
  refine Rl_gR hV (by decide) ?_
  refine Rl_aI hV (by decide) (by decide) (fun x6 => ?_)
  refine Rl_rcv hV ?_
  refine Rl_bd hF (q_X10_post hV _ _ _ _ _ _ _) (fun r7 _ q8 hV hF => ?_)
  exact Rl_ret hV hF
/-! X10_follow -/
def pj_X10_follow_15 (ms : MS) (l1 : Int32) (l2 : Int32) (t0 : Int32) (t1 : Int32) : Option (Unit × MS) :=
  h_b1 (k_sI ms 31 t1 t0) fun q1 =>
  if l2 = (-1) then
    some ((), q1)
  else
    h_b1 (k_aI q1 29 l1) fun x2 =>
    h_b1 (k_aI q1 30 l1) fun x3 =>
    k_bd (p_X10_post q1 3 l2 x2 l1 x3 0 0) fun _ q5 =>
    some ((), q5)
def p_X10_follow (ms : MS) (a1 : Int32) (a2 : Int32) : Option (Unit × MS) :=
  if a2 = (-1) then
    pj_X10_follow_15 ms a1 a2 3 a1
  else
    pj_X10_follow_15 ms a1 a2 1 a1
set_option maxHeartbeats 4000000 in
set_option maxRecDepth 100000 in
theorem qj_X10_follow_15 {σ0 : HS} {m : Nat} {A : Nat → Nat} (σ : HS) (ms : MS) (l1 : Int32) (l2 : Int32) (t0 : Int32) (t1 : Int32) (hV : MV σ m A ms) (hF : MF σ0 σ m A) : Rl σ0 m A (j_X10_follow_15 σ (some m) l1 l2 t0 t1 (some (A 31))) (pj_X10_follow_15 ms l1 l2 t0 t1) := by
  unfold j_X10_follow_15 pj_X10_follow_15
  refine Rl_sI hV hF (by decide) (by decide) (fun _ q1 hV hF => ?_)
  refine Rl_ite (fun _ => ?_) (fun _ => ?_)
  · exact Rl_ret hV hF
  · refine Rl_gR hV (by decide) ?_
    refine Rl_aI hV (by decide) (by decide) (fun x2 => ?_)
    refine Rl_gR hV (by decide) ?_
    refine Rl_aI hV (by decide) (by decide) (fun x3 => ?_)
    refine Rl_rcv hV ?_
    refine Rl_bd hF (q_X10_post hV _ _ _ _ _ _ _) (fun r4 _ q5 hV hF => ?_)
    exact Rl_ret hV hF
set_option maxHeartbeats 4000000 in
set_option maxRecDepth 100000 in
theorem q_X10_follow {σ : HS} {m : Nat} {A : Nat → Nat} {ms : MS} (hV : MV σ m A ms) (a1 : Int32) (a2 : Int32) : Rl σ m A (f_X10_follow σ (some m) a1 a2) (p_X10_follow ms a1 a2) := by
  have hF : MF σ σ m A := MF.rf
  unfold f_X10_follow p_X10_follow
  refine Rl_gR hV (by decide) ?_
  refine Rl_ite (fun _ => ?_) (fun _ => ?_)
  · exact qj_X10_follow_15 _ ms a1 a2 3 a1 hV hF
  · exact qj_X10_follow_15 _ ms a1 a2 1 a1 hV hF
/-! X10_makeNote -/
def pg_X10_makeNote_97 : Nat → MS → Int32 → Int32 → Int32 → Int32 → Int32 → Int32 → Int32 → Option (Unit × MS)
  | 0, _, _, _, _, _, _, _, _ => none
  | n + 1, ms, l1, l2, l3, l4, l5, l6, l7 =>
    if ((6 * l1) + 6) ≤ l7 then
      k_lt (k_pI ms 25 ((ms.1 25) + 1)) fun q1 =>
      h_b1 (k_sI q1 19 l6 l2) fun q2 =>
      h_b1 (k_sI q2 20 l6 l3) fun q3 =>
      h_b1 (k_sI q3 21 l6 l4) fun q4 =>
      h_b1 (k_sI q4 22 l6 l5) fun q5 =>
      h_b1 (k_sI q5 23 l6 ((q5.1 1) + 60)) fun q6 =>
      h_b1 (k_sI q6 24 l6 (q6.1 25)) fun q7 =>
      some ((), q7)
    else
      h_b1 (k_aI ms 23 l7) fun x8 =>
      if x8 ≤ (ms.1 1) then
        if l6 = (-1) then
          if l6 = (-1) then
            pg_X10_makeNote_97 n ms l1 l2 l3 l4 l5 l7 (l7 + 1)
          else
            if (0 : Int32) < 0 then
              pg_X10_makeNote_97 n ms l1 l2 l3 l4 l5 l7 (l7 + 1)
            else
              if (0 : Int32) = 0 then
                if (0 : Int32) ≤ 0 then
                  pg_X10_makeNote_97 n ms l1 l2 l3 l4 l5 l6 (l7 + 1)
                else
                  h_b1 (k_aI ms 24 l7) fun x15 =>
                  h_b1 (k_aI ms 24 l6) fun x16 =>
                  if x16 ≤ x15 then
                    pg_X10_makeNote_97 n ms l1 l2 l3 l4 l5 l6 (l7 + 1)
                  else
                    pg_X10_makeNote_97 n ms l1 l2 l3 l4 l5 l7 (l7 + 1)
              else
                pg_X10_makeNote_97 n ms l1 l2 l3 l4 l5 l6 (l7 + 1)
        else
          h_b1 (k_aI ms 23 l6) fun x9 =>
          if x9 ≤ (ms.1 1) then
            if l6 = (-1) then
              pg_X10_makeNote_97 n ms l1 l2 l3 l4 l5 l7 (l7 + 1)
            else
              if (0 : Int32) < 0 then
                pg_X10_makeNote_97 n ms l1 l2 l3 l4 l5 l7 (l7 + 1)
              else
                if (0 : Int32) = 0 then
                  if (0 : Int32) ≤ 0 then
                    pg_X10_makeNote_97 n ms l1 l2 l3 l4 l5 l6 (l7 + 1)
                  else
                    h_b1 (k_aI ms 24 l7) fun x10 =>
                    h_b1 (k_aI ms 24 l6) fun x11 =>
                    if x11 ≤ x10 then
                      pg_X10_makeNote_97 n ms l1 l2 l3 l4 l5 l6 (l7 + 1)
                    else
                      pg_X10_makeNote_97 n ms l1 l2 l3 l4 l5 l7 (l7 + 1)
                else
                  pg_X10_makeNote_97 n ms l1 l2 l3 l4 l5 l6 (l7 + 1)
          else
            h_b1 (k_aI ms 23 l6) fun x12 =>
            if l6 = (-1) then
              pg_X10_makeNote_97 n ms l1 l2 l3 l4 l5 l7 (l7 + 1)
            else
              if 0 < x12 then
                pg_X10_makeNote_97 n ms l1 l2 l3 l4 l5 l7 (l7 + 1)
              else
                if 0 = x12 then
                  if (0 : Int32) ≤ 0 then
                    pg_X10_makeNote_97 n ms l1 l2 l3 l4 l5 l6 (l7 + 1)
                  else
                    h_b1 (k_aI ms 24 l7) fun x13 =>
                    h_b1 (k_aI ms 24 l6) fun x14 =>
                    if x14 ≤ x13 then
                      pg_X10_makeNote_97 n ms l1 l2 l3 l4 l5 l6 (l7 + 1)
                    else
                      pg_X10_makeNote_97 n ms l1 l2 l3 l4 l5 l7 (l7 + 1)
                else
                  pg_X10_makeNote_97 n ms l1 l2 l3 l4 l5 l6 (l7 + 1)
      else
        h_b1 (k_aI ms 23 l7) fun x17 =>
        if l6 = (-1) then
          if l6 = (-1) then
            pg_X10_makeNote_97 n ms l1 l2 l3 l4 l5 l7 (l7 + 1)
          else
            if x17 < 0 then
              pg_X10_makeNote_97 n ms l1 l2 l3 l4 l5 l7 (l7 + 1)
            else
              if x17 = 0 then
                if x17 ≤ 0 then
                  pg_X10_makeNote_97 n ms l1 l2 l3 l4 l5 l6 (l7 + 1)
                else
                  h_b1 (k_aI ms 24 l7) fun x24 =>
                  h_b1 (k_aI ms 24 l6) fun x25 =>
                  if x25 ≤ x24 then
                    pg_X10_makeNote_97 n ms l1 l2 l3 l4 l5 l6 (l7 + 1)
                  else
                    pg_X10_makeNote_97 n ms l1 l2 l3 l4 l5 l7 (l7 + 1)
              else
                pg_X10_makeNote_97 n ms l1 l2 l3 l4 l5 l6 (l7 + 1)
        else
          h_b1 (k_aI ms 23 l6) fun x18 =>
          if x18 ≤ (ms.1 1) then
            if l6 = (-1) then
              pg_X10_makeNote_97 n ms l1 l2 l3 l4 l5 l7 (l7 + 1)
            else
              if x17 < 0 then
                pg_X10_makeNote_97 n ms l1 l2 l3 l4 l5 l7 (l7 + 1)
              else
                if x17 = 0 then
                  if x17 ≤ 0 then
                    pg_X10_makeNote_97 n ms l1 l2 l3 l4 l5 l6 (l7 + 1)
                  else
                    h_b1 (k_aI ms 24 l7) fun x19 =>
                    h_b1 (k_aI ms 24 l6) fun x20 =>
                    if x20 ≤ x19 then
                      pg_X10_makeNote_97 n ms l1 l2 l3 l4 l5 l6 (l7 + 1)
                    else
                      pg_X10_makeNote_97 n ms l1 l2 l3 l4 l5 l7 (l7 + 1)
                else
                  pg_X10_makeNote_97 n ms l1 l2 l3 l4 l5 l6 (l7 + 1)
          else
            h_b1 (k_aI ms 23 l6) fun x21 =>
            if l6 = (-1) then
              pg_X10_makeNote_97 n ms l1 l2 l3 l4 l5 l7 (l7 + 1)
            else
              if x17 < x21 then
                pg_X10_makeNote_97 n ms l1 l2 l3 l4 l5 l7 (l7 + 1)
              else
                if x17 = x21 then
                  if x17 ≤ 0 then
                    pg_X10_makeNote_97 n ms l1 l2 l3 l4 l5 l6 (l7 + 1)
                  else
                    h_b1 (k_aI ms 24 l7) fun x22 =>
                    h_b1 (k_aI ms 24 l6) fun x23 =>
                    if x23 ≤ x22 then
                      pg_X10_makeNote_97 n ms l1 l2 l3 l4 l5 l6 (l7 + 1)
                    else
                      pg_X10_makeNote_97 n ms l1 l2 l3 l4 l5 l7 (l7 + 1)
                else
                  pg_X10_makeNote_97 n ms l1 l2 l3 l4 l5 l6 (l7 + 1)
def pg_X10_makeNote_9 : Nat → MS → Int32 → Int32 → Int32 → Int32 → Int32 → Int32 → Int32 → Option (Unit × MS)
  | 0, _, _, _, _, _, _, _, _ => none
  | n + 1, ms, l1, l2, l3, l4, l5, l6, l7 =>
    if ((6 * l1) + 6) ≤ l7 then
      pg_X10_makeNote_97 h_hN ms l1 l2 l3 l4 l5 l6 (6 * l1)
    else
      h_b1 (k_aI ms 19 l7) fun x26 =>
      h_b1 (k_aI ms 20 l7) fun x27 =>
      k_bd (p_X10_holds ms l2 l3 x26 x27) fun r28 q29 =>
      if r28 = 0 then
        h_b1 (k_aI q29 19 l7) fun x31 =>
        h_b1 (k_aI q29 20 l7) fun x32 =>
        k_bd (p_X10_holds q29 x31 x32 l2 l3) fun r33 q34 =>
        if r33 = 0 then
          if (0 : Int32) = 0 then
            pg_X10_makeNote_9 n q34 l1 l2 l3 l4 l5 l6 (l7 + 1)
          else
            h_b1 (k_sI q34 23 l7 0) fun q35 =>
            pg_X10_makeNote_9 n q35 l1 l2 l3 l4 l5 l6 (l7 + 1)
        else
          if (1 : Int32) = 0 then
            pg_X10_makeNote_9 n q34 l1 l2 l3 l4 l5 l6 (l7 + 1)
          else
            h_b1 (k_sI q34 23 l7 0) fun q36 =>
            pg_X10_makeNote_9 n q36 l1 l2 l3 l4 l5 l6 (l7 + 1)
      else
        if (1 : Int32) = 0 then
          pg_X10_makeNote_9 n q29 l1 l2 l3 l4 l5 l6 (l7 + 1)
        else
          h_b1 (k_sI q29 23 l7 0) fun q30 =>
          pg_X10_makeNote_9 n q30 l1 l2 l3 l4 l5 l6 (l7 + 1)
def p_X10_makeNote (ms : MS) (a1 : Int32) (a2 : Int32) (a3 : Int32) (a4 : Int32) (a5 : Int32) : Option (Unit × MS) :=
  pg_X10_makeNote_9 h_hN ms a1 a2 a3 a4 a5 (-1) (6 * a1)
set_option maxHeartbeats 4000000 in
set_option maxRecDepth 100000 in
theorem qg_X10_makeNote_97 {σ0 : HS} {m : Nat} {A : Nat → Nat} : ∀ (n : Nat) (σ : HS) (ms : MS) (l1 : Int32) (l2 : Int32) (l3 : Int32) (l4 : Int32) (l5 : Int32) (l6 : Int32) (l7 : Int32), MV σ m A ms → MF σ0 σ m A → Rl σ0 m A (g_X10_makeNote_97 n σ (some m) l1 l2 l3 l4 l5 l6 l7) (pg_X10_makeNote_97 n ms l1 l2 l3 l4 l5 l6 l7) := by
  intro n
  induction n with
  | zero =>
    intro σ ms l1 l2 l3 l4 l5 l6 l7 hV hF
    rw [pg_X10_makeNote_97]
    exact Rl_none
  | succ n ih =>
    intro σ ms l1 l2 l3 l4 l5 l6 l7 hV hF
    rw [pg_X10_makeNote_97, g_X10_makeNote_97]
    refine Rl_ite (fun _ => ?_) (fun _ => ?_)
    · refine Rl_gI hV (by decide) ?_
      refine Rl_pI hV hF (by decide) (fun _ q1 hV hF => ?_)
      refine Rl_gR hV (by decide) ?_
      refine Rl_sI hV hF (by decide) (by decide) (fun _ q2 hV hF => ?_)
      refine Rl_gR hV (by decide) ?_
      refine Rl_sI hV hF (by decide) (by decide) (fun _ q3 hV hF => ?_)
      refine Rl_gR hV (by decide) ?_
      refine Rl_sI hV hF (by decide) (by decide) (fun _ q4 hV hF => ?_)
      refine Rl_gR hV (by decide) ?_
      refine Rl_sI hV hF (by decide) (by decide) (fun _ q5 hV hF => ?_)
      refine Rl_gR hV (by decide) ?_
      refine Rl_gI hV (by decide) ?_
      refine Rl_sI hV hF (by decide) (by decide) (fun _ q6 hV hF => ?_)
      refine Rl_gR hV (by decide) ?_
      refine Rl_gI hV (by decide) ?_
      refine Rl_sI hV hF (by decide) (by decide) (fun _ q7 hV hF => ?_)
      exact Rl_ret hV hF
    · refine Rl_gR hV (by decide) ?_
      refine Rl_aI hV (by decide) (by decide) (fun x8 => ?_)
      refine Rl_gI hV (by decide) ?_
      refine Rl_ite (fun _ => ?_) (fun _ => ?_)
      · refine Rl_ite (fun _ => ?_) (fun _ => ?_)
        · refine Rl_ite (fun _ => ?_) (fun _ => ?_)
          · exact ih _ ms l1 l2 l3 l4 l5 l7 (l7 + 1) hV hF
          · refine Rl_ite (fun _ => ?_) (fun _ => ?_)
            · exact ih _ ms l1 l2 l3 l4 l5 l7 (l7 + 1) hV hF
            · refine Rl_ite (fun _ => ?_) (fun _ => ?_)
              · refine Rl_ite (fun _ => ?_) (fun _ => ?_)
                · exact ih _ ms l1 l2 l3 l4 l5 l6 (l7 + 1) hV hF
                · refine Rl_gR hV (by decide) ?_
                  refine Rl_aI hV (by decide) (by decide) (fun x15 => ?_)
                  refine Rl_gR hV (by decide) ?_
                  refine Rl_aI hV (by decide) (by decide) (fun x16 => ?_)
                  refine Rl_ite (fun _ => ?_) (fun _ => ?_)
                  · exact ih _ ms l1 l2 l3 l4 l5 l6 (l7 + 1) hV hF
                  · exact ih _ ms l1 l2 l3 l4 l5 l7 (l7 + 1) hV hF
              · exact ih _ ms l1 l2 l3 l4 l5 l6 (l7 + 1) hV hF
        · refine Rl_gR hV (by decide) ?_
          refine Rl_aI hV (by decide) (by decide) (fun x9 => ?_)
          refine Rl_gI hV (by decide) ?_
          refine Rl_ite (fun _ => ?_) (fun _ => ?_)
          · refine Rl_ite (fun _ => ?_) (fun _ => ?_)
            · exact ih _ ms l1 l2 l3 l4 l5 l7 (l7 + 1) hV hF
            · refine Rl_ite (fun _ => ?_) (fun _ => ?_)
              · exact ih _ ms l1 l2 l3 l4 l5 l7 (l7 + 1) hV hF
              · refine Rl_ite (fun _ => ?_) (fun _ => ?_)
                · refine Rl_ite (fun _ => ?_) (fun _ => ?_)
                  · exact ih _ ms l1 l2 l3 l4 l5 l6 (l7 + 1) hV hF
                  · refine Rl_gR hV (by decide) ?_
                    refine Rl_aI hV (by decide) (by decide) (fun x10 => ?_)
                    refine Rl_gR hV (by decide) ?_
                    refine Rl_aI hV (by decide) (by decide) (fun x11 => ?_)
                    refine Rl_ite (fun _ => ?_) (fun _ => ?_)
                    · exact ih _ ms l1 l2 l3 l4 l5 l6 (l7 + 1) hV hF
                    · exact ih _ ms l1 l2 l3 l4 l5 l7 (l7 + 1) hV hF
                · exact ih _ ms l1 l2 l3 l4 l5 l6 (l7 + 1) hV hF
          · refine Rl_gR hV (by decide) ?_
            refine Rl_aI hV (by decide) (by decide) (fun x12 => ?_)
            refine Rl_ite (fun _ => ?_) (fun _ => ?_)
            · exact ih _ ms l1 l2 l3 l4 l5 l7 (l7 + 1) hV hF
            · refine Rl_ite (fun _ => ?_) (fun _ => ?_)
              · exact ih _ ms l1 l2 l3 l4 l5 l7 (l7 + 1) hV hF
              · refine Rl_ite (fun _ => ?_) (fun _ => ?_)
                · refine Rl_ite (fun _ => ?_) (fun _ => ?_)
                  · exact ih _ ms l1 l2 l3 l4 l5 l6 (l7 + 1) hV hF
                  · refine Rl_gR hV (by decide) ?_
                    refine Rl_aI hV (by decide) (by decide) (fun x13 => ?_)
                    refine Rl_gR hV (by decide) ?_
                    refine Rl_aI hV (by decide) (by decide) (fun x14 => ?_)
                    refine Rl_ite (fun _ => ?_) (fun _ => ?_)
                    · exact ih _ ms l1 l2 l3 l4 l5 l6 (l7 + 1) hV hF
                    · exact ih _ ms l1 l2 l3 l4 l5 l7 (l7 + 1) hV hF
                · exact ih _ ms l1 l2 l3 l4 l5 l6 (l7 + 1) hV hF
      · refine Rl_gR hV (by decide) ?_
        refine Rl_aI hV (by decide) (by decide) (fun x17 => ?_)
        refine Rl_ite (fun _ => ?_) (fun _ => ?_)
        · refine Rl_ite (fun _ => ?_) (fun _ => ?_)
          · exact ih _ ms l1 l2 l3 l4 l5 l7 (l7 + 1) hV hF
          · refine Rl_ite (fun _ => ?_) (fun _ => ?_)
            · exact ih _ ms l1 l2 l3 l4 l5 l7 (l7 + 1) hV hF
            · refine Rl_ite (fun _ => ?_) (fun _ => ?_)
              · refine Rl_ite (fun _ => ?_) (fun _ => ?_)
                · exact ih _ ms l1 l2 l3 l4 l5 l6 (l7 + 1) hV hF
                · refine Rl_gR hV (by decide) ?_
                  refine Rl_aI hV (by decide) (by decide) (fun x24 => ?_)
                  refine Rl_gR hV (by decide) ?_
                  refine Rl_aI hV (by decide) (by decide) (fun x25 => ?_)
                  refine Rl_ite (fun _ => ?_) (fun _ => ?_)
                  · exact ih _ ms l1 l2 l3 l4 l5 l6 (l7 + 1) hV hF
                  · exact ih _ ms l1 l2 l3 l4 l5 l7 (l7 + 1) hV hF
              · exact ih _ ms l1 l2 l3 l4 l5 l6 (l7 + 1) hV hF
        · refine Rl_gR hV (by decide) ?_
          refine Rl_aI hV (by decide) (by decide) (fun x18 => ?_)
          refine Rl_gI hV (by decide) ?_
          refine Rl_ite (fun _ => ?_) (fun _ => ?_)
          · refine Rl_ite (fun _ => ?_) (fun _ => ?_)
            · exact ih _ ms l1 l2 l3 l4 l5 l7 (l7 + 1) hV hF
            · refine Rl_ite (fun _ => ?_) (fun _ => ?_)
              · exact ih _ ms l1 l2 l3 l4 l5 l7 (l7 + 1) hV hF
              · refine Rl_ite (fun _ => ?_) (fun _ => ?_)
                · refine Rl_ite (fun _ => ?_) (fun _ => ?_)
                  · exact ih _ ms l1 l2 l3 l4 l5 l6 (l7 + 1) hV hF
                  · refine Rl_gR hV (by decide) ?_
                    refine Rl_aI hV (by decide) (by decide) (fun x19 => ?_)
                    refine Rl_gR hV (by decide) ?_
                    refine Rl_aI hV (by decide) (by decide) (fun x20 => ?_)
                    refine Rl_ite (fun _ => ?_) (fun _ => ?_)
                    · exact ih _ ms l1 l2 l3 l4 l5 l6 (l7 + 1) hV hF
                    · exact ih _ ms l1 l2 l3 l4 l5 l7 (l7 + 1) hV hF
                · exact ih _ ms l1 l2 l3 l4 l5 l6 (l7 + 1) hV hF
          · refine Rl_gR hV (by decide) ?_
            refine Rl_aI hV (by decide) (by decide) (fun x21 => ?_)
            refine Rl_ite (fun _ => ?_) (fun _ => ?_)
            · exact ih _ ms l1 l2 l3 l4 l5 l7 (l7 + 1) hV hF
            · refine Rl_ite (fun _ => ?_) (fun _ => ?_)
              · exact ih _ ms l1 l2 l3 l4 l5 l7 (l7 + 1) hV hF
              · refine Rl_ite (fun _ => ?_) (fun _ => ?_)
                · refine Rl_ite (fun _ => ?_) (fun _ => ?_)
                  · exact ih _ ms l1 l2 l3 l4 l5 l6 (l7 + 1) hV hF
                  · refine Rl_gR hV (by decide) ?_
                    refine Rl_aI hV (by decide) (by decide) (fun x22 => ?_)
                    refine Rl_gR hV (by decide) ?_
                    refine Rl_aI hV (by decide) (by decide) (fun x23 => ?_)
                    refine Rl_ite (fun _ => ?_) (fun _ => ?_)
                    · exact ih _ ms l1 l2 l3 l4 l5 l6 (l7 + 1) hV hF
                    · exact ih _ ms l1 l2 l3 l4 l5 l7 (l7 + 1) hV hF
                · exact ih _ ms l1 l2 l3 l4 l5 l6 (l7 + 1) hV hF
set_option maxHeartbeats 4000000 in
set_option maxRecDepth 100000 in
theorem qg_X10_makeNote_9 {σ0 : HS} {m : Nat} {A : Nat → Nat} : ∀ (n : Nat) (σ : HS) (ms : MS) (l1 : Int32) (l2 : Int32) (l3 : Int32) (l4 : Int32) (l5 : Int32) (l6 : Int32) (l7 : Int32), MV σ m A ms → MF σ0 σ m A → Rl σ0 m A (g_X10_makeNote_9 n σ (some m) l1 l2 l3 l4 l5 l6 l7) (pg_X10_makeNote_9 n ms l1 l2 l3 l4 l5 l6 l7) := by
  intro n
  induction n with
  | zero =>
    intro σ ms l1 l2 l3 l4 l5 l6 l7 hV hF
    rw [pg_X10_makeNote_9]
    exact Rl_none
  | succ n ih =>
    intro σ ms l1 l2 l3 l4 l5 l6 l7 hV hF
    rw [pg_X10_makeNote_9, g_X10_makeNote_9]
    refine Rl_ite (fun _ => ?_) (fun _ => ?_)
    · exact qg_X10_makeNote_97 h_hN _ ms l1 l2 l3 l4 l5 l6 (6 * l1) hV hF
    · refine Rl_gR hV (by decide) ?_
      refine Rl_aI hV (by decide) (by decide) (fun x26 => ?_)
      refine Rl_gR hV (by decide) ?_
      refine Rl_aI hV (by decide) (by decide) (fun x27 => ?_)
      refine Rl_bd hF (q_X10_holds hV _ _ _ _) (fun r28 _ q29 hV hF => ?_)
      refine Rl_ite (fun _ => ?_) (fun _ => ?_)
      · refine Rl_gR hV (by decide) ?_
        refine Rl_aI hV (by decide) (by decide) (fun x31 => ?_)
        refine Rl_gR hV (by decide) ?_
        refine Rl_aI hV (by decide) (by decide) (fun x32 => ?_)
        refine Rl_bd hF (q_X10_holds hV _ _ _ _) (fun r33 _ q34 hV hF => ?_)
        refine Rl_ite (fun _ => ?_) (fun _ => ?_)
        · refine Rl_ite (fun _ => ?_) (fun _ => ?_)
          · exact ih _ q34 l1 l2 l3 l4 l5 l6 (l7 + 1) hV hF
          · refine Rl_gR hV (by decide) ?_
            refine Rl_sI hV hF (by decide) (by decide) (fun _ q35 hV hF => ?_)
            exact ih _ q35 l1 l2 l3 l4 l5 l6 (l7 + 1) hV hF
        · refine Rl_ite (fun _ => ?_) (fun _ => ?_)
          · exact ih _ q34 l1 l2 l3 l4 l5 l6 (l7 + 1) hV hF
          · refine Rl_gR hV (by decide) ?_
            refine Rl_sI hV hF (by decide) (by decide) (fun _ q36 hV hF => ?_)
            exact ih _ q36 l1 l2 l3 l4 l5 l6 (l7 + 1) hV hF
      · refine Rl_ite (fun _ => ?_) (fun _ => ?_)
        · exact ih _ q29 l1 l2 l3 l4 l5 l6 (l7 + 1) hV hF
        · refine Rl_gR hV (by decide) ?_
          refine Rl_sI hV hF (by decide) (by decide) (fun _ q30 hV hF => ?_)
          exact ih _ q30 l1 l2 l3 l4 l5 l6 (l7 + 1) hV hF
set_option maxHeartbeats 4000000 in
set_option maxRecDepth 100000 in
theorem q_X10_makeNote {σ : HS} {m : Nat} {A : Nat → Nat} {ms : MS} (hV : MV σ m A ms) (a1 : Int32) (a2 : Int32) (a3 : Int32) (a4 : Int32) (a5 : Int32) : Rl σ m A (f_X10_makeNote σ (some m) a1 a2 a3 a4 a5) (p_X10_makeNote ms a1 a2 a3 a4 a5) := by
  have hF : MF σ σ m A := MF.rf
  unfold f_X10_makeNote p_X10_makeNote
  exact qg_X10_makeNote_9 h_hN _ ms a1 a2 a3 a4 a5 (-1) (6 * a1) hV hF
/-! X10_replied -/
def pj_X10_replied_305 (ms : MS) (l2 : Int32) (l3 : Int32) (t0 : Int32) (t1 : Int32) (t2 : Int32) (t3 : Int32) (t4 : Int32) : Option (Unit × MS) :=
  k_bd (p_X10_makeNote ms t4 t3 t2 t1 t0) fun _ q10 =>
  if l3 = 2 then
    k_bd (p_X10_follow q10 l2 (-1)) fun _ q15 =>
    some ((), q15)
  else
    h_b1 (k_aI q10 38 4) fun x11 =>
    k_bd (p_X10_follow q10 l2 x11) fun _ q13 =>
    some ((), q13)
def pj_X10_replied_290 (ms : MS) (l2 : Int32) (l3 : Int32) (t0 : Int32) (t1 : Int32) (t2 : Int32) (t3 : Int32) : Option (Unit × MS) :=
  if l3 = 2 then
    pj_X10_replied_305 ms l2 l3 0 t0 t1 t2 t3
  else
    h_b1 (k_aI ms 38 5) fun x8 =>
    pj_X10_replied_305 ms l2 l3 x8 t0 t1 t2 t3
def pj_X10_replied_192 (ms : MS) (l1 : Int32) (l2 : Int32) (l3 : Int32) (t0 : Int32) : Option (Unit × MS) :=
  if t0 = 0 then
    k_lt (k_pI ms 40 ((ms.1 40) + 1)) fun q23 =>
    some ((), q23)
  else
    if l3 = 0 then
      h_b1 (k_aI ms 34 l2) fun x16 =>
      h_b1 (k_sI ms 34 l2 (x16 + 1)) fun q17 =>
      h_b1 (k_aI q17 34 l2) fun x18 =>
      if x18 = 9 then
        h_b1 (k_sI q17 31 l2 3) fun q22 =>
        some ((), q22)
      else
        h_b1 (k_aI q17 38 4) fun x19 =>
        k_bd (p_X10_ask q17 l2 x19) fun _ q21 =>
        some ((), q21)
    else
      h_b1 (k_aI ms 38 2) fun x5 =>
      h_b1 (k_aI ms 38 3) fun x6 =>
      if l3 = 2 then
        pj_X10_replied_290 ms l2 l3 (-1) x6 x5 l1
      else
        h_b1 (k_aI ms 38 4) fun x7 =>
        pj_X10_replied_290 ms l2 l3 x7 x6 x5 l1
def pj_X10_replied_191 (ms : MS) (l1 : Int32) (l2 : Int32) (l3 : Int32) : Option (Unit × MS) :=
  pj_X10_replied_192 ms l1 l2 l3 0
def pj_X10_replied_187 (ms : MS) (l1 : Int32) (l2 : Int32) (l3 : Int32) : Option (Unit × MS) :=
  pj_X10_replied_192 ms l1 l2 l3 1
def pj_X10_replied_138 (ms : MS) (l1 : Int32) (l2 : Int32) (l3 : Int32) (t0 : Int32) : Option (Unit × MS) :=
  if t0 = 0 then
    pj_X10_replied_191 ms l1 l2 l3
  else
    if l3 = 0 then
      h_b1 (k_aI ms 38 4) fun x27 =>
      k_bd (p_X10_in ms x27 0 7) fun r28 q29 =>
      if r28 = 0 then
        pj_X10_replied_191 q29 l1 l2 l3
      else
        pj_X10_replied_187 q29 l1 l2 l3
    else
      if l3 = 2 then
        pj_X10_replied_187 ms l1 l2 l3
      else
        h_b1 (k_aI ms 38 4) fun x24 =>
        k_bd (p_X10_in ms x24 0 15) fun r25 q26 =>
        if r25 = 0 then
          pj_X10_replied_191 q26 l1 l2 l3
        else
          pj_X10_replied_187 q26 l1 l2 l3
def pj_X10_replied_137 (ms : MS) (l1 : Int32) (l2 : Int32) (l3 : Int32) : Option (Unit × MS) :=
  pj_X10_replied_138 ms l1 l2 l3 0
def pg_X10_replied_21 : Nat → MS → Int32 → Int32 → Int32 → Option (Unit × MS)
  | 0, _, _, _, _ => none
  | n + 1, ms, l1, l2, l3 =>
    if (ms.1 28) < l3 then
      h_b1 (k_aI ms 38 1) fun x4 =>
      if l2 ≤ 0 then
        pj_X10_replied_137 ms l1 l2 x4
      else
        k_bd (p_X10_in ms x4 0 2) fun r30 q31 =>
        if r30 = 0 then
          pj_X10_replied_137 q31 l1 l2 x4
        else
          h_b1 (k_aI q31 38 2) fun x32 =>
          h_b1 (k_aI q31 38 3) fun x33 =>
          k_bd (p_X10_isPrefix q31 x32 x33) fun r34 q35 =>
          if r34 = 0 then
            pj_X10_replied_137 q35 l1 l2 x4
          else
            h_b1 (k_aI q35 38 2) fun x36 =>
            h_b1 (k_aI q35 30 l2) fun x37 =>
            h_b1 (k_aI q35 38 3) fun x38 =>
            k_bd (p_X10_begin q35 x36 x37 x38) fun r39 q40 =>
            if r39 = 0 then
              pj_X10_replied_137 q40 l1 l2 x4
            else
              pj_X10_replied_138 q40 l1 l2 x4 1
    else
      h_b1 (k_aI ms 29 l3) fun x41 =>
      if x41 = l1 then
        h_b1 (k_aI ms 31 l3) fun x42 =>
        if x42 = 0 then
          h_b1 (k_aI ms 32 l3) fun x43 =>
          h_b1 (k_aI ms 38 0) fun x44 =>
          if x43 = x44 then
            pg_X10_replied_21 n ms l1 l3 (l3 + 1)
          else
            pg_X10_replied_21 n ms l1 l2 (l3 + 1)
        else
          pg_X10_replied_21 n ms l1 l2 (l3 + 1)
      else
        pg_X10_replied_21 n ms l1 l2 (l3 + 1)
def p_X10_replied (ms : MS)  : Option (Unit × MS) :=
  h_b1 (k_aI ms 38 7) fun x1 =>
  k_bd (p_X10_isSite ms x1) fun r2 q3 =>
  if r2 = 0 then
    some ((), q3)
  else
    pg_X10_replied_21 h_hN q3 x1 0 1
set_option maxHeartbeats 4000000 in
set_option maxRecDepth 100000 in
theorem qj_X10_replied_305 {σ0 : HS} {m : Nat} {A : Nat → Nat} (σ : HS) (ms : MS) (l2 : Int32) (l3 : Int32) (t0 : Int32) (t1 : Int32) (t2 : Int32) (t3 : Int32) (t4 : Int32) (hV : MV σ m A ms) (hF : MF σ0 σ m A) : Rl σ0 m A (j_X10_replied_305 σ (some m) l2 l3 t0 t1 t2 t3 t4 (some m)) (pj_X10_replied_305 ms l2 l3 t0 t1 t2 t3 t4) := by
  unfold j_X10_replied_305 pj_X10_replied_305
  refine Rl_rcv hV ?_
  refine Rl_bd hF (q_X10_makeNote hV _ _ _ _ _) (fun r9 _ q10 hV hF => ?_)
  refine Rl_ite (fun _ => ?_) (fun _ => ?_)
  · refine Rl_rcv hV ?_
    refine Rl_bd hF (q_X10_follow hV _ _) (fun r14 _ q15 hV hF => ?_)
    exact Rl_ret hV hF
  · refine Rl_gR hV (by decide) ?_
    refine Rl_aI hV (by decide) (by decide) (fun x11 => ?_)
    refine Rl_rcv hV ?_
    refine Rl_bd hF (q_X10_follow hV _ _) (fun r12 _ q13 hV hF => ?_)
    exact Rl_ret hV hF
set_option maxHeartbeats 4000000 in
set_option maxRecDepth 100000 in
theorem qj_X10_replied_290 {σ0 : HS} {m : Nat} {A : Nat → Nat} (σ : HS) (ms : MS) (l2 : Int32) (l3 : Int32) (t0 : Int32) (t1 : Int32) (t2 : Int32) (t3 : Int32) (hV : MV σ m A ms) (hF : MF σ0 σ m A) : Rl σ0 m A (j_X10_replied_290 σ (some m) l2 l3 t0 t1 t2 t3 (some m)) (pj_X10_replied_290 ms l2 l3 t0 t1 t2 t3) := by
  unfold j_X10_replied_290 pj_X10_replied_290
  refine Rl_ite (fun _ => ?_) (fun _ => ?_)
  · exact qj_X10_replied_305 _ ms l2 l3 0 t0 t1 t2 t3 hV hF
  · refine Rl_gR hV (by decide) ?_
    refine Rl_aI hV (by decide) (by decide) (fun x8 => ?_)
    exact qj_X10_replied_305 _ ms l2 l3 x8 t0 t1 t2 t3 hV hF
set_option maxHeartbeats 4000000 in
set_option maxRecDepth 100000 in
theorem qj_X10_replied_192 {σ0 : HS} {m : Nat} {A : Nat → Nat} (σ : HS) (ms : MS) (l1 : Int32) (l2 : Int32) (l3 : Int32) (t0 : Int32) (hV : MV σ m A ms) (hF : MF σ0 σ m A) : Rl σ0 m A (j_X10_replied_192 σ (some m) l1 l2 l3 t0) (pj_X10_replied_192 ms l1 l2 l3 t0) := by
  unfold j_X10_replied_192 pj_X10_replied_192
  refine Rl_ite (fun _ => ?_) (fun _ => ?_)
  · refine Rl_gI hV (by decide) ?_
    refine Rl_pI hV hF (by decide) (fun _ q23 hV hF => ?_)
    exact Rl_ret hV hF
  · refine Rl_ite (fun _ => ?_) (fun _ => ?_)
    · refine Rl_gR hV (by decide) ?_
      refine Rl_aI hV (by decide) (by decide) (fun x16 => ?_)
      refine Rl_sI hV hF (by decide) (by decide) (fun _ q17 hV hF => ?_)
      refine Rl_gR hV (by decide) ?_
      refine Rl_aI hV (by decide) (by decide) (fun x18 => ?_)
      refine Rl_ite (fun _ => ?_) (fun _ => ?_)
      · refine Rl_gR hV (by decide) ?_
        refine Rl_sI hV hF (by decide) (by decide) (fun _ q22 hV hF => ?_)
        exact Rl_ret hV hF
      · refine Rl_gR hV (by decide) ?_
        refine Rl_aI hV (by decide) (by decide) (fun x19 => ?_)
        refine Rl_rcv hV ?_
        refine Rl_bd hF (q_X10_ask hV _ _) (fun r20 _ q21 hV hF => ?_)
        exact Rl_ret hV hF
    · refine Rl_gR hV (by decide) ?_
      refine Rl_aI hV (by decide) (by decide) (fun x5 => ?_)
      refine Rl_gR hV (by decide) ?_
      refine Rl_aI hV (by decide) (by decide) (fun x6 => ?_)
      refine Rl_ite (fun _ => ?_) (fun _ => ?_)
      · exact qj_X10_replied_290 _ ms l2 l3 (-1) x6 x5 l1 hV hF
      · refine Rl_gR hV (by decide) ?_
        refine Rl_aI hV (by decide) (by decide) (fun x7 => ?_)
        exact qj_X10_replied_290 _ ms l2 l3 x7 x6 x5 l1 hV hF
set_option maxHeartbeats 4000000 in
set_option maxRecDepth 100000 in
theorem qj_X10_replied_191 {σ0 : HS} {m : Nat} {A : Nat → Nat} (σ : HS) (ms : MS) (l1 : Int32) (l2 : Int32) (l3 : Int32) (hV : MV σ m A ms) (hF : MF σ0 σ m A) : Rl σ0 m A (j_X10_replied_191 σ (some m) l1 l2 l3) (pj_X10_replied_191 ms l1 l2 l3) := by
  unfold j_X10_replied_191 pj_X10_replied_191
  exact qj_X10_replied_192 _ ms l1 l2 l3 0 hV hF
set_option maxHeartbeats 4000000 in
set_option maxRecDepth 100000 in
theorem qj_X10_replied_187 {σ0 : HS} {m : Nat} {A : Nat → Nat} (σ : HS) (ms : MS) (l1 : Int32) (l2 : Int32) (l3 : Int32) (hV : MV σ m A ms) (hF : MF σ0 σ m A) : Rl σ0 m A (j_X10_replied_187 σ (some m) l1 l2 l3) (pj_X10_replied_187 ms l1 l2 l3) := by
  unfold j_X10_replied_187 pj_X10_replied_187
  exact qj_X10_replied_192 _ ms l1 l2 l3 1 hV hF
set_option maxHeartbeats 4000000 in
set_option maxRecDepth 100000 in
theorem qj_X10_replied_138 {σ0 : HS} {m : Nat} {A : Nat → Nat} (σ : HS) (ms : MS) (l1 : Int32) (l2 : Int32) (l3 : Int32) (t0 : Int32) (hV : MV σ m A ms) (hF : MF σ0 σ m A) : Rl σ0 m A (j_X10_replied_138 σ (some m) l1 l2 l3 t0) (pj_X10_replied_138 ms l1 l2 l3 t0) := by
  unfold j_X10_replied_138 pj_X10_replied_138
  refine Rl_ite (fun _ => ?_) (fun _ => ?_)
  · exact qj_X10_replied_191 _ ms l1 l2 l3 hV hF
  · refine Rl_ite (fun _ => ?_) (fun _ => ?_)
    · refine Rl_gR hV (by decide) ?_
      refine Rl_aI hV (by decide) (by decide) (fun x27 => ?_)
      refine Rl_bd hF (q_X10_in hV _ _ _) (fun r28 _ q29 hV hF => ?_)
      refine Rl_ite (fun _ => ?_) (fun _ => ?_)
      · exact qj_X10_replied_191 _ q29 l1 l2 l3 hV hF
      · exact qj_X10_replied_187 _ q29 l1 l2 l3 hV hF
    · refine Rl_ite (fun _ => ?_) (fun _ => ?_)
      · exact qj_X10_replied_187 _ ms l1 l2 l3 hV hF
      · refine Rl_gR hV (by decide) ?_
        refine Rl_aI hV (by decide) (by decide) (fun x24 => ?_)
        refine Rl_bd hF (q_X10_in hV _ _ _) (fun r25 _ q26 hV hF => ?_)
        refine Rl_ite (fun _ => ?_) (fun _ => ?_)
        · exact qj_X10_replied_191 _ q26 l1 l2 l3 hV hF
        · exact qj_X10_replied_187 _ q26 l1 l2 l3 hV hF
set_option maxHeartbeats 4000000 in
set_option maxRecDepth 100000 in
theorem qj_X10_replied_137 {σ0 : HS} {m : Nat} {A : Nat → Nat} (σ : HS) (ms : MS) (l1 : Int32) (l2 : Int32) (l3 : Int32) (hV : MV σ m A ms) (hF : MF σ0 σ m A) : Rl σ0 m A (j_X10_replied_137 σ (some m) l1 l2 l3) (pj_X10_replied_137 ms l1 l2 l3) := by
  unfold j_X10_replied_137 pj_X10_replied_137
  exact qj_X10_replied_138 _ ms l1 l2 l3 0 hV hF
set_option maxHeartbeats 4000000 in
set_option maxRecDepth 100000 in
theorem qg_X10_replied_21 {σ0 : HS} {m : Nat} {A : Nat → Nat} : ∀ (n : Nat) (σ : HS) (ms : MS) (l1 : Int32) (l2 : Int32) (l3 : Int32), MV σ m A ms → MF σ0 σ m A → Rl σ0 m A (g_X10_replied_21 n σ (some m) l1 l2 l3) (pg_X10_replied_21 n ms l1 l2 l3) := by
  intro n
  induction n with
  | zero =>
    intro σ ms l1 l2 l3 hV hF
    rw [pg_X10_replied_21]
    exact Rl_none
  | succ n ih =>
    intro σ ms l1 l2 l3 hV hF
    rw [pg_X10_replied_21, g_X10_replied_21]
    refine Rl_gI hV (by decide) ?_
    refine Rl_ite (fun _ => ?_) (fun _ => ?_)
    · refine Rl_gR hV (by decide) ?_
      refine Rl_aI hV (by decide) (by decide) (fun x4 => ?_)
      refine Rl_ite (fun _ => ?_) (fun _ => ?_)
      · exact qj_X10_replied_137 _ ms l1 l2 x4 hV hF
      · refine Rl_bd hF (q_X10_in hV _ _ _) (fun r30 _ q31 hV hF => ?_)
        refine Rl_ite (fun _ => ?_) (fun _ => ?_)
        · exact qj_X10_replied_137 _ q31 l1 l2 x4 hV hF
        · refine Rl_gR hV (by decide) ?_
          refine Rl_aI hV (by decide) (by decide) (fun x32 => ?_)
          refine Rl_gR hV (by decide) ?_
          refine Rl_aI hV (by decide) (by decide) (fun x33 => ?_)
          refine Rl_bd hF (q_X10_isPrefix hV _ _) (fun r34 _ q35 hV hF => ?_)
          refine Rl_ite (fun _ => ?_) (fun _ => ?_)
          · exact qj_X10_replied_137 _ q35 l1 l2 x4 hV hF
          · refine Rl_gR hV (by decide) ?_
            refine Rl_aI hV (by decide) (by decide) (fun x36 => ?_)
            refine Rl_gR hV (by decide) ?_
            refine Rl_aI hV (by decide) (by decide) (fun x37 => ?_)
            refine Rl_gR hV (by decide) ?_
            refine Rl_aI hV (by decide) (by decide) (fun x38 => ?_)
            refine Rl_bd hF (q_X10_begin hV _ _ _) (fun r39 _ q40 hV hF => ?_)
            refine Rl_ite (fun _ => ?_) (fun _ => ?_)
            · exact qj_X10_replied_137 _ q40 l1 l2 x4 hV hF
            · exact qj_X10_replied_138 _ q40 l1 l2 x4 1 hV hF
    · refine Rl_gR hV (by decide) ?_
      refine Rl_aI hV (by decide) (by decide) (fun x41 => ?_)
      refine Rl_ite (fun _ => ?_) (fun _ => ?_)
      · refine Rl_gR hV (by decide) ?_
        refine Rl_aI hV (by decide) (by decide) (fun x42 => ?_)
        refine Rl_ite (fun _ => ?_) (fun _ => ?_)
        · refine Rl_gR hV (by decide) ?_
          refine Rl_aI hV (by decide) (by decide) (fun x43 => ?_)
          refine Rl_gR hV (by decide) ?_
          refine Rl_aI hV (by decide) (by decide) (fun x44 => ?_)
          refine Rl_ite (fun _ => ?_) (fun _ => ?_)
          · exact ih _ ms l1 l3 (l3 + 1) hV hF
          · exact ih _ ms l1 l2 (l3 + 1) hV hF
        · exact ih _ ms l1 l2 (l3 + 1) hV hF
      · exact ih _ ms l1 l2 (l3 + 1) hV hF
set_option maxHeartbeats 4000000 in
set_option maxRecDepth 100000 in
theorem q_X10_replied {σ : HS} {m : Nat} {A : Nat → Nat} {ms : MS} (hV : MV σ m A ms)  : Rl σ m A (f_X10_replied σ (some m)) (p_X10_replied ms ) := by
  have hF : MF σ σ m A := MF.rf
  unfold f_X10_replied p_X10_replied
  refine Rl_gR hV (by decide) ?_
  refine Rl_aI hV (by decide) (by decide) (fun x1 => ?_)
  refine Rl_rcv hV ?_
  refine Rl_bd hF (q_X10_isSite hV _) (fun r2 _ q3 hV hF => ?_)
  refine Rl_ite (fun _ => ?_) (fun _ => ?_)
  · exact Rl_ret hV hF
  · exact qg_X10_replied_21 h_hN _ q3 x1 0 1 hV hF
/-! X10_best -/
def pg_X10_best_8 : Nat → MS → Int32 → Int32 → Int32 → Int32 → Option (Int32 × MS)
  | 0, _, _, _, _, _ => none
  | n + 1, ms, l1, l2, l3, l4 =>
    if ((16 * l1) + 16) ≤ l4 then
      some (l3, ms)
    else
      h_b1 (k_aI ms 12 l4) fun x1 =>
      if x1 ≤ (ms.1 1) then
        pg_X10_best_8 n ms l1 l2 l3 (l4 + 1)
      else
        h_b1 (k_aI ms 7 l4) fun x2 =>
        h_b1 (k_aI ms 8 l4) fun x3 =>
        k_bd (p_X10_begin ms x2 l2 x3) fun r4 q5 =>
        if r4 = 0 then
          pg_X10_best_8 n q5 l1 l2 l3 (l4 + 1)
        else
          if l3 = (-1) then
            pg_X10_best_8 n q5 l1 l2 l4 (l4 + 1)
          else
            h_b1 (k_aI q5 8 l4) fun x6 =>
            h_b1 (k_aI q5 8 l3) fun x7 =>
            if x6 ≤ x7 then
              pg_X10_best_8 n q5 l1 l2 l3 (l4 + 1)
            else
              pg_X10_best_8 n q5 l1 l2 l4 (l4 + 1)
def p_X10_best (ms : MS) (a1 : Int32) (a2 : Int32) : Option (Int32 × MS) :=
  pg_X10_best_8 h_hN ms a1 a2 (-1) (16 * a1)
set_option maxHeartbeats 4000000 in
set_option maxRecDepth 100000 in
theorem qg_X10_best_8 {σ0 : HS} {m : Nat} {A : Nat → Nat} : ∀ (n : Nat) (σ : HS) (ms : MS) (l1 : Int32) (l2 : Int32) (l3 : Int32) (l4 : Int32), MV σ m A ms → MF σ0 σ m A → Rl σ0 m A (g_X10_best_8 n σ (some m) l1 l2 l3 l4) (pg_X10_best_8 n ms l1 l2 l3 l4) := by
  intro n
  induction n with
  | zero =>
    intro σ ms l1 l2 l3 l4 hV hF
    rw [pg_X10_best_8]
    exact Rl_none
  | succ n ih =>
    intro σ ms l1 l2 l3 l4 hV hF
    rw [pg_X10_best_8, g_X10_best_8]
    refine Rl_ite (fun _ => ?_) (fun _ => ?_)
    · exact Rl_ret hV hF
    · refine Rl_gR hV (by decide) ?_
      refine Rl_aI hV (by decide) (by decide) (fun x1 => ?_)
      refine Rl_gI hV (by decide) ?_
      refine Rl_ite (fun _ => ?_) (fun _ => ?_)
      · exact ih _ ms l1 l2 l3 (l4 + 1) hV hF
      · refine Rl_gR hV (by decide) ?_
        refine Rl_aI hV (by decide) (by decide) (fun x2 => ?_)
        refine Rl_gR hV (by decide) ?_
        refine Rl_aI hV (by decide) (by decide) (fun x3 => ?_)
        refine Rl_bd hF (q_X10_begin hV _ _ _) (fun r4 _ q5 hV hF => ?_)
        refine Rl_ite (fun _ => ?_) (fun _ => ?_)
        · exact ih _ q5 l1 l2 l3 (l4 + 1) hV hF
        · refine Rl_ite (fun _ => ?_) (fun _ => ?_)
          · exact ih _ q5 l1 l2 l4 (l4 + 1) hV hF
          · refine Rl_gR hV (by decide) ?_
            refine Rl_aI hV (by decide) (by decide) (fun x6 => ?_)
            refine Rl_gR hV (by decide) ?_
            refine Rl_aI hV (by decide) (by decide) (fun x7 => ?_)
            refine Rl_ite (fun _ => ?_) (fun _ => ?_)
            · exact ih _ q5 l1 l2 l3 (l4 + 1) hV hF
            · exact ih _ q5 l1 l2 l4 (l4 + 1) hV hF
set_option maxHeartbeats 4000000 in
set_option maxRecDepth 100000 in
theorem q_X10_best {σ : HS} {m : Nat} {A : Nat → Nat} {ms : MS} (hV : MV σ m A ms) (a1 : Int32) (a2 : Int32) : Rl σ m A (f_X10_best σ (some m) a1 a2) (p_X10_best ms a1 a2) := by
  have hF : MF σ σ m A := MF.rf
  unfold f_X10_best p_X10_best
  exact qg_X10_best_8 h_hN _ ms a1 a2 (-1) (16 * a1) hV hF
/-! X10_cutTo -/
def pg_X10_cutTo_4 : Nat → MS → Int32 → Int32 → Option (Int32 × MS)
  | 0, _, _, _ => none
  | n + 1, ms, l2, l3 =>
    if 32 ≤ l3 then
      some (l2, ms)
    else
      pg_X10_cutTo_4 n ms (l2 &&& ((1 <<< ((31 - l3) &&& 31)) ^^^ (-1))) (l3 + 1)
def p_X10_cutTo (ms : MS) (a0 : Int32) (a1 : Int32) : Option (Int32 × MS) :=
  pg_X10_cutTo_4 h_hN ms a0 a1
set_option maxHeartbeats 4000000 in
set_option maxRecDepth 100000 in
theorem qg_X10_cutTo_4 {σ0 : HS} {m : Nat} {A : Nat → Nat} : ∀ (n : Nat) (σ : HS) (ms : MS) (l2 : Int32) (l3 : Int32), MV σ m A ms → MF σ0 σ m A → Rl σ0 m A (g_X10_cutTo_4 n σ l2 l3) (pg_X10_cutTo_4 n ms l2 l3) := by
  intro n
  induction n with
  | zero =>
    intro σ ms l2 l3 hV hF
    rw [pg_X10_cutTo_4]
    exact Rl_none
  | succ n ih =>
    intro σ ms l2 l3 hV hF
    rw [pg_X10_cutTo_4, g_X10_cutTo_4]
    refine Rl_ite (fun _ => ?_) (fun _ => ?_)
    · exact Rl_ret hV hF
    · exact ih _ ms (l2 &&& ((1 <<< ((31 - l3) &&& 31)) ^^^ (-1))) (l3 + 1) hV hF
set_option maxHeartbeats 4000000 in
set_option maxRecDepth 100000 in
theorem q_X10_cutTo {σ : HS} {m : Nat} {A : Nat → Nat} {ms : MS} (hV : MV σ m A ms) (a0 : Int32) (a1 : Int32) : Rl σ m A (f_X10_cutTo σ a0 a1) (p_X10_cutTo ms a0 a1) := by
  have hF : MF σ σ m A := MF.rf
  unfold f_X10_cutTo p_X10_cutTo
  exact qg_X10_cutTo_4 h_hN _ ms a0 a1 hV hF
/-! X10_isCrowded -/
def pg_X10_isCrowded_72 : Nat → MS → Int32 → Int32 → Int32 → Int32 → Option (Int32 × MS)
  | 0, _, _, _, _, _ => none
  | n + 1, ms, l1, l2, l3, l5 =>
    if 8 ≤ l5 then
      some (0, ms)
    else
      h_b1 (k_aI ms 6 l5) fun x1 =>
      if x1 = l1 then
        h_b1 (k_aI ms 4 l5) fun x2 =>
        h_b1 (k_aI ms 5 l5) fun x3 =>
        k_bd (p_X10_holds ms l2 l3 x2 x3) fun r4 q5 =>
        if r4 = 0 then
          pg_X10_isCrowded_72 n q5 l1 l2 l3 (l5 + 1)
        else
          some (1, q5)
      else
        pg_X10_isCrowded_72 n ms l1 l2 l3 (l5 + 1)
def pg_X10_isCrowded_6 : Nat → MS → Int32 → Int32 → Int32 → Int32 → Int32 → Option (Int32 × MS)
  | 0, _, _, _, _, _, _ => none
  | n + 1, ms, l1, l2, l3, l4, l5 =>
    if ((16 * l1) + 16) ≤ l5 then
      pg_X10_isCrowded_72 h_hN ms l1 l2 l3 0
    else
      if l5 = l4 then
        pg_X10_isCrowded_6 n ms l1 l2 l3 l4 (l5 + 1)
      else
        h_b1 (k_aI ms 12 l5) fun x6 =>
        if x6 ≤ (ms.1 1) then
          pg_X10_isCrowded_6 n ms l1 l2 l3 l4 (l5 + 1)
        else
          h_b1 (k_aI ms 7 l5) fun x7 =>
          h_b1 (k_aI ms 8 l5) fun x8 =>
          k_bd (p_X10_holds ms l2 l3 x7 x8) fun r9 q10 =>
          if r9 = 0 then
            pg_X10_isCrowded_6 n q10 l1 l2 l3 l4 (l5 + 1)
          else
            some (1, q10)
def p_X10_isCrowded (ms : MS) (a1 : Int32) (a2 : Int32) (a3 : Int32) (a4 : Int32) : Option (Int32 × MS) :=
  pg_X10_isCrowded_6 h_hN ms a1 a2 a3 a4 (16 * a1)
set_option maxHeartbeats 4000000 in
set_option maxRecDepth 100000 in
theorem qg_X10_isCrowded_72 {σ0 : HS} {m : Nat} {A : Nat → Nat} : ∀ (n : Nat) (σ : HS) (ms : MS) (l1 : Int32) (l2 : Int32) (l3 : Int32) (l5 : Int32), MV σ m A ms → MF σ0 σ m A → Rl σ0 m A (g_X10_isCrowded_72 n σ (some m) l1 l2 l3 l5) (pg_X10_isCrowded_72 n ms l1 l2 l3 l5) := by
  intro n
  induction n with
  | zero =>
    intro σ ms l1 l2 l3 l5 hV hF
    rw [pg_X10_isCrowded_72]
    exact Rl_none
  | succ n ih =>
    intro σ ms l1 l2 l3 l5 hV hF
    rw [pg_X10_isCrowded_72, g_X10_isCrowded_72]
    refine Rl_ite (fun _ => ?_) (fun _ => ?_)
    · exact Rl_ret hV hF
    · refine Rl_gR hV (by decide) ?_
      refine Rl_aI hV (by decide) (by decide) (fun x1 => ?_)
      refine Rl_ite (fun _ => ?_) (fun _ => ?_)
      · refine Rl_gR hV (by decide) ?_
        refine Rl_aI hV (by decide) (by decide) (fun x2 => ?_)
        refine Rl_gR hV (by decide) ?_
        refine Rl_aI hV (by decide) (by decide) (fun x3 => ?_)
        refine Rl_bd hF (q_X10_holds hV _ _ _ _) (fun r4 _ q5 hV hF => ?_)
        refine Rl_ite (fun _ => ?_) (fun _ => ?_)
        · exact ih _ q5 l1 l2 l3 (l5 + 1) hV hF
        · exact Rl_ret hV hF
      · exact ih _ ms l1 l2 l3 (l5 + 1) hV hF
set_option maxHeartbeats 4000000 in
set_option maxRecDepth 100000 in
theorem qg_X10_isCrowded_6 {σ0 : HS} {m : Nat} {A : Nat → Nat} : ∀ (n : Nat) (σ : HS) (ms : MS) (l1 : Int32) (l2 : Int32) (l3 : Int32) (l4 : Int32) (l5 : Int32), MV σ m A ms → MF σ0 σ m A → Rl σ0 m A (g_X10_isCrowded_6 n σ (some m) l1 l2 l3 l4 l5) (pg_X10_isCrowded_6 n ms l1 l2 l3 l4 l5) := by
  intro n
  induction n with
  | zero =>
    intro σ ms l1 l2 l3 l4 l5 hV hF
    rw [pg_X10_isCrowded_6]
    exact Rl_none
  | succ n ih =>
    intro σ ms l1 l2 l3 l4 l5 hV hF
    rw [pg_X10_isCrowded_6, g_X10_isCrowded_6]
    refine Rl_ite (fun _ => ?_) (fun _ => ?_)
    · exact qg_X10_isCrowded_72 h_hN _ ms l1 l2 l3 0 hV hF
    · refine Rl_ite (fun _ => ?_) (fun _ => ?_)
      · exact ih _ ms l1 l2 l3 l4 (l5 + 1) hV hF
      · refine Rl_gR hV (by decide) ?_
        refine Rl_aI hV (by decide) (by decide) (fun x6 => ?_)
        refine Rl_gI hV (by decide) ?_
        refine Rl_ite (fun _ => ?_) (fun _ => ?_)
        · exact ih _ ms l1 l2 l3 l4 (l5 + 1) hV hF
        · refine Rl_gR hV (by decide) ?_
          refine Rl_aI hV (by decide) (by decide) (fun x7 => ?_)
          refine Rl_gR hV (by decide) ?_
          refine Rl_aI hV (by decide) (by decide) (fun x8 => ?_)
          refine Rl_bd hF (q_X10_holds hV _ _ _ _) (fun r9 _ q10 hV hF => ?_)
          refine Rl_ite (fun _ => ?_) (fun _ => ?_)
          · exact ih _ q10 l1 l2 l3 l4 (l5 + 1) hV hF
          · exact Rl_ret hV hF
set_option maxHeartbeats 4000000 in
set_option maxRecDepth 100000 in
theorem q_X10_isCrowded {σ : HS} {m : Nat} {A : Nat → Nat} {ms : MS} (hV : MV σ m A ms) (a1 : Int32) (a2 : Int32) (a3 : Int32) (a4 : Int32) : Rl σ m A (f_X10_isCrowded σ (some m) a1 a2 a3 a4) (p_X10_isCrowded ms a1 a2 a3 a4) := by
  have hF : MF σ σ m A := MF.rf
  unfold f_X10_isCrowded p_X10_isCrowded
  exact qg_X10_isCrowded_6 h_hN _ ms a1 a2 a3 a4 (16 * a1) hV hF
/-! X10_requested -/
def pj_X10_requested_241 (ms : MS) (l4 : Int32) (l5 : Int32) (t0 : Int32) (t1 : Int32) (t2 : Int32) (t3 : Int32) (t4 : Int32) (t5 : Int32) (t6 : Int32) : Option (Unit × MS) :=
  k_bd (p_X10_post ms t6 t5 t4 t3 t2 t1 t0) fun _ q22 =>
  if l5 = (-1) then
    k_bd (p_X10_last q22 0 l4) fun _ q27 =>
    some ((), q27)
  else
    h_b1 (k_aI q22 11 l5) fun x23 =>
    k_bd (p_X10_last q22 x23 l4) fun _ q25 =>
    some ((), q25)
def pj_X10_requested_216 (ms : MS) (l3 : Int32) (l4 : Int32) (l5 : Int32) (l6 : Int32) (t0 : Int32) (t1 : Int32) (t2 : Int32) (t3 : Int32) : Option (Unit × MS) :=
  k_bd (p_X10_cutTo ms l3 l6) fun r18 q19 =>
  if l5 = (-1) then
    pj_X10_requested_241 q19 l4 l5 0 l6 r18 t0 t1 t2 t3
  else
    h_b1 (k_aI q19 10 l5) fun x20 =>
    pj_X10_requested_241 q19 l4 l5 x20 l6 r18 t0 t1 t2 t3
def pg_X10_requested_177 : Nat → MS → Int32 → Int32 → Int32 → Int32 → Int32 → Int32 → Option (Unit × MS)
  | 0, _, _, _, _, _, _, _ => none
  | n + 1, ms, l1, l2, l3, l4, l5, l6 =>
    k_bd (p_X10_isCrowded ms l1 l3 l6 l5) fun r15 q16 =>
    if r15 = 0 then
      h_b1 (k_aI q16 38 1) fun x17 =>
      if l5 = (-1) then
        pj_X10_requested_216 q16 l3 l4 l5 l6 2 x17 l2 2
      else
        pj_X10_requested_216 q16 l3 l4 l5 l6 1 x17 l2 2
    else
      pg_X10_requested_177 n q16 l1 l2 l3 l4 l5 (l6 + 1)
def pg_X10_requested_67 : Nat → MS → Int32 → Int32 → Int32 → Int32 → Int32 → Option (Unit × MS)
  | 0, _, _, _, _, _, _ => none
  | n + 1, ms, l1, l2, l3, l4, l5 =>
    if 8 ≤ l5 then
      k_bd (p_X10_best ms l1 l3) fun r12 q13 =>
      if r12 = (-1) then
        h_b1 (k_aI q13 5 l1) fun x28 =>
        pg_X10_requested_177 h_hN q13 l1 l2 l3 l4 r12 x28
      else
        h_b1 (k_aI q13 8 r12) fun x14 =>
        pg_X10_requested_177 h_hN q13 l1 l2 l3 l4 r12 x14
    else
      h_b1 (k_aI ms 6 l5) fun x29 =>
      if x29 = l1 then
        h_b1 (k_aI ms 4 l5) fun x30 =>
        h_b1 (k_aI ms 5 l5) fun x31 =>
        k_bd (p_X10_begin ms x30 l3 x31) fun r32 q33 =>
        if r32 = 0 then
          pg_X10_requested_67 n q33 l1 l2 l3 l4 (l5 + 1)
        else
          h_b1 (k_aI q33 38 1) fun x34 =>
          h_b1 (k_aI q33 4 l5) fun x35 =>
          h_b1 (k_aI q33 5 l5) fun x36 =>
          k_bd (p_X10_post q33 2 l2 x34 0 x35 x36 l5) fun _ q38 =>
          some ((), q38)
      else
        pg_X10_requested_67 n ms l1 l2 l3 l4 (l5 + 1)
def p_X10_requested (ms : MS)  : Option (Unit × MS) :=
  h_b1 (k_aI ms 38 7) fun x1 =>
  h_b1 (k_aI ms 38 0) fun x2 =>
  h_b1 (k_aI ms 38 2) fun x3 =>
  k_bd (p_X10_isServerAt ms x1) fun r4 q5 =>
  if r4 = 0 then
    some ((), q5)
  else
    k_bd (p_X10_isSite q5 x2) fun r6 q7 =>
    if r6 = 0 then
      some ((), q7)
    else
      h_b1 (k_aI q7 4 x1) fun x8 =>
      h_b1 (k_aI q7 5 x1) fun x9 =>
      k_bd (p_X10_begin q7 x8 x3 x9) fun r10 q11 =>
      if r10 = 0 then
        some ((), q11)
      else
        pg_X10_requested_67 h_hN q11 x1 x2 x3 (q11.1 36) 0
set_option maxHeartbeats 4000000 in
set_option maxRecDepth 100000 in
theorem qj_X10_requested_241 {σ0 : HS} {m : Nat} {A : Nat → Nat} (σ : HS) (ms : MS) (l4 : Int32) (l5 : Int32) (t0 : Int32) (t1 : Int32) (t2 : Int32) (t3 : Int32) (t4 : Int32) (t5 : Int32) (t6 : Int32) (hV : MV σ m A ms) (hF : MF σ0 σ m A) : Rl σ0 m A (j_X10_requested_241 σ (some m) l4 l5 t0 t1 t2 t3 t4 t5 t6 (some m)) (pj_X10_requested_241 ms l4 l5 t0 t1 t2 t3 t4 t5 t6) := by
  unfold j_X10_requested_241 pj_X10_requested_241
  refine Rl_rcv hV ?_
  refine Rl_bd hF (q_X10_post hV _ _ _ _ _ _ _) (fun r21 _ q22 hV hF => ?_)
  refine Rl_ite (fun _ => ?_) (fun _ => ?_)
  · refine Rl_rcv hV ?_
    refine Rl_bd hF (q_X10_last hV _ _) (fun r26 _ q27 hV hF => ?_)
    exact Rl_ret hV hF
  · refine Rl_gR hV (by decide) ?_
    refine Rl_aI hV (by decide) (by decide) (fun x23 => ?_)
    refine Rl_rcv hV ?_
    refine Rl_bd hF (q_X10_last hV _ _) (fun r24 _ q25 hV hF => ?_)
    exact Rl_ret hV hF
set_option maxHeartbeats 4000000 in
set_option maxRecDepth 100000 in
theorem qj_X10_requested_216 {σ0 : HS} {m : Nat} {A : Nat → Nat} (σ : HS) (ms : MS) (l3 : Int32) (l4 : Int32) (l5 : Int32) (l6 : Int32) (t0 : Int32) (t1 : Int32) (t2 : Int32) (t3 : Int32) (hV : MV σ m A ms) (hF : MF σ0 σ m A) : Rl σ0 m A (j_X10_requested_216 σ (some m) l3 l4 l5 l6 t0 t1 t2 t3 (some m)) (pj_X10_requested_216 ms l3 l4 l5 l6 t0 t1 t2 t3) := by
  unfold j_X10_requested_216 pj_X10_requested_216
  refine Rl_bd hF (q_X10_cutTo hV _ _) (fun r18 _ q19 hV hF => ?_)
  refine Rl_ite (fun _ => ?_) (fun _ => ?_)
  · exact qj_X10_requested_241 _ q19 l4 l5 0 l6 r18 t0 t1 t2 t3 hV hF
  · refine Rl_gR hV (by decide) ?_
    refine Rl_aI hV (by decide) (by decide) (fun x20 => ?_)
    exact qj_X10_requested_241 _ q19 l4 l5 x20 l6 r18 t0 t1 t2 t3 hV hF
set_option maxHeartbeats 4000000 in
set_option maxRecDepth 100000 in
theorem qg_X10_requested_177 {σ0 : HS} {m : Nat} {A : Nat → Nat} : ∀ (n : Nat) (σ : HS) (ms : MS) (l1 : Int32) (l2 : Int32) (l3 : Int32) (l4 : Int32) (l5 : Int32) (l6 : Int32), MV σ m A ms → MF σ0 σ m A → Rl σ0 m A (g_X10_requested_177 n σ (some m) l1 l2 l3 l4 l5 l6) (pg_X10_requested_177 n ms l1 l2 l3 l4 l5 l6) := by
  intro n
  induction n with
  | zero =>
    intro σ ms l1 l2 l3 l4 l5 l6 hV hF
    rw [pg_X10_requested_177]
    exact Rl_none
  | succ n ih =>
    intro σ ms l1 l2 l3 l4 l5 l6 hV hF
    rw [pg_X10_requested_177, g_X10_requested_177]
    refine Rl_rcv hV ?_
    refine Rl_bd hF (q_X10_isCrowded hV _ _ _ _) (fun r15 _ q16 hV hF => ?_)
    refine Rl_ite (fun _ => ?_) (fun _ => ?_)
    · refine Rl_gR hV (by decide) ?_
      refine Rl_aI hV (by decide) (by decide) (fun x17 => ?_)
      refine Rl_ite (fun _ => ?_) (fun _ => ?_)
      · exact qj_X10_requested_216 _ q16 l3 l4 l5 l6 2 x17 l2 2 hV hF
      · exact qj_X10_requested_216 _ q16 l3 l4 l5 l6 1 x17 l2 2 hV hF
    · exact ih _ q16 l1 l2 l3 l4 l5 (l6 + 1) hV hF
set_option maxHeartbeats 4000000 in
set_option maxRecDepth 100000 in
theorem qg_X10_requested_67 {σ0 : HS} {m : Nat} {A : Nat → Nat} : ∀ (n : Nat) (σ : HS) (ms : MS) (l1 : Int32) (l2 : Int32) (l3 : Int32) (l4 : Int32) (l5 : Int32), MV σ m A ms → MF σ0 σ m A → Rl σ0 m A (g_X10_requested_67 n σ (some m) l1 l2 l3 l4 l5) (pg_X10_requested_67 n ms l1 l2 l3 l4 l5) := by
  intro n
  induction n with
  | zero =>
    intro σ ms l1 l2 l3 l4 l5 hV hF
    rw [pg_X10_requested_67]
    exact Rl_none
  | succ n ih =>
    intro σ ms l1 l2 l3 l4 l5 hV hF
    rw [pg_X10_requested_67, g_X10_requested_67]
    refine Rl_ite (fun _ => ?_) (fun _ => ?_)
    · refine Rl_rcv hV ?_
      refine Rl_bd hF (q_X10_best hV _ _) (fun r12 _ q13 hV hF => ?_)
      refine Rl_ite (fun _ => ?_) (fun _ => ?_)
      · refine Rl_gR hV (by decide) ?_
        refine Rl_aI hV (by decide) (by decide) (fun x28 => ?_)
        exact qg_X10_requested_177 h_hN _ q13 l1 l2 l3 l4 r12 x28 hV hF
      · refine Rl_gR hV (by decide) ?_
        refine Rl_aI hV (by decide) (by decide) (fun x14 => ?_)
        exact qg_X10_requested_177 h_hN _ q13 l1 l2 l3 l4 r12 x14 hV hF
    · refine Rl_gR hV (by decide) ?_
      refine Rl_aI hV (by decide) (by decide) (fun x29 => ?_)
      refine Rl_ite (fun _ => ?_) (fun _ => ?_)
      · refine Rl_gR hV (by decide) ?_
        refine Rl_aI hV (by decide) (by decide) (fun x30 => ?_)
        refine Rl_gR hV (by decide) ?_
        refine Rl_aI hV (by decide) (by decide) (fun x31 => ?_)
        refine Rl_bd hF (q_X10_begin hV _ _ _) (fun r32 _ q33 hV hF => ?_)
        refine Rl_ite (fun _ => ?_) (fun _ => ?_)
        · exact ih _ q33 l1 l2 l3 l4 (l5 + 1) hV hF
        · refine Rl_gR hV (by decide) ?_
          refine Rl_aI hV (by decide) (by decide) (fun x34 => ?_)
          refine Rl_gR hV (by decide) ?_
          refine Rl_aI hV (by decide) (by decide) (fun x35 => ?_)
          refine Rl_gR hV (by decide) ?_
          refine Rl_aI hV (by decide) (by decide) (fun x36 => ?_)
          refine Rl_rcv hV ?_
          refine Rl_bd hF (q_X10_post hV _ _ _ _ _ _ _) (fun r37 _ q38 hV hF => ?_)
          exact Rl_ret hV hF
      · exact ih _ ms l1 l2 l3 l4 (l5 + 1) hV hF
set_option maxHeartbeats 4000000 in
set_option maxRecDepth 100000 in
theorem q_X10_requested {σ : HS} {m : Nat} {A : Nat → Nat} {ms : MS} (hV : MV σ m A ms)  : Rl σ m A (f_X10_requested σ (some m)) (p_X10_requested ms ) := by
  have hF : MF σ σ m A := MF.rf
  unfold f_X10_requested p_X10_requested
  refine Rl_gR hV (by decide) ?_
  refine Rl_aI hV (by decide) (by decide) (fun x1 => ?_)
  refine Rl_gR hV (by decide) ?_
  refine Rl_aI hV (by decide) (by decide) (fun x2 => ?_)
  refine Rl_gR hV (by decide) ?_
  refine Rl_aI hV (by decide) (by decide) (fun x3 => ?_)
  refine Rl_rcv hV ?_
  refine Rl_bd hF (q_X10_isServerAt hV _) (fun r4 _ q5 hV hF => ?_)
  refine Rl_ite (fun _ => ?_) (fun _ => ?_)
  · exact Rl_ret hV hF
  · refine Rl_rcv hV ?_
    refine Rl_bd hF (q_X10_isSite hV _) (fun r6 _ q7 hV hF => ?_)
    refine Rl_ite (fun _ => ?_) (fun _ => ?_)
    · exact Rl_ret hV hF
    · refine Rl_gR hV (by decide) ?_
      refine Rl_aI hV (by decide) (by decide) (fun x8 => ?_)
      refine Rl_gR hV (by decide) ?_
      refine Rl_aI hV (by decide) (by decide) (fun x9 => ?_)
      refine Rl_bd hF (q_X10_begin hV _ _ _) (fun r10 _ q11 hV hF => ?_)
      refine Rl_ite (fun _ => ?_) (fun _ => ?_)
      · exact Rl_ret hV hF
      · refine Rl_gI hV (by decide) ?_
        exact qg_X10_requested_67 h_hN _ q11 x1 x2 x3 (q11.1 36) 0 hV hF
/-! X10_arrive -/
def p_X10_arrive (ms : MS)  : Option (Unit × MS) :=
  h_b1 (k_aI ms 38 6) fun x1 =>
  if x1 = 0 then
    k_bd (p_X10_registered ms ) fun _ q20 =>
    some ((), q20)
  else
    h_b1 (k_aI ms 38 6) fun x2 =>
    if x2 = 1 then
      k_bd (p_X10_requested ms ) fun _ q18 =>
      some ((), q18)
    else
      h_b1 (k_aI ms 38 6) fun x3 =>
      if x3 = 2 then
        k_bd (p_X10_replied ms ) fun _ q16 =>
        some ((), q16)
      else
        h_b1 (k_aI ms 38 6) fun x4 =>
        if x4 = 3 then
          k_bd (p_X10_came ms ) fun _ q14 =>
          some ((), q14)
        else
          h_b1 (k_aI ms 38 7) fun x5 =>
          k_bd (p_X10_isSite ms x5) fun r6 q7 =>
          if r6 = 0 then
            some ((), q7)
          else
            h_b1 (k_aI q7 38 7) fun x8 =>
            h_b1 (k_aI q7 38 0) fun x9 =>
            h_b1 (k_aI q7 38 1) fun x10 =>
            k_bd (p_X10_forget q7 x8 x9 x10) fun _ q12 =>
            some ((), q12)
set_option maxHeartbeats 4000000 in
set_option maxRecDepth 100000 in
theorem q_X10_arrive {σ : HS} {m : Nat} {A : Nat → Nat} {ms : MS} (hV : MV σ m A ms)  : Rl σ m A (f_X10_arrive σ (some m)) (p_X10_arrive ms ) := by
  have hF : MF σ σ m A := MF.rf
  unfold f_X10_arrive p_X10_arrive
  refine Rl_gR hV (by decide) ?_
  refine Rl_aI hV (by decide) (by decide) (fun x1 => ?_)
  refine Rl_ite (fun _ => ?_) (fun _ => ?_)
  · refine Rl_rcv hV ?_
    refine Rl_bd hF (q_X10_registered hV ) (fun r19 _ q20 hV hF => ?_)
    exact Rl_ret hV hF
  · refine Rl_gR hV (by decide) ?_
    refine Rl_aI hV (by decide) (by decide) (fun x2 => ?_)
    refine Rl_ite (fun _ => ?_) (fun _ => ?_)
    · refine Rl_rcv hV ?_
      refine Rl_bd hF (q_X10_requested hV ) (fun r17 _ q18 hV hF => ?_)
      exact Rl_ret hV hF
    · refine Rl_gR hV (by decide) ?_
      refine Rl_aI hV (by decide) (by decide) (fun x3 => ?_)
      refine Rl_ite (fun _ => ?_) (fun _ => ?_)
      · refine Rl_rcv hV ?_
        refine Rl_bd hF (q_X10_replied hV ) (fun r15 _ q16 hV hF => ?_)
        exact Rl_ret hV hF
      · refine Rl_gR hV (by decide) ?_
        refine Rl_aI hV (by decide) (by decide) (fun x4 => ?_)
        refine Rl_ite (fun _ => ?_) (fun _ => ?_)
        · refine Rl_rcv hV ?_
          refine Rl_bd hF (q_X10_came hV ) (fun r13 _ q14 hV hF => ?_)
          exact Rl_ret hV hF
        · refine Rl_gR hV (by decide) ?_
          refine Rl_aI hV (by decide) (by decide) (fun x5 => ?_)
          refine Rl_rcv hV ?_
          refine Rl_bd hF (q_X10_isSite hV _) (fun r6 _ q7 hV hF => ?_)
          refine Rl_ite (fun _ => ?_) (fun _ => ?_)
          · exact Rl_ret hV hF
          · refine Rl_gR hV (by decide) ?_
            refine Rl_aI hV (by decide) (by decide) (fun x8 => ?_)
            refine Rl_gR hV (by decide) ?_
            refine Rl_aI hV (by decide) (by decide) (fun x9 => ?_)
            refine Rl_gR hV (by decide) ?_
            refine Rl_aI hV (by decide) (by decide) (fun x10 => ?_)
            refine Rl_rcv hV ?_
            refine Rl_bd hF (q_X10_forget hV _ _ _) (fun r11 _ q12 hV hF => ?_)
            exact Rl_ret hV hF
/-! X10_carry -/
def p_X10_carry (ms : MS) (a1 : Int32) : Option (Unit × MS) :=
  k_bd (p_X10_isMessage ms a1) fun r1 q2 =>
  if r1 = 0 then
    some ((), q2)
  else
    k_bd (p_X10_take q2 a1) fun _ q4 =>
    k_bd (p_X10_arrive q4 ) fun _ q6 =>
    some ((), q6)
set_option maxHeartbeats 4000000 in
set_option maxRecDepth 100000 in
theorem q_X10_carry {σ : HS} {m : Nat} {A : Nat → Nat} {ms : MS} (hV : MV σ m A ms) (a1 : Int32) : Rl σ m A (f_X10_carry σ (some m) a1) (p_X10_carry ms a1) := by
  have hF : MF σ σ m A := MF.rf
  unfold f_X10_carry p_X10_carry
  refine Rl_rcv hV ?_
  refine Rl_bd hF (q_X10_isMessage hV _) (fun r1 _ q2 hV hF => ?_)
  refine Rl_ite (fun _ => ?_) (fun _ => ?_)
  · exact Rl_ret hV hF
  · refine Rl_rcv hV ?_
    refine Rl_bd hF (q_X10_take hV _) (fun r3 _ q4 hV hF => ?_)
    refine Rl_rcv hV ?_
    refine Rl_bd hF (q_X10_arrive hV ) (fun r5 _ q6 hV hF => ?_)
    exact Rl_ret hV hF
/-! X10_repeat -/
def p_X10_repeat (ms : MS) (a1 : Int32) : Option (Unit × MS) :=
  k_bd (p_X10_isMessage ms a1) fun r1 q2 =>
  if r1 = 0 then
    some ((), q2)
  else
    h_b1 (k_aI q2 37 ((8 * a1) + 6)) fun x3 =>
    h_b1 (k_aI q2 37 ((8 * a1) + 7)) fun x4 =>
    h_b1 (k_aI q2 37 (8 * a1)) fun x5 =>
    h_b1 (k_aI q2 37 ((8 * a1) + 1)) fun x6 =>
    h_b1 (k_aI q2 37 ((8 * a1) + 2)) fun x7 =>
    h_b1 (k_aI q2 37 ((8 * a1) + 3)) fun x8 =>
    h_b1 (k_aI q2 37 ((8 * a1) + 4)) fun x9 =>
    k_bd (p_X10_post q2 x3 x4 x5 x6 x7 x8 x9) fun _ q11 =>
    h_b1 (k_aI q11 37 ((8 * a1) + 5)) fun x12 =>
    k_bd (p_X10_last q11 x12 (q2.1 36)) fun _ q14 =>
    some ((), q14)
set_option maxHeartbeats 4000000 in
set_option maxRecDepth 100000 in
theorem q_X10_repeat {σ : HS} {m : Nat} {A : Nat → Nat} {ms : MS} (hV : MV σ m A ms) (a1 : Int32) : Rl σ m A (f_X10_repeat σ (some m) a1) (p_X10_repeat ms a1) := by
  have hF : MF σ σ m A := MF.rf
  unfold f_X10_repeat p_X10_repeat
  refine Rl_rcv hV ?_
  refine Rl_bd hF (q_X10_isMessage hV _) (fun r1 _ q2 hV hF => ?_)
  refine Rl_ite (fun _ => ?_) (fun _ => ?_)
  · exact Rl_ret hV hF
  · refine Rl_gI hV (by decide) ?_
    refine Rl_gR hV (by decide) ?_
    refine Rl_aI hV (by decide) (by decide) (fun x3 => ?_)
    refine Rl_gR hV (by decide) ?_
    refine Rl_aI hV (by decide) (by decide) (fun x4 => ?_)
    refine Rl_gR hV (by decide) ?_
    refine Rl_aI hV (by decide) (by decide) (fun x5 => ?_)
    refine Rl_gR hV (by decide) ?_
    refine Rl_aI hV (by decide) (by decide) (fun x6 => ?_)
    refine Rl_gR hV (by decide) ?_
    refine Rl_aI hV (by decide) (by decide) (fun x7 => ?_)
    refine Rl_gR hV (by decide) ?_
    refine Rl_aI hV (by decide) (by decide) (fun x8 => ?_)
    refine Rl_gR hV (by decide) ?_
    refine Rl_aI hV (by decide) (by decide) (fun x9 => ?_)
    refine Rl_rcv hV ?_
    refine Rl_bd hF (q_X10_post hV _ _ _ _ _ _ _) (fun r10 _ q11 hV hF => ?_)
    refine Rl_gR hV (by decide) ?_
    refine Rl_aI hV (by decide) (by decide) (fun x12 => ?_)
    refine Rl_rcv hV ?_
    refine Rl_bd hF (q_X10_last hV _ _) (fun r13 _ q14 hV hF => ?_)
    exact Rl_ret hV hF
/-! X10_drop -/
def p_X10_drop (ms : MS) (a1 : Int32) : Option (Unit × MS) :=
  k_bd (p_X10_isMessage ms a1) fun r1 q2 =>
  if r1 = 0 then
    some ((), q2)
  else
    k_bd (p_X10_take q2 a1) fun _ q4 =>
    some ((), q4)
set_option maxHeartbeats 4000000 in
set_option maxRecDepth 100000 in
theorem q_X10_drop {σ : HS} {m : Nat} {A : Nat → Nat} {ms : MS} (hV : MV σ m A ms) (a1 : Int32) : Rl σ m A (f_X10_drop σ (some m) a1) (p_X10_drop ms a1) := by
  have hF : MF σ σ m A := MF.rf
  unfold f_X10_drop p_X10_drop
  refine Rl_rcv hV ?_
  refine Rl_bd hF (q_X10_isMessage hV _) (fun r1 _ q2 hV hF => ?_)
  refine Rl_ite (fun _ => ?_) (fun _ => ?_)
  · exact Rl_ret hV hF
  · refine Rl_rcv hV ?_
    refine Rl_bd hF (q_X10_take hV _) (fun r3 _ q4 hV hF => ?_)
    exact Rl_ret hV hF
/-! X10_forge -/
def pj_X10_forge_24 (ms : MS) (l1 : Int32) (l2 : Int32) (l3 : Int32) (t0 : Int32) : Option (Unit × MS) :=
  k_lt (k_pI ms 0 t0) fun q5 =>
  if (q5.1 0) = 0 then
    h_b1 (k_sI q5 37 ((8 * l1) + l2) l3) fun q6 =>
    some ((), q6)
  else
    some ((), q5)
def p_X10_forge (ms : MS) (a1 : Int32) (a2 : Int32) (a3 : Int32) : Option (Unit × MS) :=
  k_bd (p_X10_isMessage ms a1) fun r1 q2 =>
  if r1 = 0 then
    some ((), q2)
  else
    k_bd (p_X10_in q2 a2 0 5) fun r3 q4 =>
    if r3 = 0 then
      pj_X10_forge_24 q4 a1 a2 a3 1
    else
      pj_X10_forge_24 q4 a1 a2 a3 0
set_option maxHeartbeats 4000000 in
set_option maxRecDepth 100000 in
theorem qj_X10_forge_24 {σ0 : HS} {m : Nat} {A : Nat → Nat} (σ : HS) (ms : MS) (l1 : Int32) (l2 : Int32) (l3 : Int32) (t0 : Int32) (hV : MV σ m A ms) (hF : MF σ0 σ m A) : Rl σ0 m A (j_X10_forge_24 σ (some m) l1 l2 l3 t0 (some m)) (pj_X10_forge_24 ms l1 l2 l3 t0) := by
  unfold j_X10_forge_24 pj_X10_forge_24
  refine Rl_pI hV hF (by decide) (fun _ q5 hV hF => ?_)
  refine Rl_gI hV (by decide) ?_
  refine Rl_ite (fun _ => ?_) (fun _ => ?_)
  · refine Rl_gR hV (by decide) ?_
    refine Rl_sI hV hF (by decide) (by decide) (fun _ q6 hV hF => ?_)
    exact Rl_ret hV hF
  · exact Rl_ret hV hF
set_option maxHeartbeats 4000000 in
set_option maxRecDepth 100000 in
theorem q_X10_forge {σ : HS} {m : Nat} {A : Nat → Nat} {ms : MS} (hV : MV σ m A ms) (a1 : Int32) (a2 : Int32) (a3 : Int32) : Rl σ m A (f_X10_forge σ (some m) a1 a2 a3) (p_X10_forge ms a1 a2 a3) := by
  have hF : MF σ σ m A := MF.rf
  unfold f_X10_forge p_X10_forge
  refine Rl_rcv hV ?_
  refine Rl_bd hF (q_X10_isMessage hV _) (fun r1 _ q2 hV hF => ?_)
  refine Rl_ite (fun _ => ?_) (fun _ => ?_)
  · exact Rl_ret hV hF
  · refine Rl_bd hF (q_X10_in hV _ _ _) (fun r3 _ q4 hV hF => ?_)
    refine Rl_ite (fun _ => ?_) (fun _ => ?_)
    · exact qj_X10_forge_24 _ q4 a1 a2 a3 1 hV hF
    · exact qj_X10_forge_24 _ q4 a1 a2 a3 0 hV hF
/-! X10_message -/
def pj_X10_message_26 (ms : MS) (l1 : Int32) (l2 : Int32) (t0 : Int32) : Option (Int32 × MS) :=
  k_lt (k_pI ms 0 t0) fun q5 =>
  if (q5.1 0) ≤ 0 then
    h_b1 (k_aI q5 37 ((8 * l1) + l2)) fun x6 =>
    some (x6, q5)
  else
    some (0, q5)
def p_X10_message (ms : MS) (a1 : Int32) (a2 : Int32) : Option (Int32 × MS) :=
  k_bd (p_X10_isMessage ms a1) fun r1 q2 =>
  if r1 = 0 then
    some (0, q2)
  else
    k_bd (p_X10_in q2 a2 0 7) fun r3 q4 =>
    if r3 = 0 then
      pj_X10_message_26 q4 a1 a2 1
    else
      pj_X10_message_26 q4 a1 a2 0
set_option maxHeartbeats 4000000 in
set_option maxRecDepth 100000 in
theorem qj_X10_message_26 {σ0 : HS} {m : Nat} {A : Nat → Nat} (σ : HS) (ms : MS) (l1 : Int32) (l2 : Int32) (t0 : Int32) (hV : MV σ m A ms) (hF : MF σ0 σ m A) : Rl σ0 m A (j_X10_message_26 σ (some m) l1 l2 t0 (some m)) (pj_X10_message_26 ms l1 l2 t0) := by
  unfold j_X10_message_26 pj_X10_message_26
  refine Rl_pI hV hF (by decide) (fun _ q5 hV hF => ?_)
  refine Rl_gI hV (by decide) ?_
  refine Rl_ite (fun _ => ?_) (fun _ => ?_)
  · refine Rl_gR hV (by decide) ?_
    refine Rl_aI hV (by decide) (by decide) (fun x6 => ?_)
    exact Rl_ret hV hF
  · exact Rl_ret hV hF
set_option maxHeartbeats 4000000 in
set_option maxRecDepth 100000 in
theorem q_X10_message {σ : HS} {m : Nat} {A : Nat → Nat} {ms : MS} (hV : MV σ m A ms) (a1 : Int32) (a2 : Int32) : Rl σ m A (f_X10_message σ (some m) a1 a2) (p_X10_message ms a1 a2) := by
  have hF : MF σ σ m A := MF.rf
  unfold f_X10_message p_X10_message
  refine Rl_rcv hV ?_
  refine Rl_bd hF (q_X10_isMessage hV _) (fun r1 _ q2 hV hF => ?_)
  refine Rl_ite (fun _ => ?_) (fun _ => ?_)
  · exact Rl_ret hV hF
  · refine Rl_bd hF (q_X10_in hV _ _ _) (fun r3 _ q4 hV hF => ?_)
    refine Rl_ite (fun _ => ?_) (fun _ => ?_)
    · exact qj_X10_message_26 _ q4 a1 a2 1 hV hF
    · exact qj_X10_message_26 _ q4 a1 a2 0 hV hF
/-! X10_run -/
def pg_X10_run_22 : Nat → MS → Int32 → Int32 → Option (Int32 × MS)
  | 0, _, _, _ => none
  | n + 1, ms, l1, l2 =>
    if (ms.1 0) = 0 then
      if l1 ≤ l2 then
        some (l2, ms)
      else
        if (ms.1 36) ≤ 0 then
          some (l2, ms)
        else
          k_bd (p_X10_take ms 0) fun _ q5 =>
          k_bd (p_X10_arrive q5 ) fun _ q7 =>
          pg_X10_run_22 n q7 l1 (l2 + 1)
    else
      some (l2, ms)
def p_X10_run (ms : MS) (a1 : Int32) : Option (Int32 × MS) :=
  k_bd (p_X10_in ms a1 0 1000) fun r1 q2 =>
  if r1 = 0 then
    k_lt (k_pI q2 0 1) fun q3 =>
    pg_X10_run_22 h_hN q3 a1 0
  else
    k_lt (k_pI q2 0 0) fun q8 =>
    pg_X10_run_22 h_hN q8 a1 0
set_option maxHeartbeats 4000000 in
set_option maxRecDepth 100000 in
theorem qg_X10_run_22 {σ0 : HS} {m : Nat} {A : Nat → Nat} : ∀ (n : Nat) (σ : HS) (ms : MS) (l1 : Int32) (l2 : Int32), MV σ m A ms → MF σ0 σ m A → Rl σ0 m A (g_X10_run_22 n σ (some m) l1 l2) (pg_X10_run_22 n ms l1 l2) := by
  intro n
  induction n with
  | zero =>
    intro σ ms l1 l2 hV hF
    rw [pg_X10_run_22]
    exact Rl_none
  | succ n ih =>
    intro σ ms l1 l2 hV hF
    rw [pg_X10_run_22, g_X10_run_22]
    refine Rl_gI hV (by decide) ?_
    refine Rl_ite (fun _ => ?_) (fun _ => ?_)
    · refine Rl_ite (fun _ => ?_) (fun _ => ?_)
      · exact Rl_ret hV hF
      · refine Rl_gI hV (by decide) ?_
        refine Rl_ite (fun _ => ?_) (fun _ => ?_)
        · exact Rl_ret hV hF
        · refine Rl_rcv hV ?_
          refine Rl_bd hF (q_X10_take hV _) (fun r4 _ q5 hV hF => ?_)
          refine Rl_rcv hV ?_
          refine Rl_bd hF (q_X10_arrive hV ) (fun r6 _ q7 hV hF => ?_)
          exact ih _ q7 l1 (l2 + 1) hV hF
    · exact Rl_ret hV hF
set_option maxHeartbeats 4000000 in
set_option maxRecDepth 100000 in
theorem q_X10_run {σ : HS} {m : Nat} {A : Nat → Nat} {ms : MS} (hV : MV σ m A ms) (a1 : Int32) : Rl σ m A (f_X10_run σ (some m) a1) (p_X10_run ms a1) := by
  have hF : MF σ σ m A := MF.rf
  unfold f_X10_run p_X10_run
  refine Rl_bd hF (q_X10_in hV _ _ _) (fun r1 _ q2 hV hF => ?_)
  refine Rl_ite (fun _ => ?_) (fun _ => ?_)
  · refine Rl_pI hV hF (by decide) (fun _ q3 hV hF => ?_)
    exact qg_X10_run_22 h_hN _ q3 a1 0 hV hF
  · refine Rl_pI hV hF (by decide) (fun _ q8 hV hF => ?_)
    exact qg_X10_run_22 h_hN _ q8 a1 0 hV hF
/-! X10_pass -/
def pj_X10_pass_28 (ms : MS) (l1 : Int32) (t0 : Int32) : Option (Unit × MS) :=
  k_lt (k_pI ms 0 t0) fun q3 =>
  if (q3.1 0) = 0 then
    k_lt (k_pI q3 1 ((q3.1 1) + l1)) fun q4 =>
    some ((), q4)
  else
    some ((), q3)
def pj_X10_pass_27 (ms : MS) (l1 : Int32) : Option (Unit × MS) :=
  pj_X10_pass_28 ms l1 1
def p_X10_pass (ms : MS) (a1 : Int32) : Option (Unit × MS) :=
  k_bd (p_X10_in ms a1 1 1000) fun r1 q2 =>
  if r1 = 0 then
    pj_X10_pass_27 q2 a1
  else
    if 1000000 < ((q2.1 1) + a1) then
      pj_X10_pass_27 q2 a1
    else
      pj_X10_pass_28 q2 a1 0
set_option maxHeartbeats 4000000 in
set_option maxRecDepth 100000 in
theorem qj_X10_pass_28 {σ0 : HS} {m : Nat} {A : Nat → Nat} (σ : HS) (ms : MS) (l1 : Int32) (t0 : Int32) (hV : MV σ m A ms) (hF : MF σ0 σ m A) : Rl σ0 m A (j_X10_pass_28 σ (some m) l1 t0 (some m)) (pj_X10_pass_28 ms l1 t0) := by
  unfold j_X10_pass_28 pj_X10_pass_28
  refine Rl_pI hV hF (by decide) (fun _ q3 hV hF => ?_)
  refine Rl_gI hV (by decide) ?_
  refine Rl_ite (fun _ => ?_) (fun _ => ?_)
  · refine Rl_gI hV (by decide) ?_
    refine Rl_pI hV hF (by decide) (fun _ q4 hV hF => ?_)
    exact Rl_ret hV hF
  · exact Rl_ret hV hF
set_option maxHeartbeats 4000000 in
set_option maxRecDepth 100000 in
theorem qj_X10_pass_27 {σ0 : HS} {m : Nat} {A : Nat → Nat} (σ : HS) (ms : MS) (l1 : Int32) (hV : MV σ m A ms) (hF : MF σ0 σ m A) : Rl σ0 m A (j_X10_pass_27 σ (some m) l1 (some m)) (pj_X10_pass_27 ms l1) := by
  unfold j_X10_pass_27 pj_X10_pass_27
  exact qj_X10_pass_28 _ ms l1 1 hV hF
set_option maxHeartbeats 4000000 in
set_option maxRecDepth 100000 in
theorem q_X10_pass {σ : HS} {m : Nat} {A : Nat → Nat} {ms : MS} (hV : MV σ m A ms) (a1 : Int32) : Rl σ m A (f_X10_pass σ (some m) a1) (p_X10_pass ms a1) := by
  have hF : MF σ σ m A := MF.rf
  unfold f_X10_pass p_X10_pass
  refine Rl_bd hF (q_X10_in hV _ _ _) (fun r1 _ q2 hV hF => ?_)
  refine Rl_ite (fun _ => ?_) (fun _ => ?_)
  · exact qj_X10_pass_27 _ q2 a1 hV hF
  · refine Rl_gI hV (by decide) ?_
    refine Rl_ite (fun _ => ?_) (fun _ => ?_)
    · exact qj_X10_pass_27 _ q2 a1 hV hF
    · exact qj_X10_pass_28 _ q2 a1 0 hV hF
/-! X10_send -/
def pj_X10_send_28 (ms : MS) (l1 : Int32) (l2 : Int32) (t0 : Int32) : Option (Int32 × MS) :=
  k_lt (k_pI ms 0 t0) fun q3 =>
  if (q3.1 0) ≤ 0 then
    k_lt (k_pI q3 28 ((q3.1 28) + 1)) fun q4 =>
    h_b1 (k_sI q4 29 (q4.1 28) l1) fun q5 =>
    h_b1 (k_sI q5 30 (q4.1 28) l2) fun q6 =>
    h_b1 (k_sI q6 33 (q4.1 28) (-1)) fun q7 =>
    k_bd (p_X10_noteFor q7 l1 l2) fun r8 q9 =>
    k_bd (p_X10_hasEndpoint q9 l1 l2) fun r10 q11 =>
    if r10 = 0 then
      if r8 = (-1) then
        k_bd (p_X10_ask q11 (q4.1 28) 0) fun _ q13 =>
        some ((q4.1 28), q13)
      else
        h_b1 (k_aI q11 21 r8) fun x14 =>
        k_bd (p_X10_follow q11 (q4.1 28) x14) fun _ q16 =>
        some ((q4.1 28), q16)
    else
      k_bd (p_X10_deliver q11 (q4.1 28) l1) fun _ q18 =>
      some ((q4.1 28), q18)
  else
    some (0, q3)
def p_X10_send (ms : MS) (a1 : Int32) (a2 : Int32) : Option (Int32 × MS) :=
  if (ms.1 28) = 200 then
    pj_X10_send_28 ms a1 a2 1
  else
    k_bd (p_X10_isSite ms a1) fun r1 q2 =>
    if r1 = 0 then
      pj_X10_send_28 q2 a1 a2 2
    else
      pj_X10_send_28 q2 a1 a2 0
set_option maxHeartbeats 4000000 in
set_option maxRecDepth 100000 in
theorem qj_X10_send_28 {σ0 : HS} {m : Nat} {A : Nat → Nat} (σ : HS) (ms : MS) (l1 : Int32) (l2 : Int32) (t0 : Int32) (hV : MV σ m A ms) (hF : MF σ0 σ m A) : Rl σ0 m A (j_X10_send_28 σ (some m) l1 l2 t0 (some m)) (pj_X10_send_28 ms l1 l2 t0) := by
  unfold j_X10_send_28 pj_X10_send_28
  refine Rl_pI hV hF (by decide) (fun _ q3 hV hF => ?_)
  refine Rl_gI hV (by decide) ?_
  refine Rl_ite (fun _ => ?_) (fun _ => ?_)
  · refine Rl_gI hV (by decide) ?_
    refine Rl_pI hV hF (by decide) (fun _ q4 hV hF => ?_)
    refine Rl_gI hV (by decide) ?_
    refine Rl_gR hV (by decide) ?_
    refine Rl_sI hV hF (by decide) (by decide) (fun _ q5 hV hF => ?_)
    refine Rl_gR hV (by decide) ?_
    refine Rl_sI hV hF (by decide) (by decide) (fun _ q6 hV hF => ?_)
    refine Rl_gR hV (by decide) ?_
    refine Rl_sI hV hF (by decide) (by decide) (fun _ q7 hV hF => ?_)
    refine Rl_rcv hV ?_
    refine Rl_bd hF (q_X10_noteFor hV _ _) (fun r8 _ q9 hV hF => ?_)
    refine Rl_rcv hV ?_
    refine Rl_bd hF (q_X10_hasEndpoint hV _ _) (fun r10 _ q11 hV hF => ?_)
    refine Rl_ite (fun _ => ?_) (fun _ => ?_)
    · refine Rl_ite (fun _ => ?_) (fun _ => ?_)
      · refine Rl_rcv hV ?_
        refine Rl_bd hF (q_X10_ask hV _ _) (fun r12 _ q13 hV hF => ?_)
        exact Rl_ret hV hF
      · refine Rl_gR hV (by decide) ?_
        refine Rl_aI hV (by decide) (by decide) (fun x14 => ?_)
        refine Rl_rcv hV ?_
        refine Rl_bd hF (q_X10_follow hV _ _) (fun r15 _ q16 hV hF => ?_)
        exact Rl_ret hV hF
    · refine Rl_rcv hV ?_
      refine Rl_bd hF (q_X10_deliver hV _ _) (fun r17 _ q18 hV hF => ?_)
      exact Rl_ret hV hF
  · exact Rl_ret hV hF
set_option maxHeartbeats 4000000 in
set_option maxRecDepth 100000 in
theorem q_X10_send {σ : HS} {m : Nat} {A : Nat → Nat} {ms : MS} (hV : MV σ m A ms) (a1 : Int32) (a2 : Int32) : Rl σ m A (f_X10_send σ (some m) a1 a2) (p_X10_send ms a1 a2) := by
  have hF : MF σ σ m A := MF.rf
  unfold f_X10_send p_X10_send
  refine Rl_gI hV (by decide) ?_
  refine Rl_ite (fun _ => ?_) (fun _ => ?_)
  · exact qj_X10_send_28 _ ms a1 a2 1 hV hF
  · refine Rl_rcv hV ?_
    refine Rl_bd hF (q_X10_isSite hV _) (fun r1 _ q2 hV hF => ?_)
    refine Rl_ite (fun _ => ?_) (fun _ => ?_)
    · exact qj_X10_send_28 _ q2 a1 a2 2 hV hF
    · exact qj_X10_send_28 _ q2 a1 a2 0 hV hF
