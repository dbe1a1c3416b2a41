/-! what thrown() reads (this law never calls it: a function alone, no walk) -/
def f_X10_thrown (σ : HS) (a0 : Option Nat) : Option (Int32 × HS) :=
  h_b1 (h_gI σ a0 11 0) fun x1 =>
  some (x1, σ)
def p_X10_thrown (ms : MS) : Option (Int32 × MS) :=
  some ((ms.1 0), ms)
theorem q_X10_thrown {σ : HS} {m : Nat} {A : Nat → Nat} {ms : MS} (hV : MV σ m A ms) : Rl σ m A (f_X10_thrown σ (some m)) (p_X10_thrown ms) := by
  have hF : MF σ σ m A := MF.rf
  unfold f_X10_thrown p_X10_thrown
  refine Rl_gI hV (by decide) ?_
  exact Rl_ret hV hF
