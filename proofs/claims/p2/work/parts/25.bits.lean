def bt (x : Int32) (i : Nat) : Bool := x.toBitVec.getLsbD i
theorem b_ext {x y : Int32} (h : ∀ i, i < 32 → bt x i = bt y i) : x = y := Int32.toBitVec_inj.mp (BitVec.eq_of_getLsbD_eq (fun i hi => h i hi))
theorem b_and (x y : Int32) (i : Nat) : bt (x &&& y) i = (bt x i && bt y i) := by unfold bt; rw [Int32.toBitVec_and, BitVec.getLsbD_and]
theorem b_xor (x y : Int32) (i : Nat) : bt (x ^^^ y) i = (bt x i ^^ bt y i) := by unfold bt; rw [Int32.toBitVec_xor, BitVec.getLsbD_xor]
theorem b_big {x : Int32} {i : Nat} (h : 32 ≤ i) : bt x i = false := BitVec.getLsbD_of_ge _ _ h
theorem b_m1 : ∀ i, i < 32 → bt (-1) i = true := by decide +kernel
theorem b_0 (i : Nat) : bt 0 i = false := BitVec.getLsbD_zero
theorem s_l : ∀ n, n < 32 → ((nI n &&& 31).toBitVec.smod 32).toNat = n := by decide +kernel
theorem s_u : ∀ n, n < 32 → (((nI n).toUInt32 &&& Int32.toUInt32 31).toBitVec % 32).toNat = n := by decide +kernel
theorem b_shl (n : Nat) (hn : n < 32) (x : Int32) {i : Nat} (hi : i < 32) : bt (x <<< (nI n &&& 31)) i = (decide (n ≤ i) && bt x (i - n)) := by
  unfold bt
  rw [Int32.toBitVec_shiftLeft]
  show (x.toBitVec <<< ((nI n &&& 31).toBitVec.smod 32).toNat).getLsbD i = _
  rw [s_l n hn, BitVec.getLsbD_shiftLeft]
  rcases Nat.lt_or_ge i n with h | h
  · simp [h, Nat.not_le.mpr h]
  · simp [hi, h, Nat.not_lt.mpr h]
theorem b_ushr (n : Nat) (hn : n < 32) (x : Int32) (i : Nat) : bt ((x.toUInt32 >>> ((nI n).toUInt32 &&& Int32.toUInt32 31)).toInt32) i = bt x (n + i) := by
  show (x.toUInt32 >>> ((nI n).toUInt32 &&& Int32.toUInt32 31)).toBitVec.getLsbD i = x.toUInt32.toBitVec.getLsbD (n + i)
  rw [UInt32.toBitVec_shiftRight]
  show (x.toUInt32.toBitVec >>> (((nI n).toUInt32 &&& Int32.toUInt32 31).toBitVec % 32).toNat).getLsbD i = _
  rw [s_u n hn, BitVec.getLsbD_ushiftRight]
/-- the mask of the first n bits -/
def mk (n : Nat) : Int32 := if n = 0 then 0 else (-1) <<< (nI (32 - n) &&& 31)
theorem bt_mk {n i : Nat} (hn : n ≤ 32) (hi : i < 32) : bt (mk n) i = decide (32 - n ≤ i) := by
  unfold mk
  by_cases h0 : n = 0
  · rw [if_pos h0, b_0, h0]
    symm
    rw [decide_eq_false_iff_not]
    omega
  · rw [if_neg h0, b_shl (32 - n) (by omega) (-1) hi]
    by_cases h1 : 32 - n ≤ i
    · rw [b_m1 _ (by omega)]; simp
    · simp [h1]
def b2i (b : Bool) : Int32 := if b = true then 1 else 0
theorem b2i_t : b2i true = 1 := rfl
theorem b2i_f : b2i false = 0 := rfl
theorem b2i_0 {b : Bool} : b2i b = 0 ↔ b = false := by cases b <;> simp [b2i]
theorem b2i_1 {b : Bool} : b2i b = 1 ↔ b = true := by cases b <;> simp [b2i]
theorem b2i_n {b : Bool} : ¬ b2i b = 0 ↔ b = true := by cases b <;> simp [b2i]
/-- a and b have the same first n bits -/
def ag (n : Nat) (a b : Int32) : Bool := decide ((a ^^^ b) &&& mk n = 0)
theorem ag_iff {n : Nat} {a b : Int32} (hn : n ≤ 32) : ag n a b = true ↔ ∀ i, i < 32 → 32 - n ≤ i → bt a i = bt b i := by
  unfold ag
  rw [decide_eq_true_iff]
  constructor
  · intro h i hi h1
    have h2 : bt ((a ^^^ b) &&& mk n) i = bt 0 i := by rw [h]
    rw [b_and, b_xor, bt_mk hn hi, b_0, decide_eq_true h1, Bool.and_true] at h2
    revert h2
    cases bt a i <;> cases bt b i <;> simp
  · intro h
    apply b_ext
    intro i hi
    rw [b_and, b_xor, bt_mk hn hi, b_0]
    by_cases h1 : 32 - n ≤ i
    · rw [h i hi h1]; simp
    · rw [decide_eq_false h1, Bool.and_false]
theorem ag_refl {n : Nat} {a : Int32} (hn : n ≤ 32) : ag n a a = true := (ag_iff hn).mpr (fun _ _ _ => rfl)
theorem ag_symm {n : Nat} {a b : Int32} (hn : n ≤ 32) (h : ag n a b = true) : ag n b a = true := (ag_iff hn).mpr (fun i h1 h2 => ((ag_iff hn).mp h i h1 h2).symm)
theorem ag_comm {n : Nat} {a b : Int32} (hn : n ≤ 32) : ag n a b = ag n b a := by
  cases h : ag n a b
  · cases h' : ag n b a
    · rfl
    · rw [ag_symm hn h'] at h; cases h
  · exact (ag_symm hn h).symm
theorem ag_trans {n : Nat} {a b c : Int32} (hn : n ≤ 32) (h : ag n a b = true) (h' : ag n b c = true) : ag n a c = true := (ag_iff hn).mpr (fun i h1 h2 => ((ag_iff hn).mp h i h1 h2).trans ((ag_iff hn).mp h' i h1 h2))
theorem ag_le {n k : Nat} {a b : Int32} (hn : n ≤ 32) (hk : k ≤ n) (h : ag n a b = true) : ag k a b = true := (ag_iff (by omega)).mpr (fun i h1 h2 => (ag_iff hn).mp h i h1 (by omega))
theorem ag_0 (a b : Int32) : ag 0 a b = true := (ag_iff (by omega)).mpr (fun i h1 h2 => by omega)
theorem ag_32 {a b : Int32} (h : ag 32 a b = true) : a = b := b_ext (fun i hi => (ag_iff (by omega)).mp h i hi (by omega))
/-- b is the bits of a prefix of length n -/
def vb (n : Nat) (b : Int32) : Bool := decide (b &&& (mk n ^^^ (-1)) = 0)
theorem vb_iff {n : Nat} {b : Int32} (hn : n ≤ 32) : vb n b = true ↔ ∀ i, i < 32 → i < 32 - n → bt b i = false := by
  unfold vb
  rw [decide_eq_true_iff]
  constructor
  · intro h i hi h1
    have h2 : bt (b &&& (mk n ^^^ (-1))) i = bt 0 i := by rw [h]
    rw [b_and, b_xor, bt_mk hn hi, b_0, b_m1 i hi, decide_eq_false (show ¬ 32 - n ≤ i by omega)] at h2
    revert h2
    cases bt b i <;> simp
  · intro h
    apply b_ext
    intro i hi
    rw [b_and, b_xor, bt_mk hn hi, b_0, b_m1 i hi]
    by_cases h1 : 32 - n ≤ i
    · rw [decide_eq_true h1]; simp
    · rw [h i hi (by omega)]; simp
theorem vb_eq {n : Nat} {a b : Int32} (hn : n ≤ 32) (ha : vb n a = true) (hb : vb n b = true) (h : ag n a b = true) : a = b := b_ext (fun i hi => by
  by_cases h1 : 32 - n ≤ i
  · exact (ag_iff hn).mp h i hi h1
  · rw [(vb_iff hn).mp ha i hi (by omega), (vb_iff hn).mp hb i hi (by omega)])
theorem vb_cut {n : Nat} (hn : n ≤ 32) (e : Int32) : vb n (e &&& mk n) = true := (vb_iff hn).mpr (fun i hi h1 => by
  rw [b_and, bt_mk hn hi, decide_eq_false (show ¬ 32 - n ≤ i by omega), Bool.and_false])
theorem ag_cut {n : Nat} (hn : n ≤ 32) (e : Int32) : ag n e (e &&& mk n) = true := (ag_iff hn).mpr (fun i hi h1 => by
  rw [b_and, bt_mk hn hi, decide_eq_true h1, Bool.and_true])
theorem has_iff {n : Nat} {e b : Int32} (hn : n ≤ 32) (hb : vb n b = true) : (e &&& mk n = b) ↔ ag n e b = true := by
  constructor
  · intro h
    rw [← h]; exact ag_cut hn e
  · intro h
    exact vb_eq hn (vb_cut hn e) hb (ag_trans hn (ag_symm hn (ag_cut hn e)) h)
theorem nI32 (n : Nat) (hn : n ≤ 32) : (32 : Int32) - nI n = nI (32 - n) := pk_sub (a := 32) hn
theorem p_in_eq (ms : MS) (a : Int32) (lo hi : Int32) : p_X10_in ms a lo hi = some (b2i (decide (lo ≤ a ∧ a ≤ hi)), ms) := by
  unfold p_X10_in
  by_cases h1 : a < lo
  · rw [if_pos h1, decide_eq_false (fun h => absurd h.1 (Int32.not_le.mpr h1))]; rfl
  · rw [if_neg h1]
    by_cases h2 : hi < a
    · rw [if_pos h2, decide_eq_false (fun h => absurd h.2 (Int32.not_le.mpr h2))]; rfl
    · rw [if_neg h2, decide_eq_true ⟨Int32.not_lt.mp h1, Int32.not_lt.mp h2⟩]; rfl
theorem ushr_ag {n : Nat} {a b : Int32} (h0 : n ≠ 0) (hn : n ≤ 32) : (h_ushr (a ^^^ b) (32 - nI n) = 0) ↔ ag n a b = true := by
  rw [nI32 n hn, ag_iff hn]
  constructor
  · intro h i hi h1
    have h2 : bt (h_ushr (a ^^^ b) (nI (32 - n))) (i - (32 - n)) = bt 0 (i - (32 - n)) := by rw [h]
    unfold h_ushr at h2
    rw [b_ushr (32 - n) (by omega), b_0, show 32 - n + (i - (32 - n)) = i by omega, b_xor] at h2
    revert h2
    cases bt a i <;> cases bt b i <;> simp
  · intro h
    apply b_ext
    intro i hi
    unfold h_ushr
    rw [b_ushr (32 - n) (by omega), b_0]
    by_cases h1 : 32 - n + i < 32
    · rw [b_xor, h _ h1 (by omega)]; simp
    · rw [b_big (by omega)]
theorem p_begin_eq (ms : MS) (a b : Int32) {n : Nat} (hn : n ≤ 32) : p_X10_begin ms a b (nI n) = some (b2i (ag n a b), ms) := by
  unfold p_X10_begin
  by_cases h0 : n = 0
  · subst h0
    rw [if_pos (by decide), ag_0]; rfl
  · rw [if_neg (nI_ne0 (by omega) (by omega))]
    by_cases h : ag n a b = true
    · rw [if_pos ((ushr_ag h0 hn).mpr h), h]; rfl
    · rw [if_neg (fun z => h ((ushr_ag h0 hn).mp z))]
      simp only [Bool.not_eq_true] at h
      rw [h]; rfl
theorem p_holds_eq (ms : MS) (b ob : Int32) {n k : Nat} (hn : n ≤ 32) (hk : k ≤ 32) : p_X10_holds ms b (nI n) ob (nI k) = some (b2i (decide (n ≤ k) && ag n b ob), ms) := by
  unfold p_X10_holds
  by_cases h : k < n
  · rw [if_pos (nI_lt h (by omega)), decide_eq_false (show ¬ n ≤ k by omega)]; rfl
  · rw [if_neg (nI_nlt (by omega) (by omega)), p_begin_eq ms b ob hn, decide_eq_true (show n ≤ k by omega), Bool.true_and]
    show (if b2i (ag n b ob) = 0 then some (0, ms) else some (1, ms)) = _
    cases ag n b ob <;> rfl
