def vpB (b l : Int32) : Bool := decide (0 ≤ l ∧ l ≤ 32) && vb l.toNatClampNeg b
theorem i32 {a : Int32} (h : 0 ≤ a ∧ a ≤ 32) : ∃ i : Nat, i ≤ 32 ∧ a = nI i := by
  obtain ⟨j, h1, h2⟩ := nI_of2 (M := 32) (n := 32) (by decide) (Int32.not_lt.mpr h.1) h.2
  exact ⟨j, h1, h2⟩
theorem bt_and_m1 (b : Int32) : b &&& ((0 : Int32) ^^^ (-1)) = b := b_ext (fun i hi => by rw [b_and, b_xor, b_0, b_m1 i hi]; simp)
theorem shl_vb {n : Nat} {b : Int32} (h0 : n < 32) : (b <<< (nI n &&& 31) = 0) ↔ vb n b = true := by
  rw [vb_iff (by omega)]
  constructor
  · intro h i hi h1
    have h2 : bt (b <<< (nI n &&& 31)) (i + n) = bt 0 (i + n) := by rw [h]
    rw [b_shl n h0 b (by omega), b_0, decide_eq_true (show n ≤ i + n by omega), Bool.true_and, Nat.add_sub_cancel] at h2
    exact h2
  · intro h
    apply b_ext
    intro i hi
    rw [b_shl n h0 b hi, b_0]
    by_cases h1 : n ≤ i
    · rw [h (i - n) (by omega) (by omega), Bool.and_false]
    · rw [decide_eq_false h1, Bool.false_and]
theorem p_isPrefix_eq (ms : MS) (b l : Int32) : p_X10_isPrefix ms b l = some (b2i (vpB b l), ms) := by
  unfold p_X10_isPrefix vpB
  rw [p_in_eq, k_bd_s]
  by_cases h : 0 ≤ l ∧ l ≤ 32
  · rw [decide_eq_true h, Bool.true_and, if_neg (by decide)]
    obtain ⟨n, hn, rfl⟩ := i32 h
    rw [nI_clamp (by omega)]
    by_cases h0 : n = 0
    · subst h0
      rw [if_pos (by decide)]
      unfold vb mk
      rw [if_pos rfl, bt_and_m1]
      by_cases hb : b = 0
      · rw [if_pos hb, decide_eq_true hb]; rfl
      · rw [if_neg hb, decide_eq_false hb]; rfl
    · rw [if_neg (nI_ne0 (by omega) (by omega))]
      by_cases h32 : n = 32
      · subst h32
        rw [if_pos (by decide), (vb_iff (n := 32) (b := b) (by omega)).mpr (fun i h1 h2 => by omega)]; rfl
      · rw [if_neg (show ¬ nI n = (32 : Int32) from fun z => h32 ((nI_eq (a := n) (b := 32) (by omega) (by omega)).mp z))]
        by_cases hb : vb n b = true
        · rw [if_pos ((shl_vb (by omega)).mpr hb), hb]; rfl
        · rw [if_neg (fun z => hb ((shl_vb (by omega)).mp z))]
          simp only [Bool.not_eq_true] at hb
          rw [hb]; rfl
  · rw [decide_eq_false h]; rfl
theorem b_one {i : Nat} (hi : i < 32) : bt 1 i = decide (i = 0) := (show ∀ i, i < 32 → bt 1 i = decide (i = 0) by decide +kernel) i hi
theorem mk32 : mk 32 = -1 := b_ext (fun i hi => by rw [bt_mk (by omega) hi, b_m1 i hi]; simp)
theorem cutS {j : Nat} (hj : j < 32) (x : Int32) : (x &&& ((1 <<< (nI (31 - j) &&& 31)) ^^^ (-1))) &&& mk (j + 1) = x &&& mk j := by
  apply b_ext
  intro i hi
  rw [b_and, b_and, b_and, b_xor, b_shl (31 - j) (by omega) 1 hi, b_m1 i hi, bt_mk (by omega) hi, bt_mk (by omega) hi]
  by_cases h1 : 31 - j ≤ i
  · rw [decide_eq_true h1, b_one (by omega), Bool.true_and]
    by_cases h2 : i = 31 - j
    · rw [decide_eq_true (show i - (31 - j) = 0 by omega), decide_eq_false (show ¬ 32 - j ≤ i by omega)]; simp
    · rw [decide_eq_false (show ¬ i - (31 - j) = 0 by omega), decide_eq_true (show 32 - j ≤ i by omega), decide_eq_true (show 32 - (j + 1) ≤ i by omega)]; simp
  · rw [decide_eq_false h1, decide_eq_false (show ¬ 32 - j ≤ i by omega), decide_eq_false (show ¬ 32 - (j + 1) ≤ i by omega)]; simp
theorem pg_cutTo : ∀ (c n j : Nat) (ms : MS) (x : Int32), j + c = 32 → c < n → pg_X10_cutTo_4 n ms x (nI j) = some (x &&& mk j, ms) := by
  intro c
  induction c with
  | zero =>
    intro n j ms x h1 h2
    obtain ⟨n', rfl⟩ : ∃ n', n = n' + 1 := ⟨n - 1, by omega⟩
    have : j = 32 := by omega
    subst this
    rw [pg_X10_cutTo_4, if_pos (by decide), mk32]
    congr 2
    exact b_ext (fun i hi => by rw [b_and, b_m1 i hi, Bool.and_true])
  | succ c ih =>
    intro n j ms x h1 h2
    obtain ⟨n', rfl⟩ : ∃ n', n = n' + 1 := ⟨n - 1, by omega⟩
    rw [pg_X10_cutTo_4, if_neg (show ¬ (32 : Int32) ≤ nI j from nI_ge (b := 32) (by omega) (by omega)), show (31 : Int32) - nI j = nI (31 - j) from pk_sub (a := 31) (by omega), nI_1, ih n' (j + 1) ms _ (by omega) (by omega), cutS (by omega)]
theorem p_cutTo_eq (ms : MS) (e : Int32) {n : Nat} (hn : n ≤ 32) : p_X10_cutTo ms e (nI n) = some (e &&& mk n, ms) := pg_cutTo (32 - n) h_hN n ms e (by omega) (h_hN_lt (by omega))
-- other entries, or children, in the prefix of length n round an endpoint
def inE (ms : MS) (ep : Int32) (n : Nat) (but : Option Nat) (k : Nat) : Bool := !decide (but = some k) && (liveE ms k && (decide (n ≤ ln (ms.2.1 8 k)) && ag n ep (ms.2.1 7 k)))
def inC (ms : MS) (s : Nat) (ep : Int32) (n : Nat) (c : Nat) : Bool := decide (ms.2.1 6 c = nI s) && (decide (n ≤ ln (ms.2.1 5 c)) && ag n ep (ms.2.1 4 c))
def crowd (ms : MS) (s : Nat) (ep : Int32) (n : Nat) (but : Option Nat) : Bool := (ff (inE ms ep n but) (16 * s) 16).isSome || (ff (inC ms s ep n) 0 8).isSome
theorem p_isCrowded_eq (ms : MS) (ep : Int32) (but : Option Nat) {s n : Nat} (hs : s < 8) (hn : n ≤ 32) (hb : ∀ j, but = some j → j < 128) (hL : ∀ k, k < 128 → Ln (ms.2.1 8 k)) (hP : ∀ k, k < 8 → Ln (ms.2.1 5 k)) : p_X10_isCrowded ms (nI s) ep (nI n) (o2i but) = some (b2i (crowd ms s ep n but), ms) := by
  unfold p_X10_isCrowded
  have hLn : Ln (nI n) := ⟨n, hn, rfl⟩
  have hln : ln (nI n) = n := nI_clamp (by omega)
  have key2 := lp_find (fun m k => pg_X10_isCrowded_72 m ms (nI s) ep (nI n) k) 8 (inC ms s ep n) (fun _ => some (1, ms)) (some (0, ms))
    (fun m => by show pg_X10_isCrowded_72 (m + 1) ms (nI s) ep (nI n) (nI 8) = _; rw [pg_X10_isCrowded_72, if_pos (by decide)])
    (fun m i hi => by
      show pg_X10_isCrowded_72 (m + 1) ms (nI s) ep (nI n) (nI i) = _
      rw [pg_X10_isCrowded_72, if_neg (show ¬ (8 : Int32) ≤ nI i from nI_ge (b := 8) hi (by omega)), k_aI_nI (show i < k_len 6 from hi), k_aI_nI (show i < k_len 4 from hi), k_aI_nI (show i < k_len 5 from hi), nI_1]
      simp only [h_b1_s]
      unfold inC
      by_cases h1 : ms.2.1 6 i = nI s
      · rw [if_pos h1, decide_eq_true h1, p_holds_L ms _ _ hLn (hP i hi), hln, k_bd_s]
        cases (decide (n ≤ ln (ms.2.1 5 i)) && ag n ep (ms.2.1 4 i)) <;> rfl
      · rw [if_neg h1, decide_eq_false h1]; rfl) 8 h_hN 0 rfl (h_hN_lt (by omega))
  have key := lp_find (fun m k => pg_X10_isCrowded_6 m ms (nI s) ep (nI n) (o2i but) k) (16 * s + 16) (inE ms ep n but) (fun _ => some (1, ms)) (pg_X10_isCrowded_72 h_hN ms (nI s) ep (nI n) 0)
    (fun m => by show pg_X10_isCrowded_6 (m + 1) ms (nI s) ep (nI n) (o2i but) (nI (16 * s + 16)) = _; rw [pg_X10_isCrowded_6, nI_m16, nI_a16, if_pos (Int32.le_refl _)])
    (fun m i hi => by
      show pg_X10_isCrowded_6 (m + 1) ms (nI s) ep (nI n) (o2i but) (nI i) = _
      rw [pg_X10_isCrowded_6, nI_m16, nI_a16, if_neg (nI_ge hi (by omega)), k_aI_nI (show i < k_len 12 by show i < 128; omega), k_aI_nI (show i < k_len 7 by show i < 128; omega), k_aI_nI (show i < k_len 8 by show i < 128; omega), nI_1]
      simp only [h_b1_s]
      unfold inE liveE
      by_cases h0 : nI i = o2i but
      · have hbut := (o2i_some (by omega) (fun j hj => by have := hb j hj; omega)).mp h0
        rw [if_pos h0, decide_eq_true hbut]; rfl
      · have hbut : ¬ but = some i := fun z => h0 ((o2i_some (by omega) (fun j hj => by have := hb j hj; omega)).mpr z)
        rw [if_neg h0, decide_eq_false hbut]
        by_cases h1 : ms.2.1 12 i ≤ ms.1 1
        · rw [if_pos h1, decide_eq_false (Int32.not_lt.mpr h1)]; rfl
        · rw [if_neg h1, decide_eq_true (Int32.not_le.mp h1), p_holds_L ms _ _ hLn (hL i (by omega)), hln, k_bd_s]
          cases (decide (n ≤ ln (ms.2.1 8 i)) && ag n ep (ms.2.1 7 i)) <;> rfl) 16 h_hN (16 * s) rfl (h_hN_lt (by omega))
  rw [nI_m16]
  refine key.trans ?_
  unfold crowd
  cases ff (inE ms ep n but) (16 * s) 16 with
  | some j => rfl
  | none =>
    show pg_X10_isCrowded_72 h_hN ms (nI s) ep (nI n) (nI 0) = _
    refine key2.trans ?_
    cases ff (inC ms s ep n) 0 8 <;> rfl
-- a site's own prefixes
theorem p_hasEndpoint_eq (ms : MS) (ep : Int32) {s c : Nat} (hs : s < 8) (hc : ms.2.1 15 s = nI c) (hc4 : c ≤ 4) (hL : ∀ k, k < 32 → Ln (ms.2.1 17 k)) : p_X10_hasEndpoint ms (nI s) ep = some (b2i (ff (fun k => ag (ln (ms.2.1 17 k)) (ms.2.1 16 k) ep) (4 * s) c).isSome, ms) := by
  unfold p_X10_hasEndpoint
  have key := lp_find (fun n k => pg_X10_hasEndpoint_4 n ms (nI s) ep k) (4 * s + c) (fun k => ag (ln (ms.2.1 17 k)) (ms.2.1 16 k) ep) (fun _ => some (1, ms)) (some (0, ms))
    (fun n => by
      show pg_X10_hasEndpoint_4 (n + 1) ms (nI s) ep (nI (4 * s + c)) = _
      rw [pg_X10_hasEndpoint_4, k_aI_nI (show s < k_len 15 from hs), h_b1_s, hc, nI_m4, nI_add, if_pos (Int32.le_refl _)])
    (fun n i hi => by
      show pg_X10_hasEndpoint_4 (n + 1) ms (nI s) ep (nI i) = _
      rw [pg_X10_hasEndpoint_4, k_aI_nI (show s < k_len 15 from hs), h_b1_s, hc, nI_m4, nI_add, if_neg (nI_ge hi (by omega)), k_aI_nI (show i < k_len 16 by show i < 32; omega), k_aI_nI (show i < k_len 17 by show i < 32; omega), nI_1]
      simp only [h_b1_s]
      rw [p_begin_L ms _ _ (hL i (by omega)), k_bd_s]
      cases ag (ln (ms.2.1 17 i)) (ms.2.1 16 i) ep <;> rfl) c h_hN (4 * s) rfl (h_hN_lt (by omega))
  rw [nI_m4]
  refine key.trans ?_
  cases ff (fun k => ag (ln (ms.2.1 17 k)) (ms.2.1 16 k) ep) (4 * s) c <;> rfl
-- whose own a prefix is
def ownS (ms : MS) (b : Int32) (n : Nat) (i : Nat) (w : Nat) : Nat := if (decide (¬ ms.2.1 3 i = 0) && (decide (ln (ms.2.1 5 i) ≤ n) && ag (ln (ms.2.1 5 i)) (ms.2.1 4 i) b)) = true then (if ms.2.1 5 i < ms.2.1 5 w then w else i) else w
def ownW (ms : MS) (b : Int32) (n : Nat) : Nat := fo (ownS ms b n) 0 8 0
def ownX (ms : MS) (b : Int32) (n : Nat) (w : Nat) (i : Nat) : Bool := !decide (i = w) && (decide (¬ ms.2.1 3 i = 0) && (decide (n ≤ ln (ms.2.1 5 i)) && ag n b (ms.2.1 4 i)))
def ownE (ms : MS) (b : Int32) (n : Nat) : Option Nat := match ff (ownX ms b n (ownW ms b n)) 0 8 with
  | none => some (ownW ms b n)
  | some _ => none
theorem p_owner_eq (ms : MS) (b : Int32) {n : Nat} (hn : n ≤ 32) (hP : ∀ k, k < 8 → Ln (ms.2.1 5 k)) : p_X10_owner ms b (nI n) = some (o2i (ownE ms b n), ms) := by
  unfold p_X10_owner
  have hLn : Ln (nI n) := ⟨n, hn, rfl⟩
  have hln : ln (nI n) = n := nI_clamp (by omega)
  have key2 : ∀ w : Nat, w < 8 → pg_X10_owner_72 h_hN ms b (nI n) (nI w) 0 = some (o2i (match ff (ownX ms b n w) 0 8 with
      | none => some w
      | some _ => none), ms) := by
    intro w hw
    have key := lp_find (fun m k => pg_X10_owner_72 m ms b (nI n) (nI w) k) 8 (ownX ms b n w) (fun _ => some (-1, ms)) (some (nI w, ms))
      (fun m => by show pg_X10_owner_72 (m + 1) ms b (nI n) (nI w) (nI 8) = _; rw [pg_X10_owner_72, if_pos (by decide)])
      (fun m i hi => by
        show pg_X10_owner_72 (m + 1) ms b (nI n) (nI w) (nI i) = _
        rw [pg_X10_owner_72, if_neg (show ¬ (8 : Int32) ≤ nI i from nI_ge (b := 8) hi (by omega)), k_aI_nI (show i < k_len 3 from hi), k_aI_nI (show i < k_len 4 from hi), k_aI_nI (show i < k_len 5 from hi), nI_1]
        simp only [h_b1_s]
        unfold ownX
        by_cases h0 : i = w
        · rw [if_pos (by rw [h0]), decide_eq_true h0]; rfl
        · rw [if_neg (fun z => h0 ((nI_eq (by omega) (by omega)).mp z)), decide_eq_false h0]
          by_cases h1 : ms.2.1 3 i = 0
          · rw [if_pos h1, decide_eq_false (fun z => z h1)]; rfl
          · rw [if_neg h1, decide_eq_true h1, p_holds_L ms _ _ hLn (hP i hi), hln, k_bd_s]
            cases (decide (n ≤ ln (ms.2.1 5 i)) && ag n b (ms.2.1 4 i)) <;> rfl) 8 h_hN 0 rfl (h_hN_lt (by omega))
    refine key.trans ?_
    cases ff (ownX ms b n w) 0 8 <;> rfl
  have key := lp_fold (S := Nat) (fun m w k => pg_X10_owner_5 m ms b (nI n) (nI w) k) 8 (ownS ms b n) (fun w => some (o2i (match ff (ownX ms b n w) 0 8 with
      | none => some w
      | some _ => none), ms)) (fun _ w => w < 8)
    (fun i w hi hw => by
      unfold ownS
      split
      · split
        · exact hw
        · exact hi
      · exact hw)
    (fun m w hw => by show pg_X10_owner_5 (m + 1) ms b (nI n) (nI w) (nI 8) = _; rw [pg_X10_owner_5, if_pos (by decide)]; exact key2 w hw)
    (fun m i w hi hw => by
      show pg_X10_owner_5 (m + 1) ms b (nI n) (nI w) (nI i) = pg_X10_owner_5 m ms b (nI n) (nI (ownS ms b n i w)) (nI (i + 1))
      rw [pg_X10_owner_5, if_neg (show ¬ (8 : Int32) ≤ nI i from nI_ge (b := 8) hi (by omega)), k_aI_nI (show i < k_len 3 from hi), k_aI_nI (show i < k_len 4 from hi), k_aI_nI (show i < k_len 5 from hi), nI_1]
      simp only [h_b1_s]
      unfold ownS
      by_cases h1 : ms.2.1 3 i = 0
      · rw [if_pos h1, decide_eq_false (fun z => z h1)]; rfl
      · rw [if_neg h1, decide_eq_true h1, p_holds_L ms _ _ (hP i hi) hLn, hln, k_bd_s, Bool.true_and]
        cases hh : (decide (ln (ms.2.1 5 i) ≤ n) && ag (ln (ms.2.1 5 i)) (ms.2.1 4 i) b)
        · rfl
        · rw [if_neg (by decide), k_aI_nI (show i < k_len 5 from hi), k_aI_nI (show w < k_len 5 from hw), h_b1_s, h_b1_s]
          simp only [if_true]
          by_cases h3 : ms.2.1 5 i < ms.2.1 5 w
          · rw [if_pos h3, if_pos h3]
          · rw [if_neg h3, if_neg h3]) 8 h_hN 0 0 (by omega) rfl (h_hN_lt (by omega))
  exact key
