/-! from 98c.draw -/
section
/-! DRAWS: two of the first 2000 are never the same -/
def dr : Nat → Int32
  | 0 => 1
  | n + 1 => drw (dr n)
def f1 (g : Int32) : Int32 := g ^^^ (g <<< (13 &&& 31))
def f2 (g : Int32) : Int32 := g ^^^ h_ushr g 17
def f3 (g : Int32) : Int32 := g ^^^ (g <<< (5 &&& 31))
theorem drw_f (g : Int32) : drw g = f3 (f2 (f1 g)) := rfl
theorem shl_inj {n : Nat} (hn : n < 32) (h0 : 0 < n) {x y : Int32} (h : x ^^^ (x <<< (nI n &&& 31)) = y ^^^ (y <<< (nI n &&& 31))) : x = y := by
  refine b_ext (fun i => ?_)
  induction i using Nat.strongRecOn with
  | ind i ih =>
    intro hi
    have e : bt (x ^^^ (x <<< (nI n &&& 31))) i = bt (y ^^^ (y <<< (nI n &&& 31))) i := by rw [h]
    rw [b_xor, b_xor, b_shl n hn x hi, b_shl n hn y hi] at e
    by_cases hc : n ≤ i
    · rw [ih (i - n) (by omega) (by omega)] at e
      revert e
      cases bt x i <;> cases bt y i <;> cases bt y (i - n) <;> simp
    · rw [decide_eq_false hc] at e
      simpa using e
theorem ushr_inj {n : Nat} (hn : n < 32) (h0 : 0 < n) {x y : Int32} (h : x ^^^ h_ushr x (nI n) = y ^^^ h_ushr y (nI n)) : x = y := by
  have key : ∀ d i, i < 32 → 32 - i ≤ d → bt x i = bt y i := by
    intro d
    induction d with
    | zero => intro i hi hd; omega
    | succ d ih =>
      intro i hi hd
      have e : bt (x ^^^ h_ushr x (nI n)) i = bt (y ^^^ h_ushr y (nI n)) i := by rw [h]
      unfold h_ushr at e
      rw [b_xor, b_xor, b_ushr n hn x i, b_ushr n hn y i] at e
      have e2 : bt x (n + i) = bt y (n + i) := by
        by_cases hc : n + i < 32
        · exact ih (n + i) hc (by omega)
        · rw [b_big (by omega), b_big (by omega)]
      rw [e2] at e
      revert e
      cases bt x i <;> cases bt y i <;> cases bt y (n + i) <;> simp
  exact b_ext (fun i hi => key 32 i hi (by omega))
theorem drw_inj {x y : Int32} (h : drw x = drw y) : x = y := by
  rw [drw_f, drw_f] at h
  exact shl_inj (n := 13) (by omega) (by omega) (ushr_inj (n := 17) (by omega) (by omega) (shl_inj (n := 5) (by omega) (by omega) h))
def it : Nat → Int32 → Int32
  | 0, g => g
  | n + 1, g => it n (drw g)
def ck : Nat → Int32 → Bool
  | 0, _ => true
  | n + 1, g => !(decide (drw g = 1)) && ck n (drw g)
theorem it_dr : ∀ n k, it n (dr k) = dr (k + n)
  | 0, k => rfl
  | n + 1, k => by
    show it n (dr (k + 1)) = dr (k + (n + 1))
    rw [it_dr n (k + 1)]
    congr 1
    omega
theorem ck_dr : ∀ n k, ck n (dr k) = true → ∀ m, k < m → m ≤ k + n → dr m ≠ 1
  | 0, k, _, m, h1, h2 => by omega
  | n + 1, k, h, m, h1, h2 => by
    have h' : (!(decide (dr (k + 1) = 1)) && ck n (dr (k + 1))) = true := h
    obtain ⟨a, b⟩ := (Bool.and_eq_true _ _).mp h'
    by_cases e : m = k + 1
    · rw [e]
      intro z
      rw [decide_eq_true z] at a
      cases a
    · exact ck_dr n (k + 1) b m (by omega) (by omega)
theorem dk_0 : ck 40 1 = true ∧ it 40 1 = 2037229063 := by decide +kernel
theorem dk_1 : ck 40 2037229063 = true ∧ it 40 2037229063 = (-1185839664) := by decide +kernel
theorem dk_2 : ck 40 (-1185839664) = true ∧ it 40 (-1185839664) = (-1341360986) := by decide +kernel
theorem dk_3 : ck 40 (-1341360986) = true ∧ it 40 (-1341360986) = (-1891076775) := by decide +kernel
theorem dk_4 : ck 40 (-1891076775) = true ∧ it 40 (-1891076775) = (-1892239661) := by decide +kernel
theorem dk_5 : ck 40 (-1892239661) = true ∧ it 40 (-1892239661) = 1861712706 := by decide +kernel
theorem dk_6 : ck 40 1861712706 = true ∧ it 40 1861712706 = (-1841982330) := by decide +kernel
theorem dk_7 : ck 40 (-1841982330) = true ∧ it 40 (-1841982330) = (-388965862) := by decide +kernel
theorem dk_8 : ck 40 (-388965862) = true ∧ it 40 (-388965862) = 1321191166 := by decide +kernel
theorem dk_9 : ck 40 1321191166 = true ∧ it 40 1321191166 = (-281729014) := by decide +kernel
theorem dk_10 : ck 40 (-281729014) = true ∧ it 40 (-281729014) = (-1877009773) := by decide +kernel
theorem dk_11 : ck 40 (-1877009773) = true ∧ it 40 (-1877009773) = 691128760 := by decide +kernel
theorem dk_12 : ck 40 691128760 = true ∧ it 40 691128760 = 688570636 := by decide +kernel
theorem dk_13 : ck 40 688570636 = true ∧ it 40 688570636 = 1620460959 := by decide +kernel
theorem dk_14 : ck 40 1620460959 = true ∧ it 40 1620460959 = 459474229 := by decide +kernel
theorem dk_15 : ck 40 459474229 = true ∧ it 40 459474229 = (-3648113) := by decide +kernel
theorem dk_16 : ck 40 (-3648113) = true ∧ it 40 (-3648113) = 101963038 := by decide +kernel
theorem dk_17 : ck 40 101963038 = true ∧ it 40 101963038 = (-929551003) := by decide +kernel
theorem dk_18 : ck 40 (-929551003) = true ∧ it 40 (-929551003) = 1665219836 := by decide +kernel
theorem dk_19 : ck 40 1665219836 = true ∧ it 40 1665219836 = 34281090 := by decide +kernel
theorem dk_20 : ck 40 34281090 = true ∧ it 40 34281090 = 1069296527 := by decide +kernel
theorem dk_21 : ck 40 1069296527 = true ∧ it 40 1069296527 = 2141764210 := by decide +kernel
theorem dk_22 : ck 40 2141764210 = true ∧ it 40 2141764210 = (-1111438737) := by decide +kernel
theorem dk_23 : ck 40 (-1111438737) = true ∧ it 40 (-1111438737) = 2131126528 := by decide +kernel
theorem dk_24 : ck 40 2131126528 = true ∧ it 40 2131126528 = 269958183 := by decide +kernel
theorem dk_25 : ck 40 269958183 = true ∧ it 40 269958183 = 1472303394 := by decide +kernel
theorem dk_26 : ck 40 1472303394 = true ∧ it 40 1472303394 = 307813619 := by decide +kernel
theorem dk_27 : ck 40 307813619 = true ∧ it 40 307813619 = 1711487563 := by decide +kernel
theorem dk_28 : ck 40 1711487563 = true ∧ it 40 1711487563 = (-1223290827) := by decide +kernel
theorem dk_29 : ck 40 (-1223290827) = true ∧ it 40 (-1223290827) = 437845857 := by decide +kernel
theorem dk_30 : ck 40 437845857 = true ∧ it 40 437845857 = 1536000730 := by decide +kernel
theorem dk_31 : ck 40 1536000730 = true ∧ it 40 1536000730 = 1794492088 := by decide +kernel
theorem dk_32 : ck 40 1794492088 = true ∧ it 40 1794492088 = (-1513503790) := by decide +kernel
theorem dk_33 : ck 40 (-1513503790) = true ∧ it 40 (-1513503790) = (-381394313) := by decide +kernel
theorem dk_34 : ck 40 (-381394313) = true ∧ it 40 (-381394313) = 1884650883 := by decide +kernel
theorem dk_35 : ck 40 1884650883 = true ∧ it 40 1884650883 = (-330215474) := by decide +kernel
theorem dk_36 : ck 40 (-330215474) = true ∧ it 40 (-330215474) = (-1997718207) := by decide +kernel
theorem dk_37 : ck 40 (-1997718207) = true ∧ it 40 (-1997718207) = (-2066405900) := by decide +kernel
theorem dk_38 : ck 40 (-2066405900) = true ∧ it 40 (-2066405900) = 960262133 := by decide +kernel
theorem dk_39 : ck 40 960262133 = true ∧ it 40 960262133 = (-562387097) := by decide +kernel
theorem dk_40 : ck 40 (-562387097) = true ∧ it 40 (-562387097) = 667393635 := by decide +kernel
theorem dk_41 : ck 40 667393635 = true ∧ it 40 667393635 = 129509509 := by decide +kernel
theorem dk_42 : ck 40 129509509 = true ∧ it 40 129509509 = (-1111432198) := by decide +kernel
theorem dk_43 : ck 40 (-1111432198) = true ∧ it 40 (-1111432198) = (-1065326864) := by decide +kernel
theorem dk_44 : ck 40 (-1065326864) = true ∧ it 40 (-1065326864) = (-763523927) := by decide +kernel
theorem dk_45 : ck 40 (-763523927) = true ∧ it 40 (-763523927) = 784438597 := by decide +kernel
theorem dk_46 : ck 40 784438597 = true ∧ it 40 784438597 = (-1558955161) := by decide +kernel
theorem dk_47 : ck 40 (-1558955161) = true ∧ it 40 (-1558955161) = 190229528 := by decide +kernel
theorem dk_48 : ck 40 190229528 = true ∧ it 40 190229528 = (-793090371) := by decide +kernel
theorem dk_49 : ck 40 (-793090371) = true ∧ it 40 (-793090371) = (-1289031009) := by decide +kernel
theorem dv_0 : dr 0 = 1 := rfl
theorem dv_1 : dr 40 = 2037229063 := by
  have h := it_dr 40 0
  rw [dv_0, dk_0.2] at h
  exact h.symm
theorem dv_2 : dr 80 = (-1185839664) := by
  have h := it_dr 40 40
  rw [dv_1, dk_1.2] at h
  exact h.symm
theorem dv_3 : dr 120 = (-1341360986) := by
  have h := it_dr 40 80
  rw [dv_2, dk_2.2] at h
  exact h.symm
theorem dv_4 : dr 160 = (-1891076775) := by
  have h := it_dr 40 120
  rw [dv_3, dk_3.2] at h
  exact h.symm
theorem dv_5 : dr 200 = (-1892239661) := by
  have h := it_dr 40 160
  rw [dv_4, dk_4.2] at h
  exact h.symm
theorem dv_6 : dr 240 = 1861712706 := by
  have h := it_dr 40 200
  rw [dv_5, dk_5.2] at h
  exact h.symm
theorem dv_7 : dr 280 = (-1841982330) := by
  have h := it_dr 40 240
  rw [dv_6, dk_6.2] at h
  exact h.symm
theorem dv_8 : dr 320 = (-388965862) := by
  have h := it_dr 40 280
  rw [dv_7, dk_7.2] at h
  exact h.symm
theorem dv_9 : dr 360 = 1321191166 := by
  have h := it_dr 40 320
  rw [dv_8, dk_8.2] at h
  exact h.symm
theorem dv_10 : dr 400 = (-281729014) := by
  have h := it_dr 40 360
  rw [dv_9, dk_9.2] at h
  exact h.symm
theorem dv_11 : dr 440 = (-1877009773) := by
  have h := it_dr 40 400
  rw [dv_10, dk_10.2] at h
  exact h.symm
theorem dv_12 : dr 480 = 691128760 := by
  have h := it_dr 40 440
  rw [dv_11, dk_11.2] at h
  exact h.symm
theorem dv_13 : dr 520 = 688570636 := by
  have h := it_dr 40 480
  rw [dv_12, dk_12.2] at h
  exact h.symm
theorem dv_14 : dr 560 = 1620460959 := by
  have h := it_dr 40 520
  rw [dv_13, dk_13.2] at h
  exact h.symm
theorem dv_15 : dr 600 = 459474229 := by
  have h := it_dr 40 560
  rw [dv_14, dk_14.2] at h
  exact h.symm
theorem dv_16 : dr 640 = (-3648113) := by
  have h := it_dr 40 600
  rw [dv_15, dk_15.2] at h
  exact h.symm
theorem dv_17 : dr 680 = 101963038 := by
  have h := it_dr 40 640
  rw [dv_16, dk_16.2] at h
  exact h.symm
theorem dv_18 : dr 720 = (-929551003) := by
  have h := it_dr 40 680
  rw [dv_17, dk_17.2] at h
  exact h.symm
theorem dv_19 : dr 760 = 1665219836 := by
  have h := it_dr 40 720
  rw [dv_18, dk_18.2] at h
  exact h.symm
theorem dv_20 : dr 800 = 34281090 := by
  have h := it_dr 40 760
  rw [dv_19, dk_19.2] at h
  exact h.symm
theorem dv_21 : dr 840 = 1069296527 := by
  have h := it_dr 40 800
  rw [dv_20, dk_20.2] at h
  exact h.symm
theorem dv_22 : dr 880 = 2141764210 := by
  have h := it_dr 40 840
  rw [dv_21, dk_21.2] at h
  exact h.symm
theorem dv_23 : dr 920 = (-1111438737) := by
  have h := it_dr 40 880
  rw [dv_22, dk_22.2] at h
  exact h.symm
theorem dv_24 : dr 960 = 2131126528 := by
  have h := it_dr 40 920
  rw [dv_23, dk_23.2] at h
  exact h.symm
theorem dv_25 : dr 1000 = 269958183 := by
  have h := it_dr 40 960
  rw [dv_24, dk_24.2] at h
  exact h.symm
theorem dv_26 : dr 1040 = 1472303394 := by
  have h := it_dr 40 1000
  rw [dv_25, dk_25.2] at h
  exact h.symm
theorem dv_27 : dr 1080 = 307813619 := by
  have h := it_dr 40 1040
  rw [dv_26, dk_26.2] at h
  exact h.symm
theorem dv_28 : dr 1120 = 1711487563 := by
  have h := it_dr 40 1080
  rw [dv_27, dk_27.2] at h
  exact h.symm
theorem dv_29 : dr 1160 = (-1223290827) := by
  have h := it_dr 40 1120
  rw [dv_28, dk_28.2] at h
  exact h.symm
theorem dv_30 : dr 1200 = 437845857 := by
  have h := it_dr 40 1160
  rw [dv_29, dk_29.2] at h
  exact h.symm
theorem dv_31 : dr 1240 = 1536000730 := by
  have h := it_dr 40 1200
  rw [dv_30, dk_30.2] at h
  exact h.symm
theorem dv_32 : dr 1280 = 1794492088 := by
  have h := it_dr 40 1240
  rw [dv_31, dk_31.2] at h
  exact h.symm
theorem dv_33 : dr 1320 = (-1513503790) := by
  have h := it_dr 40 1280
  rw [dv_32, dk_32.2] at h
  exact h.symm
theorem dv_34 : dr 1360 = (-381394313) := by
  have h := it_dr 40 1320
  rw [dv_33, dk_33.2] at h
  exact h.symm
theorem dv_35 : dr 1400 = 1884650883 := by
  have h := it_dr 40 1360
  rw [dv_34, dk_34.2] at h
  exact h.symm
theorem dv_36 : dr 1440 = (-330215474) := by
  have h := it_dr 40 1400
  rw [dv_35, dk_35.2] at h
  exact h.symm
theorem dv_37 : dr 1480 = (-1997718207) := by
  have h := it_dr 40 1440
  rw [dv_36, dk_36.2] at h
  exact h.symm
theorem dv_38 : dr 1520 = (-2066405900) := by
  have h := it_dr 40 1480
  rw [dv_37, dk_37.2] at h
  exact h.symm
theorem dv_39 : dr 1560 = 960262133 := by
  have h := it_dr 40 1520
  rw [dv_38, dk_38.2] at h
  exact h.symm
theorem dv_40 : dr 1600 = (-562387097) := by
  have h := it_dr 40 1560
  rw [dv_39, dk_39.2] at h
  exact h.symm
theorem dv_41 : dr 1640 = 667393635 := by
  have h := it_dr 40 1600
  rw [dv_40, dk_40.2] at h
  exact h.symm
theorem dv_42 : dr 1680 = 129509509 := by
  have h := it_dr 40 1640
  rw [dv_41, dk_41.2] at h
  exact h.symm
theorem dv_43 : dr 1720 = (-1111432198) := by
  have h := it_dr 40 1680
  rw [dv_42, dk_42.2] at h
  exact h.symm
theorem dv_44 : dr 1760 = (-1065326864) := by
  have h := it_dr 40 1720
  rw [dv_43, dk_43.2] at h
  exact h.symm
theorem dv_45 : dr 1800 = (-763523927) := by
  have h := it_dr 40 1760
  rw [dv_44, dk_44.2] at h
  exact h.symm
theorem dv_46 : dr 1840 = 784438597 := by
  have h := it_dr 40 1800
  rw [dv_45, dk_45.2] at h
  exact h.symm
theorem dv_47 : dr 1880 = (-1558955161) := by
  have h := it_dr 40 1840
  rw [dv_46, dk_46.2] at h
  exact h.symm
theorem dv_48 : dr 1920 = 190229528 := by
  have h := it_dr 40 1880
  rw [dv_47, dk_47.2] at h
  exact h.symm
theorem dv_49 : dr 1960 = (-793090371) := by
  have h := it_dr 40 1920
  rw [dv_48, dk_48.2] at h
  exact h.symm
theorem dv_50 : dr 2000 = (-1289031009) := by
  have h := it_dr 40 1960
  rw [dv_49, dk_49.2] at h
  exact h.symm
theorem dr_ne : ∀ m, 0 < m → m ≤ 2000 → dr m ≠ 1 := by
  intro m h1 h2
  by_cases c0 : m ≤ 40
  · exact ck_dr 40 0 (by rw [dv_0]; exact dk_0.1) m (by omega) (by omega)
  by_cases c1 : m ≤ 80
  · exact ck_dr 40 40 (by rw [dv_1]; exact dk_1.1) m (by omega) (by omega)
  by_cases c2 : m ≤ 120
  · exact ck_dr 40 80 (by rw [dv_2]; exact dk_2.1) m (by omega) (by omega)
  by_cases c3 : m ≤ 160
  · exact ck_dr 40 120 (by rw [dv_3]; exact dk_3.1) m (by omega) (by omega)
  by_cases c4 : m ≤ 200
  · exact ck_dr 40 160 (by rw [dv_4]; exact dk_4.1) m (by omega) (by omega)
  by_cases c5 : m ≤ 240
  · exact ck_dr 40 200 (by rw [dv_5]; exact dk_5.1) m (by omega) (by omega)
  by_cases c6 : m ≤ 280
  · exact ck_dr 40 240 (by rw [dv_6]; exact dk_6.1) m (by omega) (by omega)
  by_cases c7 : m ≤ 320
  · exact ck_dr 40 280 (by rw [dv_7]; exact dk_7.1) m (by omega) (by omega)
  by_cases c8 : m ≤ 360
  · exact ck_dr 40 320 (by rw [dv_8]; exact dk_8.1) m (by omega) (by omega)
  by_cases c9 : m ≤ 400
  · exact ck_dr 40 360 (by rw [dv_9]; exact dk_9.1) m (by omega) (by omega)
  by_cases c10 : m ≤ 440
  · exact ck_dr 40 400 (by rw [dv_10]; exact dk_10.1) m (by omega) (by omega)
  by_cases c11 : m ≤ 480
  · exact ck_dr 40 440 (by rw [dv_11]; exact dk_11.1) m (by omega) (by omega)
  by_cases c12 : m ≤ 520
  · exact ck_dr 40 480 (by rw [dv_12]; exact dk_12.1) m (by omega) (by omega)
  by_cases c13 : m ≤ 560
  · exact ck_dr 40 520 (by rw [dv_13]; exact dk_13.1) m (by omega) (by omega)
  by_cases c14 : m ≤ 600
  · exact ck_dr 40 560 (by rw [dv_14]; exact dk_14.1) m (by omega) (by omega)
  by_cases c15 : m ≤ 640
  · exact ck_dr 40 600 (by rw [dv_15]; exact dk_15.1) m (by omega) (by omega)
  by_cases c16 : m ≤ 680
  · exact ck_dr 40 640 (by rw [dv_16]; exact dk_16.1) m (by omega) (by omega)
  by_cases c17 : m ≤ 720
  · exact ck_dr 40 680 (by rw [dv_17]; exact dk_17.1) m (by omega) (by omega)
  by_cases c18 : m ≤ 760
  · exact ck_dr 40 720 (by rw [dv_18]; exact dk_18.1) m (by omega) (by omega)
  by_cases c19 : m ≤ 800
  · exact ck_dr 40 760 (by rw [dv_19]; exact dk_19.1) m (by omega) (by omega)
  by_cases c20 : m ≤ 840
  · exact ck_dr 40 800 (by rw [dv_20]; exact dk_20.1) m (by omega) (by omega)
  by_cases c21 : m ≤ 880
  · exact ck_dr 40 840 (by rw [dv_21]; exact dk_21.1) m (by omega) (by omega)
  by_cases c22 : m ≤ 920
  · exact ck_dr 40 880 (by rw [dv_22]; exact dk_22.1) m (by omega) (by omega)
  by_cases c23 : m ≤ 960
  · exact ck_dr 40 920 (by rw [dv_23]; exact dk_23.1) m (by omega) (by omega)
  by_cases c24 : m ≤ 1000
  · exact ck_dr 40 960 (by rw [dv_24]; exact dk_24.1) m (by omega) (by omega)
  by_cases c25 : m ≤ 1040
  · exact ck_dr 40 1000 (by rw [dv_25]; exact dk_25.1) m (by omega) (by omega)
  by_cases c26 : m ≤ 1080
  · exact ck_dr 40 1040 (by rw [dv_26]; exact dk_26.1) m (by omega) (by omega)
  by_cases c27 : m ≤ 1120
  · exact ck_dr 40 1080 (by rw [dv_27]; exact dk_27.1) m (by omega) (by omega)
  by_cases c28 : m ≤ 1160
  · exact ck_dr 40 1120 (by rw [dv_28]; exact dk_28.1) m (by omega) (by omega)
  by_cases c29 : m ≤ 1200
  · exact ck_dr 40 1160 (by rw [dv_29]; exact dk_29.1) m (by omega) (by omega)
  by_cases c30 : m ≤ 1240
  · exact ck_dr 40 1200 (by rw [dv_30]; exact dk_30.1) m (by omega) (by omega)
  by_cases c31 : m ≤ 1280
  · exact ck_dr 40 1240 (by rw [dv_31]; exact dk_31.1) m (by omega) (by omega)
  by_cases c32 : m ≤ 1320
  · exact ck_dr 40 1280 (by rw [dv_32]; exact dk_32.1) m (by omega) (by omega)
  by_cases c33 : m ≤ 1360
  · exact ck_dr 40 1320 (by rw [dv_33]; exact dk_33.1) m (by omega) (by omega)
  by_cases c34 : m ≤ 1400
  · exact ck_dr 40 1360 (by rw [dv_34]; exact dk_34.1) m (by omega) (by omega)
  by_cases c35 : m ≤ 1440
  · exact ck_dr 40 1400 (by rw [dv_35]; exact dk_35.1) m (by omega) (by omega)
  by_cases c36 : m ≤ 1480
  · exact ck_dr 40 1440 (by rw [dv_36]; exact dk_36.1) m (by omega) (by omega)
  by_cases c37 : m ≤ 1520
  · exact ck_dr 40 1480 (by rw [dv_37]; exact dk_37.1) m (by omega) (by omega)
  by_cases c38 : m ≤ 1560
  · exact ck_dr 40 1520 (by rw [dv_38]; exact dk_38.1) m (by omega) (by omega)
  by_cases c39 : m ≤ 1600
  · exact ck_dr 40 1560 (by rw [dv_39]; exact dk_39.1) m (by omega) (by omega)
  by_cases c40 : m ≤ 1640
  · exact ck_dr 40 1600 (by rw [dv_40]; exact dk_40.1) m (by omega) (by omega)
  by_cases c41 : m ≤ 1680
  · exact ck_dr 40 1640 (by rw [dv_41]; exact dk_41.1) m (by omega) (by omega)
  by_cases c42 : m ≤ 1720
  · exact ck_dr 40 1680 (by rw [dv_42]; exact dk_42.1) m (by omega) (by omega)
  by_cases c43 : m ≤ 1760
  · exact ck_dr 40 1720 (by rw [dv_43]; exact dk_43.1) m (by omega) (by omega)
  by_cases c44 : m ≤ 1800
  · exact ck_dr 40 1760 (by rw [dv_44]; exact dk_44.1) m (by omega) (by omega)
  by_cases c45 : m ≤ 1840
  · exact ck_dr 40 1800 (by rw [dv_45]; exact dk_45.1) m (by omega) (by omega)
  by_cases c46 : m ≤ 1880
  · exact ck_dr 40 1840 (by rw [dv_46]; exact dk_46.1) m (by omega) (by omega)
  by_cases c47 : m ≤ 1920
  · exact ck_dr 40 1880 (by rw [dv_47]; exact dk_47.1) m (by omega) (by omega)
  by_cases c48 : m ≤ 1960
  · exact ck_dr 40 1920 (by rw [dv_48]; exact dk_48.1) m (by omega) (by omega)
  by_cases c49 : m ≤ 2000
  · exact ck_dr 40 1960 (by rw [dv_49]; exact dk_49.1) m (by omega) (by omega)
  omega
theorem dr_lt : ∀ i j, dr i = dr j → i ≤ j → j - i ≤ 2000 → i = j
  | 0, j, h, _, hj => by
    by_cases e : j = 0
    · exact e.symm
    · exact absurd h.symm (dr_ne j (by omega) (by omega))
  | i + 1, 0, _, h, _ => by omega
  | i + 1, j + 1, h, hij, hj => by
    have := dr_lt i j (drw_inj h) (by omega) (by omega)
    omega
theorem dr_inj {i j : Nat} (hi : i ≤ 2000) (hj : j ≤ 2000) (h : dr i = dr j) : i = j := by
  by_cases c : i ≤ j
  · exact dr_lt i j h c (by omega)
  · exact (dr_lt j i h.symm (by omega) (by omega)).symm
end
/-! from 98d.packets -/
section
/-! WHAT IS KNOWN OF THE REFERENCE: its packets -/
def sm (f : Nat → Nat) : Nat → Nat → Nat
  | _, 0 => 0
  | i, c + 1 => f i + sm f (i + 1) c
theorem sm_congr {f f' : Nat → Nat} : ∀ (c i : Nat), (∀ j, i ≤ j → j < i + c → f' j = f j) → sm f' i c = sm f i c
  | 0, i, _ => rfl
  | c + 1, i, h => by
    show f' i + sm f' (i + 1) c = f i + sm f (i + 1) c
    rw [h i (Nat.le_refl i) (by omega), sm_congr c (i + 1) (fun j h1 h2 => h j (by omega) (by omega))]
theorem sm_upd {f f' : Nat → Nat} {p : Nat} : ∀ (c i : Nat), i ≤ p → p < i + c → (∀ j, i ≤ j → j < i + c → j ≠ p → f' j = f j) → sm f' i c + f p = sm f i c + f' p
  | 0, i, h1, h2, _ => by omega
  | c + 1, i, h1, h2, h => by
    show f' i + sm f' (i + 1) c + f p = f i + sm f (i + 1) c + f' p
    by_cases e : p = i
    · rw [e, sm_congr (f := f) (f' := f') c (i + 1) (fun j g1 g2 => h j (by omega) (by omega) (by omega))]
      omega
    · have := sm_upd (f := f) (f' := f') (p := p) c (i + 1) (by omega) (by omega) (fun j g1 g2 g3 => h j (by omega) (by omega) g3)
      rw [h i (Nat.le_refl i) (by omega) (fun z => e z.symm)]
      omega
theorem sm_snoc {f : Nat → Nat} : ∀ (c i : Nat), sm f i (c + 1) = sm f i c + f (i + c)
  | 0, i => by show f i + 0 = 0 + f i; omega
  | c + 1, i => by
    show f i + sm f (i + 1) (c + 1) = f i + sm f (i + 1) c + f (i + (c + 1))
    rw [sm_snoc c (i + 1), show i + 1 + c = i + (c + 1) by omega]
    omega
theorem sm_le {f : Nat → Nat} {B : Nat} : ∀ (c i : Nat), (∀ j, i ≤ j → j < i + c → f j ≤ B) → sm f i c ≤ B * c
  | 0, i, _ => Nat.zero_le _
  | c + 1, i, h => by
    show f i + sm f (i + 1) c ≤ B * (c + 1)
    have h1 := h i (Nat.le_refl i) (by omega)
    have h2 := sm_le (f := f) (B := B) c (i + 1) (fun j g1 g2 => h j (by omega) (by omega))
    rw [Nat.mul_succ]
    omega
/-- how many REFERRALS, as a number -/
def stp_ (ms : MS) (i : Nat) : Nat := (ms.2.1 34 i).toNatClampNeg
def wt1 (ms : MS) (i : Nat) : Nat := if ms.2.1 31 i = 0 then 1 else 0
def wtC (ms : MS) (np : Nat) : Nat := sm (wt1 ms) 1 np
def stC (ms : MS) (np : Nat) : Nat := sm (fun i => 1 + stp_ ms i) 1 np
/-- what the packets may still bring about -/
def phP (ms : MS) (np : Nat) : Nat := sm (fun i => 3 * (9 - stp_ ms i)) 1 np
def GF (ms : MS) (np M : Nat) : Prop := np ≤ 200 ∧ ms.1 28 = nI np ∧ (∀ i, np < i → i ≤ 200 → ms.2.1 31 i = 0 ∧ ms.2.1 32 i = 0 ∧ ms.2.1 34 i = 0 ∧ ms.2.1 35 i = 0) ∧ (∀ i, 1 ≤ i → i ≤ np → ∃ k, k ≤ 9 ∧ ms.2.1 34 i = nI k ∧ (ms.2.1 31 i = 0 → k ≤ 8)) ∧ (∃ (d : Nat) (D : Nat → Nat), ms.1 2 = dr d ∧ d ≤ stC ms np ∧ (∀ i, 1 ≤ i → i ≤ np → ms.2.1 31 i = 0 → 1 ≤ D i ∧ D i ≤ d ∧ ms.2.1 32 i = dr (D i)) ∧ ∀ i j, 1 ≤ i → i ≤ np → 1 ≤ j → j ≤ np → ms.2.1 31 i = 0 → ms.2.1 31 j = 0 → D i = D j → i = j) ∧ M + wtC ms np ≤ np
section PKT
variable {ms ms' : MS} {np M : Nat}
theorem stp_nI {i k : Nat} (h : ms.2.1 34 i = nI k) (hk : k ≤ 9) : stp_ ms i = k := by unfold stp_; rw [h, nI_clamp (by omega)]
theorem GF.st_le (g : GF ms np M) : stC ms np ≤ 2000 := by
  obtain ⟨g1, -, -, g4, -⟩ := g
  have := sm_le (f := fun i => 1 + stp_ ms i) (B := 10) np 1 (fun j h1 h2 => by
    obtain ⟨k, k1, k2, -⟩ := g4 j h1 (by omega)
    show 1 + stp_ ms j ≤ 10
    rw [stp_nI k2 k1]
    omega)
  unfold stC
  omega
theorem GF.wn (g : GF ms np M) : WN ms np := by
  have hle := g.st_le
  obtain ⟨-, -, -, -, ⟨d, D, d1, d2, d3, d4⟩, -⟩ := g
  intro i j h1 h2 h3 h4 h5 h6 h7
  obtain ⟨a1, a2, a3⟩ := d3 i h1 h2 h5
  obtain ⟨b1, b2, b3⟩ := d3 j h3 h4 h6
  rw [a3, b3] at h7
  exact d4 i j h1 h2 h3 h4 h5 h6 (dr_inj (by omega) (by omega) h7)
theorem GF.s8 (g : GF ms np M) : ∀ i, i < np → ms.2.1 31 (i + 1) = 0 → ∃ k, k ≤ 8 ∧ ms.2.1 34 (i + 1) = nI k := fun i hi h => by
  obtain ⟨k, -, k2, k3⟩ := g.2.2.2.1 (i + 1) (by omega) (by omega)
  exact ⟨k, k3 h, k2⟩
theorem GF.M_le (g : GF ms np M) : M ≤ 200 := by have := g.2.2.2.2.2; have := g.1; omega
theorem GF.to (g : GF ms np M) (e1 : ms'.1 28 = ms.1 28) (e2 : ms'.1 2 = ms.1 2) (e : ∀ k j, k = 31 ∨ k = 32 ∨ k = 34 ∨ k = 35 → ms'.2.1 k j = ms.2.1 k j) : GF ms' np M := by
  obtain ⟨g1, g2, g3, g4, ⟨d, D, d1, d2, d3, d4⟩, g6⟩ := g
  have es : stC ms' np = stC ms np := sm_congr np 1 (fun j _ _ => by show 1 + stp_ ms' j = 1 + stp_ ms j; unfold stp_; rw [e 34 j (by omega)])
  have ew : wtC ms' np = wtC ms np := sm_congr np 1 (fun j _ _ => by unfold wt1; rw [e 31 j (by omega)])
  refine ⟨g1, by rw [e1]; exact g2, fun i h1 h2 => by rw [e 31 i (by omega), e 32 i (by omega), e 34 i (by omega), e 35 i (by omega)]; exact g3 i h1 h2, fun i h1 h2 => by rw [e 34 i (by omega), e 31 i (by omega)]; exact g4 i h1 h2, ⟨d, D, by rw [e2]; exact d1, by rw [es]; exact d2, fun i h1 h2 h3 => ?_, fun i j h1 h2 h3 h4 h5 h6 h7 => ?_⟩, by rw [ew]; exact g6⟩
  · rw [e 31 i (by omega)] at h3
    rw [e 32 i (by omega)]
    exact d3 i h1 h2 h3
  · rw [e 31 i (by omega)] at h5
    rw [e 31 j (by omega)] at h6
    exact d4 i j h1 h2 h3 h4 h5 h6 h7
/-- a packet waits no more, or never did -/
theorem GF.off (g : GF ms np M) {p : Nat} (hp1 : 1 ≤ p) (hp2 : p ≤ np) (e1 : ms'.1 28 = ms.1 28) (e2 : ms'.1 2 = ms.1 2) (e : ∀ k j, k = 31 ∨ k = 32 ∨ k = 34 ∨ k = 35 → j ≠ p → ms'.2.1 k j = ms.2.1 k j) (h31 : ¬ ms'.2.1 31 p = 0) (h34 : ∃ k, k ≤ 9 ∧ ms'.2.1 34 p = nI k ∧ stp_ ms p ≤ k) : GF ms' np M ∧ (ms.2.1 31 p = 0 → GF ms' np (M + 1)) := by
  obtain ⟨g1, g2, g3, g4, ⟨d, D, d1, d2, d3, d4⟩, g6⟩ := g
  obtain ⟨k, k1, k2, k3⟩ := h34
  have es : stC ms np ≤ stC ms' np := by
    have := sm_upd (f := fun i => 1 + stp_ ms i) (f' := fun i => 1 + stp_ ms' i) (p := p) np 1 hp1 (by omega) (fun j _ _ h => by show 1 + stp_ ms' j = 1 + stp_ ms j; unfold stp_; rw [e 34 j (by omega) h])
    have hk' : stp_ ms' p = k := stp_nI k2 k1
    have this' : stC ms' np + (1 + stp_ ms p) = stC ms np + (1 + stp_ ms' p) := this
    omega
  have ew : wtC ms' np + wt1 ms p = wtC ms np := by
    have := sm_upd (f := wt1 ms) (f' := wt1 ms') (p := p) np 1 hp1 (by omega) (fun j _ _ h => by unfold wt1; rw [e 31 j (by omega) h])
    have hz : wt1 ms' p = 0 := if_neg h31
    unfold wtC
    omega
  have rest : np ≤ 200 ∧ ms'.1 28 = nI np ∧ (∀ i, np < i → i ≤ 200 → ms'.2.1 31 i = 0 ∧ ms'.2.1 32 i = 0 ∧ ms'.2.1 34 i = 0 ∧ ms'.2.1 35 i = 0) ∧ (∀ i, 1 ≤ i → i ≤ np → ∃ k, k ≤ 9 ∧ ms'.2.1 34 i = nI k ∧ (ms'.2.1 31 i = 0 → k ≤ 8)) ∧ (∃ (d : Nat) (D : Nat → Nat), ms'.1 2 = dr d ∧ d ≤ stC ms' np ∧ (∀ i, 1 ≤ i → i ≤ np → ms'.2.1 31 i = 0 → 1 ≤ D i ∧ D i ≤ d ∧ ms'.2.1 32 i = dr (D i)) ∧ ∀ i j, 1 ≤ i → i ≤ np → 1 ≤ j → j ≤ np → ms'.2.1 31 i = 0 → ms'.2.1 31 j = 0 → D i = D j → i = j) := by
    have np' : ∀ i, ms'.2.1 31 i = 0 → i ≠ p := fun i h z => h31 (by rw [← z]; exact h)
    refine ⟨g1, by rw [e1]; exact g2, fun i h1 h2 => ?_, fun i h1 h2 => ?_, ⟨d, D, by rw [e2]; exact d1, by omega, fun i h1 h2 h3 => ?_, fun i j h1 h2 h3 h4 h5 h6 h7 => ?_⟩⟩
    · rw [e 31 i (by omega) (by omega), e 32 i (by omega) (by omega), e 34 i (by omega) (by omega), e 35 i (by omega) (by omega)]
      exact g3 i h1 h2
    · by_cases ei : i = p
      · rw [ei]; exact ⟨k, k1, k2, fun z => absurd z h31⟩
      · rw [e 34 i (by omega) ei, e 31 i (by omega) ei]; exact g4 i h1 h2
    · have ni := np' i h3
      rw [e 31 i (by omega) ni] at h3
      rw [e 32 i (by omega) ni]
      exact d3 i h1 h2 h3
    · have ni := np' i h5
      have nj := np' j h6
      rw [e 31 i (by omega) ni] at h5
      rw [e 31 j (by omega) nj] at h6
      exact d4 i j h1 h2 h3 h4 h5 h6 h7
  obtain ⟨q1, q2, q3, q4, q5⟩ := rest
  refine ⟨⟨q1, q2, q3, q4, q5, by omega⟩, fun h0 => ⟨q1, q2, q3, q4, q5, ?_⟩⟩
  have : wt1 ms p = 1 := if_pos h0
  omega
/-- a packet goes on to wait -/
theorem GF.again (g : GF ms np M) {p k : Nat} (hp1 : 1 ≤ p) (hp2 : p ≤ np) (h31 : ms.2.1 31 p = 0) (hk : ms.2.1 34 p = nI k) (hk8 : k + 1 ≤ 8) (e1 : ms'.1 28 = ms.1 28) (e2 : ms'.1 2 = drw (ms.1 2)) (e : ∀ k j, k = 31 ∨ k = 32 ∨ k = 34 ∨ k = 35 → j ≠ p → ms'.2.1 k j = ms.2.1 k j) (h31' : ms'.2.1 31 p = 0) (h32' : ms'.2.1 32 p = drw (ms.1 2)) (h34' : ms'.2.1 34 p = nI (k + 1)) : GF ms' np M := by
  obtain ⟨g1, g2, g3, g4, ⟨d, D, d1, d2, d3, d4⟩, g6⟩ := g
  have es : stC ms' np = stC ms np + 1 := by
    have := sm_upd (f := fun i => 1 + stp_ ms i) (f' := fun i => 1 + stp_ ms' i) (p := p) np 1 hp1 (by omega) (fun j _ _ h => by show 1 + stp_ ms' j = 1 + stp_ ms j; unfold stp_; rw [e 34 j (by omega) h])
    have q1 : stp_ ms' p = k + 1 := stp_nI h34' (by omega)
    have q2 : stp_ ms p = k := stp_nI hk (by omega)
    have this' : stC ms' np + (1 + stp_ ms p) = stC ms np + (1 + stp_ ms' p) := this
    omega
  have ew : wtC ms' np = wtC ms np := sm_congr np 1 (fun j _ _ => by
    unfold wt1
    by_cases ej : j = p
    · rw [ej, h31, h31']
    · rw [e 31 j (by omega) ej])
  have hold : ∀ i, 1 ≤ i → i ≤ np → ms'.2.1 31 i = 0 → ms.2.1 31 i = 0 := fun i _ _ h => by
    by_cases ei : i = p
    · rw [ei]; exact h31
    · rw [e 31 i (by omega) ei] at h; exact h
  refine ⟨g1, by rw [e1]; exact g2, fun i h1 h2 => ?_, fun i h1 h2 => ?_, ⟨d + 1, fun i => if i = p then d + 1 else D i, by rw [e2, d1]; rfl, by omega, fun i h1 h2 h3 => ?_, fun i j h1 h2 h3 h4 h5 h6 h7 => ?_⟩, by rw [ew]; exact g6⟩
  · rw [e 31 i (by omega) (by omega), e 32 i (by omega) (by omega), e 34 i (by omega) (by omega), e 35 i (by omega) (by omega)]
    exact g3 i h1 h2
  · by_cases ei : i = p
    · rw [ei]; exact ⟨k + 1, by omega, h34', fun _ => hk8⟩
    · rw [e 34 i (by omega) ei, e 31 i (by omega) ei]; exact g4 i h1 h2
  · show 1 ≤ (if i = p then d + 1 else D i) ∧ (if i = p then d + 1 else D i) ≤ d + 1 ∧ ms'.2.1 32 i = dr (if i = p then d + 1 else D i)
    by_cases ei : i = p
    · rw [if_pos ei, ei, h32', d1]
      exact ⟨by omega, by omega, rfl⟩
    · rw [if_neg ei, e 32 i (by omega) ei]
      obtain ⟨q1, q2, q3⟩ := d3 i h1 h2 (hold i h1 h2 h3)
      exact ⟨q1, by omega, q3⟩
  · have a := hold i h1 h2 h5
    have b := hold j h3 h4 h6
    have h7' : (if i = p then d + 1 else D i) = (if j = p then d + 1 else D j) := h7
    by_cases ei : i = p
    · by_cases ej : j = p
      · rw [ei, ej]
      · rw [if_pos ei, if_neg ej] at h7'
        have := (d3 j h3 h4 b).2.1
        omega
    · by_cases ej : j = p
      · rw [if_neg ei, if_pos ej] at h7'
        have := (d3 i h1 h2 a).2.1
        omega
      · rw [if_neg ei, if_neg ej] at h7'
        exact d4 i j h1 h2 h3 h4 a b h7'
/-- a packet comes -/
theorem GF.new (g : GF ms np M) (hlt : np < 200) (e1 : ms'.1 28 = nI (np + 1)) (e : ∀ k j, k = 31 ∨ k = 32 ∨ k = 34 ∨ k = 35 → j ≠ np + 1 → ms'.2.1 k j = ms.2.1 k j) (h34 : ms'.2.1 34 (np + 1) = 0) (hc : (¬ ms'.2.1 31 (np + 1) = 0 ∧ ms'.1 2 = ms.1 2) ∨ (ms'.2.1 31 (np + 1) = 0 ∧ ms'.1 2 = drw (ms.1 2) ∧ ms'.2.1 32 (np + 1) = drw (ms.1 2))) : GF ms' (np + 1) M := by
  obtain ⟨g1, g2, g3, g4, ⟨d, D, d1, d2, d3, d4⟩, g6⟩ := g
  have es : stC ms' (np + 1) = stC ms np + 1 := by
    show sm (fun i => 1 + stp_ ms' i) 1 (np + 1) = _
    rw [sm_snoc, sm_congr (f := fun i => 1 + stp_ ms i) (f' := fun i => 1 + stp_ ms' i) np 1 (fun j h1 h2 => by show 1 + stp_ ms' j = 1 + stp_ ms j; unfold stp_; rw [e 34 j (by omega) (by omega)])]
    have : stp_ ms' (1 + np) = 0 := by rw [show 1 + np = np + 1 by omega]; exact stp_nI (k := 0) h34 (by omega)
    show stC ms np + (1 + stp_ ms' (1 + np)) = _
    omega
  have ew : wtC ms' (np + 1) = wtC ms np + wt1 ms' (np + 1) := by
    show sm (wt1 ms') 1 (np + 1) = _
    rw [sm_snoc, sm_congr (f := wt1 ms) (f' := wt1 ms') np 1 (fun j h1 h2 => by unfold wt1; rw [e 31 j (by omega) (by omega)]), show 1 + np = np + 1 by omega]
    rfl
  have hw1 : wt1 ms' (np + 1) ≤ 1 := by unfold wt1; split <;> omega
  refine ⟨by omega, e1, fun i h1 h2 => ?_, fun i h1 h2 => ?_, ?_, by omega⟩
  · rw [e 31 i (by omega) (by omega), e 32 i (by omega) (by omega), e 34 i (by omega) (by omega), e 35 i (by omega) (by omega)]
    exact g3 i (by omega) h2
  · by_cases ei : i = np + 1
    · rw [ei]; exact ⟨0, by omega, h34, fun _ => by omega⟩
    · rw [e 34 i (by omega) ei, e 31 i (by omega) ei]; exact g4 i h1 (by omega)
  · rcases hc with ⟨c1, c2⟩ | ⟨c1, c2, c3⟩
    · have hold : ∀ i, i ≤ np + 1 → ms'.2.1 31 i = 0 → i ≤ np ∧ ms.2.1 31 i = 0 := fun i hi h => by
        by_cases ei : i = np + 1
        · rw [ei] at h; exact absurd h c1
        · rw [e 31 i (by omega) ei] at h; exact ⟨by omega, h⟩
      refine ⟨d, D, by rw [c2]; exact d1, by omega, fun i h1 h2 h3 => ?_, fun i j h1 h2 h3 h4 h5 h6 h7 => ?_⟩
      · obtain ⟨q1, q2⟩ := hold i h2 h3
        rw [e 32 i (by omega) (by omega)]
        exact d3 i h1 q1 q2
      · obtain ⟨q1, q2⟩ := hold i h2 h5
        obtain ⟨q3, q4⟩ := hold j h4 h6
        exact d4 i j h1 q1 h3 q3 q2 q4 h7
    · have hold : ∀ i, i ≤ np + 1 → i ≠ np + 1 → ms'.2.1 31 i = 0 → i ≤ np ∧ ms.2.1 31 i = 0 := fun i hi ei h => by
        rw [e 31 i (by omega) ei] at h
        exact ⟨by omega, h⟩
      refine ⟨d + 1, fun i => if i = np + 1 then d + 1 else D i, by rw [c2, d1]; rfl, by omega, fun i h1 h2 h3 => ?_, fun i j h1 h2 h3 h4 h5 h6 h7 => ?_⟩
      · show 1 ≤ (if i = np + 1 then d + 1 else D i) ∧ (if i = np + 1 then d + 1 else D i) ≤ d + 1 ∧ ms'.2.1 32 i = dr (if i = np + 1 then d + 1 else D i)
        by_cases ei : i = np + 1
        · rw [if_pos ei, ei, c3, d1]
          exact ⟨by omega, by omega, rfl⟩
        · obtain ⟨q1, q2⟩ := hold i h2 ei h3
          rw [if_neg ei, e 32 i (by omega) ei]
          obtain ⟨r1, r2, r3⟩ := d3 i h1 q1 q2
          exact ⟨r1, by omega, r3⟩
      · have h7' : (if i = np + 1 then d + 1 else D i) = (if j = np + 1 then d + 1 else D j) := h7
        by_cases ei : i = np + 1
        · by_cases ej : j = np + 1
          · rw [ei, ej]
          · obtain ⟨q3, q4⟩ := hold j h4 ej h6
            rw [if_pos ei, if_neg ej] at h7'
            have := (d3 j h3 q3 q4).2.1
            omega
        · obtain ⟨q1, q2⟩ := hold i h2 ei h5
          by_cases ej : j = np + 1
          · rw [if_neg ei, if_pos ej] at h7'
            have := (d3 i h1 q1 q2).2.1
            omega
          · obtain ⟨q3, q4⟩ := hold j h4 ej h6
            rw [if_neg ei, if_neg ej] at h7'
            exact d4 i j h1 q1 h3 q3 q2 q4 h7'
end PKT
end
/-! from 98e.groups -/
section
/-! WHAT IS KNOWN OF THE REFERENCE: entries, sites, notes, the row -/
def GB (ms : MS) : Prop := (∀ k, k < 128 → Ln (ms.2.1 8 k)) ∧ (∀ i, i < 8 → UE ms i) ∧ ∀ i, i < 8 → ms.2.1 3 i = 0 → (∀ k, 16 * i ≤ k → k < 16 * i + 16 → liveE ms k = false) ∧ ∀ s, s < 8 → ms.2.2 (8 * i + s) = -3000000000
def GC (ms : MS) : Prop := (∀ s, s < 8 → ∃ c : Nat, ms.2.1 15 s = nI c ∧ c ≤ 4) ∧ (∀ k, k < 32 → Ln (ms.2.1 17 k)) ∧ (∀ s, s < 8 → ms.2.1 14 s = -1 ∨ ∃ p, p < 16 ∧ ms.2.1 14 s = nI p) ∧ ∀ s, s < 8 → ms.2.1 14 s = -1 → ms.2.1 15 s = 0 ∧ ms.2.1 18 s = 0
def GE (ms : MS) : Prop := ∀ p, p < 16 → ms.2.1 26 p = -1 ∨ ∃ w, w < 8 ∧ ms.2.1 26 p = nI w ∧ ¬ ms.2.1 14 w = -1
def GD (ms : MS) (M t : Nat) : Prop := (∀ k, k < 48 → Ln (ms.2.1 20 k)) ∧ ms.1 25 = nI M ∧ (∀ s, s < 8 → DN ms s) ∧ (∀ s, s < 8 → ∀ k k', 6 * s ≤ k → k < 6 * s + 6 → 6 * s ≤ k' → k' < 6 * s + 6 → liveN ms k = true → liveN ms k' = true → ms.2.1 24 k < ms.2.1 24 k' → ms.2.1 23 k ≤ ms.2.1 23 k') ∧ (∀ k, k < 48 → liveN ms k = true → (∃ m, m ≤ M ∧ ms.2.1 24 k = nI m) ∧ (∃ e, e ≤ t + 60 ∧ ms.2.1 23 k = nI e) ∧ (ms.2.1 21 k = -1 ∨ ∃ pl, pl < 16 ∧ ms.2.1 21 k = nI pl)) ∧ ∀ s, s < 8 → ms.2.1 14 s = -1 → ∀ k, 6 * s ≤ k → k < 6 * s + 6 → liveN ms k = false
def kOk (kd to : Int32) : Prop := (kd = 0 ∨ kd = 1 ∨ kd = 2 ∨ kd = 3 ∨ kd = 4) ∧ (kd = 3 → ∃ pl, pl < 16 ∧ to = nI pl)
def GG (ms : MS) (n : Nat) : Prop := n ≤ 200 ∧ ms.1 36 = nI n ∧ ∀ q, q < n → kOk (ms.2.1 37 (8 * q + 6)) (ms.2.1 37 (8 * q + 7))
/-- what a message may still bring about -/
def phi (k : Int32) : Nat := if k = 0 then 2 else if k = 1 then 3 else if k = 2 then 2 else 0
def phM (ms : MS) (n : Nat) : Nat := sm (fun q => phi (ms.2.1 37 (8 * q + 6))) 0 n
section GRP
variable {ms ms' : MS} {n np M t : Nat}
theorem GB.sub (g : GB ms) (eL8 : ∀ k, k < 128 → ms'.2.1 8 k = ms.2.1 8 k) (e7 : ∀ k, k < 128 → ms'.2.1 7 k = ms.2.1 7 k) (el : ∀ k, k < 128 → liveE ms' k = true → liveE ms k = true) (e3 : ∀ i, i < 8 → ms'.2.1 3 i = 0 → ms.2.1 3 i = 0) (eL : ms'.2.2 = ms.2.2) : GB ms' := by
  obtain ⟨g1, g2, g3⟩ := g
  refine ⟨fun k hk => by rw [eL8 k hk]; exact g1 k hk, fun i hi k k' h1 h2 h3 h4 l1 l2 q1 q2 => ?_, fun i hi h => ⟨fun k h1 h2 => ?_, fun s hs => by rw [eL]; exact (g3 i hi (e3 i hi h)).2 s hs⟩⟩
  · rw [e7 k (by omega), e7 k' (by omega)] at q1
    rw [eL8 k (by omega), eL8 k' (by omega)] at q2
    exact g2 i hi k k' h1 h2 h3 h4 (el k (by omega) l1) (el k' (by omega) l2) q1 q2
  · have := (g3 i hi (e3 i hi h)).1 k h1 h2
    exact bool_f (fun z => by rw [el k (by omega) z] at this; cases this)
theorem GB.to (g : GB ms) (e1 : ms'.1 1 = ms.1 1) (e : ∀ k j, 3 ≤ k → k ≤ 12 → ms'.2.1 k j = ms.2.1 k j) (eL : ms'.2.2 = ms.2.2) : GB ms' := g.sub (fun k _ => e 8 k (by omega) (by omega)) (fun k _ => e 7 k (by omega) (by omega)) (fun k _ h => by unfold liveE at h ⊢; rw [e1, e 12 k (by omega) (by omega)] at h; exact h) (fun i _ h => by rw [e 3 i (by omega) (by omega)] at h; exact h) eL
theorem GC.to (g : GC ms) (e : ∀ k j, 14 ≤ k → k ≤ 18 → ms'.2.1 k j = ms.2.1 k j) : GC ms' := by
  obtain ⟨g1, g2, g3, g4⟩ := g
  refine ⟨fun s hs => by rw [e 15 s (by omega) (by omega)]; exact g1 s hs, fun k hk => by rw [e 17 k (by omega) (by omega)]; exact g2 k hk, fun s hs => by rw [e 14 s (by omega) (by omega)]; exact g3 s hs, fun s hs h => ?_⟩
  rw [e 14 s (by omega) (by omega)] at h
  rw [e 15 s (by omega) (by omega), e 18 s (by omega) (by omega)]
  exact g4 s hs h
theorem GE.to (g : GE ms) (e1 : ∀ j, ms'.2.1 26 j = ms.2.1 26 j) (e2 : ∀ w, w < 8 → ¬ ms.2.1 14 w = -1 → ¬ ms'.2.1 14 w = -1) : GE ms' := fun p hp => by
  rw [e1]
  rcases g p hp with h | ⟨w, h1, h2, h3⟩
  · exact Or.inl h
  · exact Or.inr ⟨w, h1, h2, e2 w h1 h3⟩
theorem GD.sub {t' : Nat} (g : GD ms M t) (htt : t ≤ t') (e25 : ms'.1 25 = ms.1 25) (e : ∀ k j, k = 19 ∨ k = 20 ∨ k = 21 ∨ k = 24 → ms'.2.1 k j = ms.2.1 k j) (el : ∀ k, k < 48 → liveN ms' k = true → liveN ms k = true ∧ ms'.2.1 23 k = ms.2.1 23 k) (e14 : ∀ s, s < 8 → ms'.2.1 14 s = -1 → ms.2.1 14 s = -1) : GD ms' M t' := by
  obtain ⟨g1, g2, g3, g4, g5, g6⟩ := g
  refine ⟨fun k hk => by rw [e 20 k (by omega)]; exact g1 k hk, by rw [e25]; exact g2, fun s hs k k' h1 h2 h3 h4 l1 l2 hne => ?_, fun s hs k k' h1 h2 h3 h4 l1 l2 hlt => ?_, fun k hk l => ?_, fun s hs h k h1 h2 => ?_⟩
  · rw [e 19 k (by omega), e 20 k (by omega), e 19 k' (by omega), e 20 k' (by omega)]
    exact g3 s hs k k' h1 h2 h3 h4 (el k (by omega) l1).1 (el k' (by omega) l2).1 hne
  · rw [(el k (by omega) l1).2, (el k' (by omega) l2).2]
    rw [e 24 k (by omega), e 24 k' (by omega)] at hlt
    exact g4 s hs k k' h1 h2 h3 h4 (el k (by omega) l1).1 (el k' (by omega) l2).1 hlt
  · obtain ⟨q1, ⟨e', q2, q3⟩, q4⟩ := g5 k hk (el k hk l).1
    rw [e 24 k (by omega), (el k hk l).2, e 21 k (by omega)]
    exact ⟨q1, ⟨e', by omega, q3⟩, q4⟩
  · have := g6 s hs (e14 s hs h) k h1 h2
    exact bool_f (fun z => by rw [(el k (by omega) z).1] at this; cases this)
theorem GD.to (g : GD ms M t) (e1 : ms'.1 1 = ms.1 1) (e25 : ms'.1 25 = ms.1 25) (e : ∀ k j, 19 ≤ k → k ≤ 24 → ms'.2.1 k j = ms.2.1 k j) (e14 : ∀ s, s < 8 → ms'.2.1 14 s = -1 → ms.2.1 14 s = -1) : GD ms' M t := g.sub (Nat.le_refl t) e25 (fun k j h => e k j (by omega) (by omega)) (fun k _ h => ⟨by unfold liveN at h ⊢; rw [e1, e 23 k (by omega) (by omega)] at h; exact h, e 23 k (by omega) (by omega)⟩) e14
theorem GD.on (g : GD ms M t) (hM : M ≤ 200) {s : Nat} (hs : s < 8) : ON ms s ∧ DN ms s := by
  obtain ⟨g1, g2, g3, g4, g5, g6⟩ := g
  exact ⟨⟨g4 s hs, M, hM, g2, fun k h1 h2 l => (g5 k (by omega) l).1⟩, g3 s hs⟩
theorem GG.to (g : GG ms n) (e1 : ms'.1 36 = ms.1 36) (e : ∀ j, ms'.2.1 37 j = ms.2.1 37 j) : GG ms' n := ⟨g.1, by rw [e1]; exact g.2.1, fun q hq => by rw [e, e]; exact g.2.2 q hq⟩
theorem GG.post (g : GG ms n) {f : Nat → Int32} (h : kOk (f 6) (f 7)) : GG (postM ms n f) (postN n) := by
  refine ⟨postN_le g.1, postM_36 g.2.1, fun q hq => ?_⟩
  rw [postM_37 (show 6 < 8 by omega), postM_37 (show 7 < 8 by omega)]
  by_cases hc : n ≠ 200 ∧ q = n
  · rw [if_pos hc, if_pos hc]; exact h
  · rw [if_neg hc, if_neg hc]
    refine g.2.2 q ?_
    unfold postN at hq
    have := g.1
    by_cases h2 : n = 200
    · rw [if_pos h2] at hq; omega
    · rw [if_neg h2] at hq
      by_cases h3 : q = n
      · exact absurd ⟨h2, h3⟩ hc
      · omega
theorem GG.take (g : GG ms n) {k : Nat} (hk : k < n) : GG (takeM ms n k) (n - 1) := by
  refine ⟨by have := g.1; omega, takeM_36, fun q hq => ?_⟩
  rw [takeM_37 (show 6 < 8 by omega) hk, takeM_37 (show 7 < 8 by omega) hk]
  exact g.2.2 _ (by split <;> omega)
theorem ph_post {f : Nat → Int32} (hn : n ≤ 200) : phM (postM ms n f) (postN n) ≤ phM ms n + phi (f 6) := by
  unfold postN
  by_cases h : n = 200
  · rw [if_pos h]
    have : phM (postM ms n f) 200 = phM ms n := by
      rw [h]
      exact sm_congr 200 0 (fun j _ _ => by rw [postM_37 (show 6 < 8 by omega), if_neg (fun z => z.1 rfl)])
    omega
  · rw [if_neg h]
    show sm _ 0 (n + 1) ≤ _
    rw [sm_snoc, Nat.zero_add]
    have e1 : sm (fun q => phi ((postM ms n f).2.1 37 (8 * q + 6))) 0 n = phM ms n := sm_congr n 0 (fun j _ hj => by rw [postM_37 (show 6 < 8 by omega), if_neg (fun z => by omega)])
    rw [e1, postM_37 (show 6 < 8 by omega), if_pos ⟨h, rfl⟩]
    exact Nat.le_refl _
theorem sm_shift {f : Nat → Nat} : ∀ (c i : Nat), sm (fun j => f (j + 1)) i c = sm f (i + 1) c
  | 0, i => rfl
  | c + 1, i => by
    show f (i + 1) + sm (fun j => f (j + 1)) (i + 1) c = f (i + 1) + sm f (i + 1 + 1) c
    rw [sm_shift c (i + 1)]
theorem sm_split {f : Nat → Nat} : ∀ (a b i : Nat), sm f i (a + b) = sm f i a + sm f (i + a) b
  | 0, b, i => by rw [Nat.zero_add]; show _ = 0 + sm f (i + 0) b; rw [Nat.zero_add, Nat.add_zero]
  | a + 1, b, i => by
    rw [show a + 1 + b = (a + b) + 1 by omega]
    show f i + sm f (i + 1) (a + b) = (f i + sm f (i + 1) a) + sm f (i + (a + 1)) b
    rw [sm_split a b (i + 1), show i + 1 + a = i + (a + 1) by omega]
    omega
theorem ph_take {k : Nat} (hk : k < n) : phM (takeM ms n k) (n - 1) + phi (ms.2.1 37 (8 * k + 6)) = phM ms n := by
  have e1 : phM (takeM ms n k) (n - 1) = sm (fun q => phi (ms.2.1 37 (8 * (if k ≤ q then q + 1 else q) + 6))) 0 (n - 1) := sm_congr (n - 1) 0 (fun j _ hj => by
    rw [takeM_37 (show 6 < 8 by omega) hk]
    by_cases h : k ≤ j
    · rw [if_pos ⟨h, by omega⟩, if_pos h]
    · rw [if_neg (fun z => h z.1), if_neg h])
  rw [e1, show n - 1 = k + (n - 1 - k) by omega, sm_split]
  have e2 : sm (fun q => phi (ms.2.1 37 (8 * (if k ≤ q then q + 1 else q) + 6))) 0 k = sm (fun q => phi (ms.2.1 37 (8 * q + 6))) 0 k := sm_congr k 0 (fun j _ hj => by rw [if_neg (by omega)])
  have e3 : sm (fun q => phi (ms.2.1 37 (8 * (if k ≤ q then q + 1 else q) + 6))) (0 + k) (n - 1 - k) = sm (fun q => phi (ms.2.1 37 (8 * q + 6))) (0 + k + 1) (n - 1 - k) := by
    rw [← sm_shift]
    exact sm_congr (n - 1 - k) (0 + k) (fun j hj _ => by rw [if_pos (by omega)])
  rw [e2, e3]
  show _ = sm (fun q => phi (ms.2.1 37 (8 * q + 6))) 0 n
  have e4 : sm (fun q => phi (ms.2.1 37 (8 * q + 6))) 0 n = sm (fun q => phi (ms.2.1 37 (8 * q + 6))) 0 (k + (1 + (n - 1 - k))) := by
    congr 1
    omega
  rw [e4, sm_split, sm_split 1 (n - 1 - k) (0 + k)]
  show _ = _ + ((phi (ms.2.1 37 (8 * (0 + k) + 6)) + 0) + _)
  rw [Nat.zero_add]
  omega
theorem phM_congr (e : ∀ j, ms'.2.1 37 j = ms.2.1 37 j) : phM ms' n = phM ms n := sm_congr n 0 (fun j _ _ => by rw [e])
theorem phP_congr (e : ∀ j, ms'.2.1 34 j = ms.2.1 34 j) : phP ms' np = phP ms np := sm_congr np 1 (fun j _ _ => by show 3 * (9 - stp_ ms' j) = 3 * (9 - stp_ ms j); unfold stp_; rw [e])
end GRP
/-- what is known of the reference -/
def RI (ms : MS) (n np M t : Nat) : Prop := (t ≤ 1000000 ∧ ms.1 1 = nI t) ∧ Tr ms ∧ GB ms ∧ GC ms ∧ GE ms ∧ GD ms M t ∧ GF ms np M ∧ GG ms n
def Phi (ms : MS) (n np : Nat) : Nat := phM ms n + phP ms np
section RIS
variable {ms ms' : MS} {n np M t : Nat}
theorem RI.mi (r : RI ms n np M t) : MI ms := by
  obtain ⟨-, Tt, b, c, e, d, f, g⟩ := r
  exact ⟨⟨n, g.1, g.2.1⟩, ⟨np, f.1, f.2.1⟩, Tt.2.1, b.1, c.2.1, d.1, c.1, c.2.2.1, fun p hp => by
    rcases e p hp with h | ⟨w, h1, h2, -⟩
    · exact Or.inl h
    · exact Or.inr ⟨w, h1, h2⟩⟩
theorem RI.ra (r : RI ms n np M t) (hk : kOk (ms.2.1 38 6) (ms.2.1 38 7)) : RA ms np := by
  obtain ⟨ti, Tt, b, c, e, d, f, g⟩ := r
  exact ⟨Tt, b.1, d.1, b.2.1, ⟨t, ti.1, ti.2⟩, fun s hs => d.on f.M_le hs, ⟨f.1, f.2.1, f.wn, f.s8⟩, e, hk.1, hk.2⟩
theorem RI.take (r : RI ms n np M t) {k : Nat} (hk : k < n) : RI (takeM ms n k) (n - 1) np M t ∧ kOk ((takeM ms n k).2.1 38 6) ((takeM ms n k).2.1 38 7) := by
  obtain ⟨ti, Tt, b, c, e, d, f, g⟩ := r
  have ek : ∀ q j, q ≠ 37 → q ≠ 38 → (takeM ms n k).2.1 q j = ms.2.1 q j := fun q j h1 h2 => takeM_k h1 h2
  have es : ∀ q, q ≠ 36 → (takeM ms n k).1 q = ms.1 q := fun q h => takeM_s h
  refine ⟨⟨⟨ti.1, by rw [es 1 (by decide)]; exact ti.2⟩, Tr_congr (fun q j h1 h2 => ek q j (by omega) (by omega)) Tt, b.to (es 1 (by decide)) (fun q j h1 h2 => ek q j (by omega) (by omega)) rfl, c.to (fun q j h1 h2 => ek q j (by omega) (by omega)), e.to (fun j => ek 26 j (by decide) (by decide)) (fun w _ h => by rw [ek 14 w (by decide) (by decide)]; exact h), d.to (es 1 (by decide)) (es 25 (by decide)) (fun q j h1 h2 => ek q j (by omega) (by omega)) (fun s _ h => by rw [ek 14 s (by decide) (by decide)] at h; exact h), f.to (es 28 (by decide)) (es 2 (by decide)) (fun q j h => ek q j (by omega) (by omega)), g.take hk⟩, ?_⟩
  rw [takeM_38 (show 6 < 8 by omega), takeM_38 (show 7 < 8 by omega)]
  exact g.2.2 k hk
/-- a message has come -/
theorem RI.post (r : RI ms n np M t) {f : Nat → Int32} (h : kOk (f 6) (f 7)) : RI (postM ms n f) (postN n) np M t := by
  obtain ⟨ti, Tt, b, c, e, d, ff', g⟩ := r
  have ek : ∀ q j, q ≠ 37 → (postM ms n f).2.1 q j = ms.2.1 q j := fun q j h1 => postM_k h1
  have es : ∀ q, q ≠ 36 → q ≠ 42 → (postM ms n f).1 q = ms.1 q := fun q h1 h2 => postM_s h1 h2
  exact ⟨⟨ti.1, by rw [es 1 (by decide) (by decide)]; exact ti.2⟩, Tr_congr (fun q j h1 h2 => ek q j (by omega)) Tt, b.to (es 1 (by decide) (by decide)) (fun q j h1 h2 => ek q j (by omega)) postM_L, c.to (fun q j h1 h2 => ek q j (by omega)), e.to (fun j => ek 26 j (by decide)) (fun w _ h => by rw [ek 14 w (by decide)]; exact h), d.to (es 1 (by decide) (by decide)) (es 25 (by decide) (by decide)) (fun q j h1 h2 => ek q j (by omega)) (fun s _ h => by rw [ek 14 s (by decide)] at h; exact h), ff'.to (es 28 (by decide) (by decide)) (es 2 (by decide) (by decide)) (fun q j h => ek q j (by omega)), g.post h⟩
/-- a plain number that nothing here speaks of -/
theorem RI.num (r : RI ms n np M t) (h2 : ms'.2 = ms.2) (h1 : ∀ k, k = 1 ∨ k = 2 ∨ k = 25 ∨ k = 28 ∨ k = 36 → ms'.1 k = ms.1 k) : RI ms' n np M t := by
  obtain ⟨ti, Tt, b, c, e, d, f, g⟩ := r
  have ek : ∀ q j, ms'.2.1 q j = ms.2.1 q j := fun q j => by rw [h2]
  exact ⟨⟨ti.1, by rw [h1 1 (by omega)]; exact ti.2⟩, Tr_congr (fun q j _ _ => ek q j) Tt, b.to (h1 1 (by omega)) (fun q j _ _ => ek q j) (by rw [h2]), c.to (fun q j _ _ => ek q j), e.to (fun j => ek 26 j) (fun w _ h => by rw [ek 14 w]; exact h), d.to (h1 1 (by omega)) (h1 25 (by omega)) (fun q j _ _ => ek q j) (fun s _ h => by rw [ek 14 s] at h; exact h), f.to (h1 28 (by omega)) (h1 2 (by omega)) (fun q j _ => ek q j), g.to (h1 36 (by omega)) (fun j => ek 37 j)⟩
end RIS
end
/-! from 98f.arrive -/
section
/-! WHAT IS KNOWN OF THE REFERENCE: a message comes -/
section ARV
variable {ms ms' : MS} {n np M t : Nat}
theorem RI.pk (r : RI ms n np M t) (g : GF ms' np M) (e1 : ∀ k, k = 1 ∨ k = 25 ∨ k = 36 → ms'.1 k = ms.1 k) (e : ∀ k j, k < 29 ∨ 35 < k → ms'.2.1 k j = ms.2.1 k j) (eL : ms'.2.2 = ms.2.2) : RI ms' n np M t := by
  obtain ⟨ti, Tt, b, c, e', d, -, gg⟩ := r
  exact ⟨⟨ti.1, by rw [e1 1 (by omega)]; exact ti.2⟩, Tr_congr (fun q j h1 h2 => e q j (by omega)) Tt, b.to (e1 1 (by omega)) (fun q j h1 h2 => e q j (by omega)) eL, c.to (fun q j h1 h2 => e q j (by omega)), e'.to (fun j => e 26 j (by omega)) (fun w _ h => by rw [e 14 w (by omega)]; exact h), d.to (e1 1 (by omega)) (e1 25 (by omega)) (fun q j h1 h2 => e q j (by omega)) (fun s _ h => by rw [e 14 s (by omega)] at h; exact h), g, gg.to (e1 36 (by omega)) (fun j => e 37 j (by omega))⟩
theorem GF.s9 (g : GF ms np M) {p : Nat} (h1 : 1 ≤ p) (h2 : p ≤ np) : ∃ k, k ≤ 9 ∧ ms.2.1 34 p = nI k ∧ stp_ ms p ≤ k := by
  obtain ⟨k, k1, k2, -⟩ := g.2.2.2.1 p h1 h2
  exact ⟨k, k1, k2, by rw [stp_nI k2 k1]; exact Nat.le_refl k⟩
theorem dlv_31 {i : Nat} {s : Int32} : (dlvM ms i s).2.1 31 i = 2 := by unfold dlvM; rw [aS_s]
theorem dlv_j {i : Nat} {s : Int32} {k j : Nat} (h : j ≠ i) : (dlvM ms i s).2.1 k j = ms.2.1 k j := by
  unfold dlvM
  rw [aS_j h, aS_j h]
  split
  · rw [aS_j h]
  · rfl
theorem dlv_L {i : Nat} {s : Int32} : (dlvM ms i s).2.2 = ms.2.2 := by unfold dlvM; split <;> rfl
theorem RI.dlv (r : RI ms n np M t) {p : Nat} {s : Int32} (h1 : 1 ≤ p) (h2 : p ≤ np) : RI (dlvM ms p s) n np M t ∧ Phi (dlvM ms p s) n np = Phi ms n np := by
  have g := r.2.2.2.2.2.2.1
  have e34 : ∀ j, (dlvM ms p s).2.1 34 j = ms.2.1 34 j := fun j => dlvM_k (by decide) (by decide) (by decide)
  refine ⟨r.pk (g.off h1 h2 (by rw [dlvM_1]) (by rw [dlvM_1]) (fun k j _ hj => dlv_j hj) (by rw [dlv_31]; decide) (by rw [e34]; exact g.s9 h1 h2)).1 (fun k _ => by rw [dlvM_1]) (fun k j h => dlvM_k (by omega) (by omega) (by omega)) dlv_L, ?_⟩
  unfold Phi
  rw [phM_congr (fun j => dlvM_k (by decide) (by decide) (by decide)), phP_congr e34]
theorem RI.los (r : RI ms n np M t) {p : Nat} (h1 : 1 ≤ p) (h2 : p ≤ np) : RI (losM ms p) n np M t ∧ Phi (losM ms p) n np = Phi ms n np := by
  have g := r.2.2.2.2.2.2.1
  unfold losM
  by_cases h : ms.2.1 31 p = 1
  · rw [if_pos h]
    have ek : ∀ k j, k ≠ 31 → (aS ms 31 p 4).2.1 k j = ms.2.1 k j := fun k j hk => aS_k hk
    refine ⟨r.pk (g.off (ms' := aS ms 31 p 4) h1 h2 rfl rfl (fun k j _ hj => aS_j hj) (by rw [aS_s]; decide) (by rw [ek _ _ (by decide)]; exact g.s9 h1 h2)).1 (fun k _ => rfl) (fun k j h => ek k j (by omega)) rfl, ?_⟩
    unfold Phi
    rw [phM_congr (fun j => ek _ j (by decide)), phP_congr (fun j => ek _ j (by decide))]
  · rw [if_neg h]
    exact ⟨r, rfl⟩
theorem Phi_post {f : Nat → Int32} (hn : n ≤ 200) : Phi (postM ms n f) (postN n) np ≤ Phi ms n np + phi (f 6) := by
  have h1 := ph_post (ms := ms) (f := f) hn
  have h2 : phP (postM ms n f) np = phP ms np := phP_congr (fun j => postM_k (by decide))
  unfold Phi
  omega
theorem RI.sol (r : RI ms n np M t) : RI (solM ms n) (postN n) np M t ∧ Phi (solM ms n) (postN n) np ≤ Phi ms n np := by
  unfold solM
  have r1 : RI (k_pI ms 41 (ms.1 41 + 1)) n np M t := r.num rfl (fun k hk => pI_n1 (by omega))
  refine ⟨r1.post ⟨Or.inr (Or.inr (Or.inr (Or.inr rfl))), fun h => absurd (show (4 : Int32) = 3 from h) (by decide)⟩, ?_⟩
  have := Phi_post (ms := k_pI ms 41 (ms.1 41 + 1)) (np := np) (f := mG (ms.2.1 38 2) (ms.2.1 38 7) 0 0 0 0 4 (ms.2.1 38 0)) r.2.2.2.2.2.2.2.1
  have e : Phi (k_pI ms 41 (ms.1 41 + 1)) n np = Phi ms n np := rfl
  have e4 : phi (mG (ms.2.1 38 2) (ms.2.1 38 7) 0 0 0 0 4 (ms.2.1 38 0) 6) = 0 := rfl
  omega
theorem RI.fol (r : RI ms n np M t) {p : Nat} {pl : Int32} (h1 : 1 ≤ p) (h2 : p ≤ np) (hpl : pl = -1 ∨ ∃ q, q < 16 ∧ pl = nI q) : ∃ n', RI (folM ms n p pl) n' np M t ∧ Phi (folM ms n p pl) n' np ≤ Phi ms n np := by
  have g := r.2.2.2.2.2.2.1
  have ek : ∀ (v : Int32) k j, k ≠ 31 → (aS ms 31 p v).2.1 k j = ms.2.1 k j := fun v k j hk => aS_k hk
  have one : ∀ v : Int32, ¬ v = 0 → RI (aS ms 31 p v) n np M t ∧ Phi (aS ms 31 p v) n np = Phi ms n np := fun v hv => by
    refine ⟨r.pk (g.off (ms' := aS ms 31 p v) h1 h2 rfl rfl (fun k j _ hj => aS_j hj) (by rw [aS_s]; exact hv) (by rw [ek _ _ _ (by decide)]; exact g.s9 h1 h2)).1 (fun k _ => rfl) (fun k j h => ek _ k j (by omega)) rfl, ?_⟩
    unfold Phi
    rw [phM_congr (fun j => ek _ _ j (by decide)), phP_congr (fun j => ek _ _ j (by decide))]
  unfold folM
  by_cases h : pl = -1
  · rw [if_pos h]
    obtain ⟨q1, q2⟩ := one 3 (by decide)
    exact ⟨n, q1, by omega⟩
  · rw [if_neg h]
    obtain ⟨q1, q2⟩ := one 1 (by decide)
    obtain ⟨q, q3, q4⟩ := hpl.resolve_left h
    refine ⟨postN n, q1.post ⟨Or.inr (Or.inr (Or.inr (Or.inl rfl))), fun _ => ⟨q, q3, q4⟩⟩, ?_⟩
    have := Phi_post (ms := aS ms 31 p 1) (np := np) (f := mG (ms.2.1 29 p) (nI p) (ms.2.1 30 p) 0 0 0 3 pl) r.2.2.2.2.2.2.2.1
    have e3 : phi (mG (ms.2.1 29 p) (nI p) (ms.2.1 30 p) 0 0 0 3 pl 6) = 0 := rfl
    omega
theorem RI.came (r : RI ms n np M t) {pl : Nat} (hpl : pl < 16) : ∃ n', RI (cameM ms n pl) n' np M t ∧ Phi (cameM ms n pl) n' np ≤ Phi ms n np := by
  unfold cameM
  by_cases hc : (siteB ms (ms.2.1 38 0) && decide (1 ≤ ms.2.1 38 1 ∧ ms.2.1 38 1 ≤ ms.1 28)) = true
  · rw [if_pos hc]
    have g := of_decide_eq_true ((Bool.and_eq_true _ _).mp hc).2
    have gF := r.2.2.2.2.2.2.1
    rw [gF.2.1] at g
    obtain ⟨p, hp1, hp2⟩ := nI_of2 (M := nI np) (n := np) (nI_toInt (by have := gF.1; omega)) (fun z => absurd (Int32.lt_of_le_of_lt g.1 z) (by decide)) g.2
    have hpos : 1 ≤ p := Nat.pos_of_ne_zero (fun z => by rw [hp2, z] at g; exact absurd g.1 (by decide))
    have hcl : (ms.2.1 38 1).toNatClampNeg = p := by rw [hp2, nI_clamp (by have := gF.1; omega)]
    rw [hcl]
    cases hh : ff (fun s => decide (ms.2.1 14 s = nI pl)) 0 8 with
    | some h =>
      show ∃ n', RI (if hasB ms h (ms.2.1 38 2) = true then dlvM ms p (nI h) else solM (losM ms p) n) n' np M t ∧ Phi (if hasB ms h (ms.2.1 38 2) = true then dlvM ms p (nI h) else solM (losM ms p) n) n' np ≤ _
      by_cases hb : hasB ms h (ms.2.1 38 2) = true
      · rw [if_pos hb]
        obtain ⟨q1, q2⟩ := r.dlv (s := nI h) hpos hp1
        exact ⟨n, q1, by omega⟩
      · rw [if_neg hb]
        obtain ⟨q1, q2⟩ := r.los hpos hp1
        obtain ⟨q3, q4⟩ := q1.sol
        exact ⟨postN n, q3, by omega⟩
    | none =>
      show ∃ n', RI (if onB ms pl = true then solM (onM ms n (ms.2.1 26 pl).toNatClampNeg) (postN n) else losM ms p) n' np M t ∧ Phi (if onB ms pl = true then solM (onM ms n (ms.2.1 26 pl).toNatClampNeg) (postN n) else losM ms p) n' np ≤ _
      by_cases ho : onB ms pl = true
      · rw [if_pos ho]
        have hm : ¬ ms.2.1 26 pl = -1 := by
          unfold onB at ho
          exact of_decide_eq_true ((Bool.and_eq_true _ _).mp ho).1
        obtain ⟨w, w1, w2, w3⟩ := (r.2.2.2.2.1 pl hpl).resolve_left hm
        have hw : (ms.2.1 26 pl).toNatClampNeg = w := by rw [w2, nI_clamp (by omega)]
        obtain ⟨q, q1, q2⟩ := (r.2.2.2.1.2.2.1 w w1).resolve_left w3
        rw [hw]
        have r1 : RI (onM ms n w) (postN n) np M t := r.post ⟨Or.inr (Or.inr (Or.inr (Or.inl rfl))), fun _ => ⟨q, q1, q2⟩⟩
        have p1 := Phi_post (ms := ms) (np := np) (f := mG (ms.2.1 38 0) (ms.2.1 38 1) (ms.2.1 38 2) (ms.2.1 38 3) (ms.2.1 38 4) (ms.2.1 38 5) 3 (ms.2.1 14 w)) r.2.2.2.2.2.2.2.1
        have e3 : phi (mG (ms.2.1 38 0) (ms.2.1 38 1) (ms.2.1 38 2) (ms.2.1 38 3) (ms.2.1 38 4) (ms.2.1 38 5) 3 (ms.2.1 14 w) 6) = 0 := rfl
        obtain ⟨q3, q4⟩ := r1.sol
        have p1' : Phi (onM ms n w) (postN n) np ≤ _ := p1
        exact ⟨postN (postN n), q3, by omega⟩
      · rw [if_neg ho]
        obtain ⟨q1, q2⟩ := r.los hpos hp1
        exact ⟨n, q1, by omega⟩
  · rw [if_neg hc]
    exact ⟨n, r, Nat.le_refl _⟩
theorem RI.req (r : RI ms n np M t) {sv : Nat} : ∃ n', RI (reqM ms n sv) n' np M t ∧ Phi (reqM ms n sv) n' np ≤ Phi ms n np + 2 := by
  have k2 : ∀ f : Nat → Int32, f 6 = 2 → RI (postM ms n f) (postN n) np M t ∧ Phi (postM ms n f) (postN n) np ≤ Phi ms n np + 2 := fun f hf => by
    refine ⟨r.post ⟨Or.inr (Or.inr (Or.inl hf)), fun h => absurd (hf.symm.trans h) (by decide)⟩, ?_⟩
    have := Phi_post (ms := ms) (np := np) (f := f) r.2.2.2.2.2.2.2.1
    rw [hf] at this
    have e2 : phi 2 = 2 := rfl
    omega
  unfold reqM
  by_cases hc : (siteB ms (ms.2.1 38 0) && ag (ln (ms.2.1 5 sv)) (ms.2.1 4 sv) (ms.2.1 38 2)) = true
  · rw [if_pos hc]
    cases chiF ms sv (ms.2.1 38 2) with
    | some c =>
      obtain ⟨q1, q2⟩ := k2 (mG (ms.2.1 38 1) 0 (ms.2.1 4 c) (ms.2.1 5 c) (nI c) 0 2 (ms.2.1 38 0)) rfl
      exact ⟨postN n, q1, q2⟩
    | none =>
      cases pieL ms sv (ms.2.1 38 2) with
      | none => exact ⟨n, r, by show Phi ms n np ≤ _; omega⟩
      | some L =>
        show ∃ n', RI (repM ms n sv L) n' np M t ∧ Phi (repM ms n sv L) n' np ≤ _
        unfold repM
        cases bestE ms (ms.2.1 38 2) sv with
        | none =>
          obtain ⟨q1, q2⟩ := k2 (mG (ms.2.1 38 1) 2 (ms.2.1 38 2 &&& mk L) (nI L) 0 0 2 (ms.2.1 38 0)) rfl
          exact ⟨postN n, q1, q2⟩
        | some k =>
          obtain ⟨q1, q2⟩ := k2 (mG (ms.2.1 38 1) 1 (ms.2.1 38 2 &&& mk L) (nI L) (ms.2.1 10 k) (ms.2.1 11 k) 2 (ms.2.1 38 0)) rfl
          exact ⟨postN n, q1, q2⟩
  · rw [if_neg hc]
    exact ⟨n, r, by omega⟩
theorem RI.fgt (r : RI ms n np M t) {s : Nat} {ep pl : Int32} : RI (fgtM ms s ep pl) n np M t ∧ Phi (fgtM ms s ep pl) n np = Phi ms n np := by
  obtain ⟨ti, Tt, b, c, e', d, f, gg⟩ := r
  have ek : ∀ k j, k ≠ 23 → (fgtM ms s ep pl).2.1 k j = ms.2.1 k j := fun k j h => fgtM_k h
  have e1 : (fgtM ms s ep pl).1 = ms.1 := fgtM_1
  have eL : (fgtM ms s ep pl).2.2 = ms.2.2 := by
    unfold fgtM
    cases ntF ms s ep with
    | none => rfl
    | some k0 =>
      show (if ms.2.1 21 k0 = pl then aS ms 23 k0 0 else ms).2.2 = _
      split <;> rfl
  have hlv : ∀ k, k < 48 → liveN (fgtM ms s ep pl) k = true → liveN ms k = true ∧ (fgtM ms s ep pl).2.1 23 k = ms.2.1 23 k := by
    intro k _ h
    have : (fgtM ms s ep pl).2.1 23 k = 0 ∨ (fgtM ms s ep pl).2.1 23 k = ms.2.1 23 k := by
      unfold fgtM
      cases ntF ms s ep with
      | none => exact Or.inr rfl
      | some k0 =>
        show (if ms.2.1 21 k0 = pl then aS ms 23 k0 0 else ms).2.1 23 k = 0 ∨ (if ms.2.1 21 k0 = pl then aS ms 23 k0 0 else ms).2.1 23 k = ms.2.1 23 k
        by_cases hpl : ms.2.1 21 k0 = pl
        · rw [if_pos hpl]
          by_cases ek : k = k0
          · rw [ek, aS_s]; exact Or.inl rfl
          · rw [aS_j ek]; exact Or.inr rfl
        · rw [if_neg hpl]; exact Or.inr rfl
    unfold liveN at h ⊢
    rw [e1] at h
    rcases this with h0 | h0
    · rw [h0, ti.2] at h
      exact absurd (of_decide_eq_true h) (nI_pos (by omega))
    · rw [h0] at h
      exact ⟨h, h0⟩
  refine ⟨⟨⟨ti.1, by rw [e1]; exact ti.2⟩, Tr_congr (fun q j h1 h2 => ek q j (by omega)) Tt, b.to (by rw [e1]) (fun q j h1 h2 => ek q j (by omega)) eL, c.to (fun q j h1 h2 => ek q j (by omega)), e'.to (fun j => ek 26 j (by omega)) (fun w _ h => by rw [ek 14 w (by omega)]; exact h), d.sub (Nat.le_refl t) (by rw [e1]) (fun k j h => ek k j (by omega)) hlv (fun s _ h => by rw [ek 14 s (by omega)] at h; exact h), f.to (by rw [e1]) (by rw [e1]) (fun k j h => ek k j (by omega)), gg.to (by rw [e1]) (fun j => ek 37 j (by omega))⟩, ?_⟩
  unfold Phi
  rw [phM_congr (fun j => ek _ j (by decide)), phP_congr (fun j => ek _ j (by decide))]
end ARV
end
