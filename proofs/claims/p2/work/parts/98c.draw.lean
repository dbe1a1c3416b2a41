/-! DRAWS: two of the first 2000 are never the same -/
def dr : Nat → Int32
  | 0 => 1
  | n + 1 => drw (dr n)
def f1 (g : Int32) : Int32 := g ^^^ (g <<< (13 &&& 31))
def f2 (g : Int32) : Int32 := g ^^^ h_ushr g 17
def f3 (g : Int32) : Int32 := g ^^^ (g <<< (5 &&& 31))
theorem drw_f (g : Int32) : drw g = f3 (f2 (f1 g)) := rfl
theorem shl_inj {n : Nat} (hn : n < 32) (h0 : 0 < n) {x y : Int32} (h : x ^^^ (x <<< (nI n &&& 31)) = y ^^^ (y <<< (nI n &&& 31))) : x = y := by
  refine b_ext (fun i => ?_)
  induction i using Nat.strongRecOn with
  | ind i ih =>
    intro hi
    have e : bt (x ^^^ (x <<< (nI n &&& 31))) i = bt (y ^^^ (y <<< (nI n &&& 31))) i := by rw [h]
    rw [b_xor, b_xor, b_shl n hn x hi, b_shl n hn y hi] at e
    by_cases hc : n ≤ i
    · rw [ih (i - n) (by omega) (by omega)] at e
      revert e
      cases bt x i <;> cases bt y i <;> cases bt y (i - n) <;> simp
    · rw [decide_eq_false hc] at e
      simpa using e
theorem ushr_inj {n : Nat} (hn : n < 32) (h0 : 0 < n) {x y : Int32} (h : x ^^^ h_ushr x (nI n) = y ^^^ h_ushr y (nI n)) : x = y := by
  have key : ∀ d i, i < 32 → 32 - i ≤ d → bt x i = bt y i := by
    intro d
    induction d with
    | zero => intro i hi hd; omega
    | succ d ih =>
      intro i hi hd
      have e : bt (x ^^^ h_ushr x (nI n)) i = bt (y ^^^ h_ushr y (nI n)) i := by rw [h]
      unfold h_ushr at e
      rw [b_xor, b_xor, b_ushr n hn x i, b_ushr n hn y i] at e
      have e2 : bt x (n + i) = bt y (n + i) := by
        by_cases hc : n + i < 32
        · exact ih (n + i) hc (by omega)
        · rw [b_big (by omega), b_big (by omega)]
      rw [e2] at e
      revert e
      cases bt x i <;> cases bt y i <;> cases bt y (n + i) <;> simp
  exact b_ext (fun i hi => key 32 i hi (by omega))
theorem drw_inj {x y : Int32} (h : drw x = drw y) : x = y := by
  rw [drw_f, drw_f] at h
  exact shl_inj (n := 13) (by omega) (by omega) (ushr_inj (n := 17) (by omega) (by omega) (shl_inj (n := 5) (by omega) (by omega) h))
def it : Nat → Int32 → Int32
  | 0, g => g
  | n + 1, g => it n (drw g)
def ck : Nat → Int32 → Bool
  | 0, _ => true
  | n + 1, g => !(decide (drw g = 1)) && ck n (drw g)
theorem it_dr : ∀ n k, it n (dr k) = dr (k + n)
  | 0, k => rfl
  | n + 1, k => by
    show it n (dr (k + 1)) = dr (k + (n + 1))
    rw [it_dr n (k + 1)]
    congr 1
    omega
theorem ck_dr : ∀ n k, ck n (dr k) = true → ∀ m, k < m → m ≤ k + n → dr m ≠ 1
  | 0, k, _, m, h1, h2 => by omega
  | n + 1, k, h, m, h1, h2 => by
    have h' : (!(decide (dr (k + 1) = 1)) && ck n (dr (k + 1))) = true := h
    obtain ⟨a, b⟩ := (Bool.and_eq_true _ _).mp h'
    by_cases e : m = k + 1
    · rw [e]
      intro z
      rw [decide_eq_true z] at a
      cases a
    · exact ck_dr n (k + 1) b m (by omega) (by omega)
theorem dk_0 : ck 40 1 = true ∧ it 40 1 = 2037229063 := by decide +kernel
theorem dk_1 : ck 40 2037229063 = true ∧ it 40 2037229063 = (-1185839664) := by decide +kernel
theorem dk_2 : ck 40 (-1185839664) = true ∧ it 40 (-1185839664) = (-1341360986) := by decide +kernel
theorem dk_3 : ck 40 (-1341360986) = true ∧ it 40 (-1341360986) = (-1891076775) := by decide +kernel
theorem dk_4 : ck 40 (-1891076775) = true ∧ it 40 (-1891076775) = (-1892239661) := by decide +kernel
theorem dk_5 : ck 40 (-1892239661) = true ∧ it 40 (-1892239661) = 1861712706 := by decide +kernel
theorem dk_6 : ck 40 1861712706 = true ∧ it 40 1861712706 = (-1841982330) := by decide +kernel
theorem dk_7 : ck 40 (-1841982330) = true ∧ it 40 (-1841982330) = (-388965862) := by decide +kernel
theorem dk_8 : ck 40 (-388965862) = true ∧ it 40 (-388965862) = 1321191166 := by decide +kernel
theorem dk_9 : ck 40 1321191166 = true ∧ it 40 1321191166 = (-281729014) := by decide +kernel
theorem dk_10 : ck 40 (-281729014) = true ∧ it 40 (-281729014) = (-1877009773) := by decide +kernel
theorem dk_11 : ck 40 (-1877009773) = true ∧ it 40 (-1877009773) = 691128760 := by decide +kernel
theorem dk_12 : ck 40 691128760 = true ∧ it 40 691128760 = 688570636 := by decide +kernel
theorem dk_13 : ck 40 688570636 = true ∧ it 40 688570636 = 1620460959 := by decide +kernel
theorem dk_14 : ck 40 1620460959 = true ∧ it 40 1620460959 = 459474229 := by decide +kernel
theorem dk_15 : ck 40 459474229 = true ∧ it 40 459474229 = (-3648113) := by decide +kernel
theorem dk_16 : ck 40 (-3648113) = true ∧ it 40 (-3648113) = 101963038 := by decide +kernel
theorem dk_17 : ck 40 101963038 = true ∧ it 40 101963038 = (-929551003) := by decide +kernel
theorem dk_18 : ck 40 (-929551003) = true ∧ it 40 (-929551003) = 1665219836 := by decide +kernel
theorem dk_19 : ck 40 1665219836 = true ∧ it 40 1665219836 = 34281090 := by decide +kernel
theorem dk_20 : ck 40 34281090 = true ∧ it 40 34281090 = 1069296527 := by decide +kernel
theorem dk_21 : ck 40 1069296527 = true ∧ it 40 1069296527 = 2141764210 := by decide +kernel
theorem dk_22 : ck 40 2141764210 = true ∧ it 40 2141764210 = (-1111438737) := by decide +kernel
theorem dk_23 : ck 40 (-1111438737) = true ∧ it 40 (-1111438737) = 2131126528 := by decide +kernel
theorem dk_24 : ck 40 2131126528 = true ∧ it 40 2131126528 = 269958183 := by decide +kernel
theorem dk_25 : ck 40 269958183 = true ∧ it 40 269958183 = 1472303394 := by decide +kernel
theorem dk_26 : ck 40 1472303394 = true ∧ it 40 1472303394 = 307813619 := by decide +kernel
theorem dk_27 : ck 40 307813619 = true ∧ it 40 307813619 = 1711487563 := by decide +kernel
theorem dk_28 : ck 40 1711487563 = true ∧ it 40 1711487563 = (-1223290827) := by decide +kernel
theorem dk_29 : ck 40 (-1223290827) = true ∧ it 40 (-1223290827) = 437845857 := by decide +kernel
theorem dk_30 : ck 40 437845857 = true ∧ it 40 437845857 = 1536000730 := by decide +kernel
theorem dk_31 : ck 40 1536000730 = true ∧ it 40 1536000730 = 1794492088 := by decide +kernel
theorem dk_32 : ck 40 1794492088 = true ∧ it 40 1794492088 = (-1513503790) := by decide +kernel
theorem dk_33 : ck 40 (-1513503790) = true ∧ it 40 (-1513503790) = (-381394313) := by decide +kernel
theorem dk_34 : ck 40 (-381394313) = true ∧ it 40 (-381394313) = 1884650883 := by decide +kernel
theorem dk_35 : ck 40 1884650883 = true ∧ it 40 1884650883 = (-330215474) := by decide +kernel
theorem dk_36 : ck 40 (-330215474) = true ∧ it 40 (-330215474) = (-1997718207) := by decide +kernel
theorem dk_37 : ck 40 (-1997718207) = true ∧ it 40 (-1997718207) = (-2066405900) := by decide +kernel
theorem dk_38 : ck 40 (-2066405900) = true ∧ it 40 (-2066405900) = 960262133 := by decide +kernel
theorem dk_39 : ck 40 960262133 = true ∧ it 40 960262133 = (-562387097) := by decide +kernel
theorem dk_40 : ck 40 (-562387097) = true ∧ it 40 (-562387097) = 667393635 := by decide +kernel
theorem dk_41 : ck 40 667393635 = true ∧ it 40 667393635 = 129509509 := by decide +kernel
theorem dk_42 : ck 40 129509509 = true ∧ it 40 129509509 = (-1111432198) := by decide +kernel
theorem dk_43 : ck 40 (-1111432198) = true ∧ it 40 (-1111432198) = (-1065326864) := by decide +kernel
theorem dk_44 : ck 40 (-1065326864) = true ∧ it 40 (-1065326864) = (-763523927) := by decide +kernel
theorem dk_45 : ck 40 (-763523927) = true ∧ it 40 (-763523927) = 784438597 := by decide +kernel
theorem dk_46 : ck 40 784438597 = true ∧ it 40 784438597 = (-1558955161) := by decide +kernel
theorem dk_47 : ck 40 (-1558955161) = true ∧ it 40 (-1558955161) = 190229528 := by decide +kernel
theorem dk_48 : ck 40 190229528 = true ∧ it 40 190229528 = (-793090371) := by decide +kernel
theorem dk_49 : ck 40 (-793090371) = true ∧ it 40 (-793090371) = (-1289031009) := by decide +kernel
theorem dv_0 : dr 0 = 1 := rfl
theorem dv_1 : dr 40 = 2037229063 := by
  have h := it_dr 40 0
  rw [dv_0, dk_0.2] at h
  exact h.symm
theorem dv_2 : dr 80 = (-1185839664) := by
  have h := it_dr 40 40
  rw [dv_1, dk_1.2] at h
  exact h.symm
theorem dv_3 : dr 120 = (-1341360986) := by
  have h := it_dr 40 80
  rw [dv_2, dk_2.2] at h
  exact h.symm
theorem dv_4 : dr 160 = (-1891076775) := by
  have h := it_dr 40 120
  rw [dv_3, dk_3.2] at h
  exact h.symm
theorem dv_5 : dr 200 = (-1892239661) := by
  have h := it_dr 40 160
  rw [dv_4, dk_4.2] at h
  exact h.symm
theorem dv_6 : dr 240 = 1861712706 := by
  have h := it_dr 40 200
  rw [dv_5, dk_5.2] at h
  exact h.symm
theorem dv_7 : dr 280 = (-1841982330) := by
  have h := it_dr 40 240
  rw [dv_6, dk_6.2] at h
  exact h.symm
theorem dv_8 : dr 320 = (-388965862) := by
  have h := it_dr 40 280
  rw [dv_7, dk_7.2] at h
  exact h.symm
theorem dv_9 : dr 360 = 1321191166 := by
  have h := it_dr 40 320
  rw [dv_8, dk_8.2] at h
  exact h.symm
theorem dv_10 : dr 400 = (-281729014) := by
  have h := it_dr 40 360
  rw [dv_9, dk_9.2] at h
  exact h.symm
theorem dv_11 : dr 440 = (-1877009773) := by
  have h := it_dr 40 400
  rw [dv_10, dk_10.2] at h
  exact h.symm
theorem dv_12 : dr 480 = 691128760 := by
  have h := it_dr 40 440
  rw [dv_11, dk_11.2] at h
  exact h.symm
theorem dv_13 : dr 520 = 688570636 := by
  have h := it_dr 40 480
  rw [dv_12, dk_12.2] at h
  exact h.symm
theorem dv_14 : dr 560 = 1620460959 := by
  have h := it_dr 40 520
  rw [dv_13, dk_13.2] at h
  exact h.symm
theorem dv_15 : dr 600 = 459474229 := by
  have h := it_dr 40 560
  rw [dv_14, dk_14.2] at h
  exact h.symm
theorem dv_16 : dr 640 = (-3648113) := by
  have h := it_dr 40 600
  rw [dv_15, dk_15.2] at h
  exact h.symm
theorem dv_17 : dr 680 = 101963038 := by
  have h := it_dr 40 640
  rw [dv_16, dk_16.2] at h
  exact h.symm
theorem dv_18 : dr 720 = (-929551003) := by
  have h := it_dr 40 680
  rw [dv_17, dk_17.2] at h
  exact h.symm
theorem dv_19 : dr 760 = 1665219836 := by
  have h := it_dr 40 720
  rw [dv_18, dk_18.2] at h
  exact h.symm
theorem dv_20 : dr 800 = 34281090 := by
  have h := it_dr 40 760
  rw [dv_19, dk_19.2] at h
  exact h.symm
theorem dv_21 : dr 840 = 1069296527 := by
  have h := it_dr 40 800
  rw [dv_20, dk_20.2] at h
  exact h.symm
theorem dv_22 : dr 880 = 2141764210 := by
  have h := it_dr 40 840
  rw [dv_21, dk_21.2] at h
  exact h.symm
theorem dv_23 : dr 920 = (-1111438737) := by
  have h := it_dr 40 880
  rw [dv_22, dk_22.2] at h
  exact h.symm
theorem dv_24 : dr 960 = 2131126528 := by
  have h := it_dr 40 920
  rw [dv_23, dk_23.2] at h
  exact h.symm
theorem dv_25 : dr 1000 = 269958183 := by
  have h := it_dr 40 960
  rw [dv_24, dk_24.2] at h
  exact h.symm
theorem dv_26 : dr 1040 = 1472303394 := by
  have h := it_dr 40 1000
  rw [dv_25, dk_25.2] at h
  exact h.symm
theorem dv_27 : dr 1080 = 307813619 := by
  have h := it_dr 40 1040
  rw [dv_26, dk_26.2] at h
  exact h.symm
theorem dv_28 : dr 1120 = 1711487563 := by
  have h := it_dr 40 1080
  rw [dv_27, dk_27.2] at h
  exact h.symm
theorem dv_29 : dr 1160 = (-1223290827) := by
  have h := it_dr 40 1120
  rw [dv_28, dk_28.2] at h
  exact h.symm
theorem dv_30 : dr 1200 = 437845857 := by
  have h := it_dr 40 1160
  rw [dv_29, dk_29.2] at h
  exact h.symm
theorem dv_31 : dr 1240 = 1536000730 := by
  have h := it_dr 40 1200
  rw [dv_30, dk_30.2] at h
  exact h.symm
theorem dv_32 : dr 1280 = 1794492088 := by
  have h := it_dr 40 1240
  rw [dv_31, dk_31.2] at h
  exact h.symm
theorem dv_33 : dr 1320 = (-1513503790) := by
  have h := it_dr 40 1280
  rw [dv_32, dk_32.2] at h
  exact h.symm
theorem dv_34 : dr 1360 = (-381394313) := by
  have h := it_dr 40 1320
  rw [dv_33, dk_33.2] at h
  exact h.symm
theorem dv_35 : dr 1400 = 1884650883 := by
  have h := it_dr 40 1360
  rw [dv_34, dk_34.2] at h
  exact h.symm
theorem dv_36 : dr 1440 = (-330215474) := by
  have h := it_dr 40 1400
  rw [dv_35, dk_35.2] at h
  exact h.symm
theorem dv_37 : dr 1480 = (-1997718207) := by
  have h := it_dr 40 1440
  rw [dv_36, dk_36.2] at h
  exact h.symm
theorem dv_38 : dr 1520 = (-2066405900) := by
  have h := it_dr 40 1480
  rw [dv_37, dk_37.2] at h
  exact h.symm
theorem dv_39 : dr 1560 = 960262133 := by
  have h := it_dr 40 1520
  rw [dv_38, dk_38.2] at h
  exact h.symm
theorem dv_40 : dr 1600 = (-562387097) := by
  have h := it_dr 40 1560
  rw [dv_39, dk_39.2] at h
  exact h.symm
theorem dv_41 : dr 1640 = 667393635 := by
  have h := it_dr 40 1600
  rw [dv_40, dk_40.2] at h
  exact h.symm
theorem dv_42 : dr 1680 = 129509509 := by
  have h := it_dr 40 1640
  rw [dv_41, dk_41.2] at h
  exact h.symm
theorem dv_43 : dr 1720 = (-1111432198) := by
  have h := it_dr 40 1680
  rw [dv_42, dk_42.2] at h
  exact h.symm
theorem dv_44 : dr 1760 = (-1065326864) := by
  have h := it_dr 40 1720
  rw [dv_43, dk_43.2] at h
  exact h.symm
theorem dv_45 : dr 1800 = (-763523927) := by
  have h := it_dr 40 1760
  rw [dv_44, dk_44.2] at h
  exact h.symm
theorem dv_46 : dr 1840 = 784438597 := by
  have h := it_dr 40 1800
  rw [dv_45, dk_45.2] at h
  exact h.symm
theorem dv_47 : dr 1880 = (-1558955161) := by
  have h := it_dr 40 1840
  rw [dv_46, dk_46.2] at h
  exact h.symm
theorem dv_48 : dr 1920 = 190229528 := by
  have h := it_dr 40 1880
  rw [dv_47, dk_47.2] at h
  exact h.symm
theorem dv_49 : dr 1960 = (-793090371) := by
  have h := it_dr 40 1920
  rw [dv_48, dk_48.2] at h
  exact h.symm
theorem dv_50 : dr 2000 = (-1289031009) := by
  have h := it_dr 40 1960
  rw [dv_49, dk_49.2] at h
  exact h.symm
theorem dr_ne : ∀ m, 0 < m → m ≤ 2000 → dr m ≠ 1 := by
  intro m h1 h2
  by_cases c0 : m ≤ 40
  · exact ck_dr 40 0 (by rw [dv_0]; exact dk_0.1) m (by omega) (by omega)
  by_cases c1 : m ≤ 80
  · exact ck_dr 40 40 (by rw [dv_1]; exact dk_1.1) m (by omega) (by omega)
  by_cases c2 : m ≤ 120
  · exact ck_dr 40 80 (by rw [dv_2]; exact dk_2.1) m (by omega) (by omega)
  by_cases c3 : m ≤ 160
  · exact ck_dr 40 120 (by rw [dv_3]; exact dk_3.1) m (by omega) (by omega)
  by_cases c4 : m ≤ 200
  · exact ck_dr 40 160 (by rw [dv_4]; exact dk_4.1) m (by omega) (by omega)
  by_cases c5 : m ≤ 240
  · exact ck_dr 40 200 (by rw [dv_5]; exact dk_5.1) m (by omega) (by omega)
  by_cases c6 : m ≤ 280
  · exact ck_dr 40 240 (by rw [dv_6]; exact dk_6.1) m (by omega) (by omega)
  by_cases c7 : m ≤ 320
  · exact ck_dr 40 280 (by rw [dv_7]; exact dk_7.1) m (by omega) (by omega)
  by_cases c8 : m ≤ 360
  · exact ck_dr 40 320 (by rw [dv_8]; exact dk_8.1) m (by omega) (by omega)
  by_cases c9 : m ≤ 400
  · exact ck_dr 40 360 (by rw [dv_9]; exact dk_9.1) m (by omega) (by omega)
  by_cases c10 : m ≤ 440
  · exact ck_dr 40 400 (by rw [dv_10]; exact dk_10.1) m (by omega) (by omega)
  by_cases c11 : m ≤ 480
  · exact ck_dr 40 440 (by rw [dv_11]; exact dk_11.1) m (by omega) (by omega)
  by_cases c12 : m ≤ 520
  · exact ck_dr 40 480 (by rw [dv_12]; exact dk_12.1) m (by omega) (by omega)
  by_cases c13 : m ≤ 560
  · exact ck_dr 40 520 (by rw [dv_13]; exact dk_13.1) m (by omega) (by omega)
  by_cases c14 : m ≤ 600
  · exact ck_dr 40 560 (by rw [dv_14]; exact dk_14.1) m (by omega) (by omega)
  by_cases c15 : m ≤ 640
  · exact ck_dr 40 600 (by rw [dv_15]; exact dk_15.1) m (by omega) (by omega)
  by_cases c16 : m ≤ 680
  · exact ck_dr 40 640 (by rw [dv_16]; exact dk_16.1) m (by omega) (by omega)
  by_cases c17 : m ≤ 720
  · exact ck_dr 40 680 (by rw [dv_17]; exact dk_17.1) m (by omega) (by omega)
  by_cases c18 : m ≤ 760
  · exact ck_dr 40 720 (by rw [dv_18]; exact dk_18.1) m (by omega) (by omega)
  by_cases c19 : m ≤ 800
  · exact ck_dr 40 760 (by rw [dv_19]; exact dk_19.1) m (by omega) (by omega)
  by_cases c20 : m ≤ 840
  · exact ck_dr 40 800 (by rw [dv_20]; exact dk_20.1) m (by omega) (by omega)
  by_cases c21 : m ≤ 880
  · exact ck_dr 40 840 (by rw [dv_21]; exact dk_21.1) m (by omega) (by omega)
  by_cases c22 : m ≤ 920
  · exact ck_dr 40 880 (by rw [dv_22]; exact dk_22.1) m (by omega) (by omega)
  by_cases c23 : m ≤ 960
  · exact ck_dr 40 920 (by rw [dv_23]; exact dk_23.1) m (by omega) (by omega)
  by_cases c24 : m ≤ 1000
  · exact ck_dr 40 960 (by rw [dv_24]; exact dk_24.1) m (by omega) (by omega)
  by_cases c25 : m ≤ 1040
  · exact ck_dr 40 1000 (by rw [dv_25]; exact dk_25.1) m (by omega) (by omega)
  by_cases c26 : m ≤ 1080
  · exact ck_dr 40 1040 (by rw [dv_26]; exact dk_26.1) m (by omega) (by omega)
  by_cases c27 : m ≤ 1120
  · exact ck_dr 40 1080 (by rw [dv_27]; exact dk_27.1) m (by omega) (by omega)
  by_cases c28 : m ≤ 1160
  · exact ck_dr 40 1120 (by rw [dv_28]; exact dk_28.1) m (by omega) (by omega)
  by_cases c29 : m ≤ 1200
  · exact ck_dr 40 1160 (by rw [dv_29]; exact dk_29.1) m (by omega) (by omega)
  by_cases c30 : m ≤ 1240
  · exact ck_dr 40 1200 (by rw [dv_30]; exact dk_30.1) m (by omega) (by omega)
  by_cases c31 : m ≤ 1280
  · exact ck_dr 40 1240 (by rw [dv_31]; exact dk_31.1) m (by omega) (by omega)
  by_cases c32 : m ≤ 1320
  · exact ck_dr 40 1280 (by rw [dv_32]; exact dk_32.1) m (by omega) (by omega)
  by_cases c33 : m ≤ 1360
  · exact ck_dr 40 1320 (by rw [dv_33]; exact dk_33.1) m (by omega) (by omega)
  by_cases c34 : m ≤ 1400
  · exact ck_dr 40 1360 (by rw [dv_34]; exact dk_34.1) m (by omega) (by omega)
  by_cases c35 : m ≤ 1440
  · exact ck_dr 40 1400 (by rw [dv_35]; exact dk_35.1) m (by omega) (by omega)
  by_cases c36 : m ≤ 1480
  · exact ck_dr 40 1440 (by rw [dv_36]; exact dk_36.1) m (by omega) (by omega)
  by_cases c37 : m ≤ 1520
  · exact ck_dr 40 1480 (by rw [dv_37]; exact dk_37.1) m (by omega) (by omega)
  by_cases c38 : m ≤ 1560
  · exact ck_dr 40 1520 (by rw [dv_38]; exact dk_38.1) m (by omega) (by omega)
  by_cases c39 : m ≤ 1600
  · exact ck_dr 40 1560 (by rw [dv_39]; exact dk_39.1) m (by omega) (by omega)
  by_cases c40 : m ≤ 1640
  · exact ck_dr 40 1600 (by rw [dv_40]; exact dk_40.1) m (by omega) (by omega)
  by_cases c41 : m ≤ 1680
  · exact ck_dr 40 1640 (by rw [dv_41]; exact dk_41.1) m (by omega) (by omega)
  by_cases c42 : m ≤ 1720
  · exact ck_dr 40 1680 (by rw [dv_42]; exact dk_42.1) m (by omega) (by omega)
  by_cases c43 : m ≤ 1760
  · exact ck_dr 40 1720 (by rw [dv_43]; exact dk_43.1) m (by omega) (by omega)
  by_cases c44 : m ≤ 1800
  · exact ck_dr 40 1760 (by rw [dv_44]; exact dk_44.1) m (by omega) (by omega)
  by_cases c45 : m ≤ 1840
  · exact ck_dr 40 1800 (by rw [dv_45]; exact dk_45.1) m (by omega) (by omega)
  by_cases c46 : m ≤ 1880
  · exact ck_dr 40 1840 (by rw [dv_46]; exact dk_46.1) m (by omega) (by omega)
  by_cases c47 : m ≤ 1920
  · exact ck_dr 40 1880 (by rw [dv_47]; exact dk_47.1) m (by omega) (by omega)
  by_cases c48 : m ≤ 1960
  · exact ck_dr 40 1920 (by rw [dv_48]; exact dk_48.1) m (by omega) (by omega)
  by_cases c49 : m ≤ 2000
  · exact ck_dr 40 1960 (by rw [dv_49]; exact dk_49.1) m (by omega) (by omega)
  omega
theorem dr_lt : ∀ i j, dr i = dr j → i ≤ j → j - i ≤ 2000 → i = j
  | 0, j, h, _, hj => by
    by_cases e : j = 0
    · exact e.symm
    · exact absurd h.symm (dr_ne j (by omega) (by omega))
  | i + 1, 0, _, h, _ => by omega
  | i + 1, j + 1, h, hij, hj => by
    have := dr_lt i j (drw_inj h) (by omega) (by omega)
    omega
theorem dr_inj {i j : Nat} (hi : i ≤ 2000) (hj : j ≤ 2000) (h : dr i = dr j) : i = j := by
  by_cases c : i ≤ j
  · exact dr_lt i j h c (by omega)
  · exact (dr_lt j i h.symm (by omega) (by omega)).symm
