/-! LINKS: the words of the tables that the walks use -/
theorem hly_0 : ∀ w ∈ u_ws RX0 TX0 5, w ∈ h_ws := by
  intro w hw
  have h1 : w ∈ [624, 626, 628, 630, 632].filterMap (fun i => tables_1[i]?) := by
    rw [show [624, 626, 628, 630, 632].filterMap (fun i => tables_1[i]?) = u_ws RX0 TX0 5 by decide +kernel]
    exact hw
  obtain ⟨i, -, hi⟩ := List.mem_filterMap.mp h1
  refine h_in (List.mem_of_getElem? hi) ?_
  exact List.all_eq_true.mp (show (u_ws RX0 TX0 5).all goodWord = true by decide +kernel) w hw
theorem hcl_0 : h_CL 1 RX0 TX0 5 := ⟨by decide, by decide, rfl, hly_0, h_in (List.mem_of_getElem? (i := 607) (by decide +kernel)) rfl, h_in (List.mem_of_getElem? (i := 17) (by decide +kernel)) rfl, tyX0, tyX0_ok, nmX0, fun k hk => by
    have h9 : ∀ k, k < 5 → (h_kd 1 k = 0 ∧ tyX0 k = .int) ∨ (h_kd 1 k = 2 ∧ tyX0 k = .long) ∨ (h_kd 1 k = 1 ∧ (tyX0 k).isReference = true) := by decide +kernel
    exact h9 k hk⟩
theorem hly_1 : ∀ w ∈ u_ws RX1 TX1 4, w ∈ h_ws := by
  intro w hw
  have h1 : w ∈ [704, 706, 708, 710].filterMap (fun i => tables_1[i]?) := by
    rw [show [704, 706, 708, 710].filterMap (fun i => tables_1[i]?) = u_ws RX1 TX1 4 by decide +kernel]
    exact hw
  obtain ⟨i, -, hi⟩ := List.mem_filterMap.mp h1
  refine h_in (List.mem_of_getElem? hi) ?_
  exact List.all_eq_true.mp (show (u_ws RX1 TX1 4).all goodWord = true by decide +kernel) w hw
theorem hcl_1 : h_CL 2 RX1 TX1 4 := ⟨by decide, by decide, rfl, hly_1, h_in (List.mem_of_getElem? (i := 690) (by decide +kernel)) rfl, h_in (List.mem_of_getElem? (i := 18) (by decide +kernel)) rfl, tyX1, tyX1_ok, nmX1, fun k hk => by
    have h9 : ∀ k, k < 4 → (h_kd 2 k = 0 ∧ tyX1 k = .int) ∨ (h_kd 2 k = 2 ∧ tyX1 k = .long) ∨ (h_kd 2 k = 1 ∧ (tyX1 k).isReference = true) := by decide +kernel
    exact h9 k hk⟩
theorem hly_2 : ∀ w ∈ u_ws RX2 TX2 2, w ∈ h_ws := by
  intro w hw
  have h1 : w ∈ [352, 354].filterMap (fun i => tables_1[i]?) := by
    rw [show [352, 354].filterMap (fun i => tables_1[i]?) = u_ws RX2 TX2 2 by decide +kernel]
    exact hw
  obtain ⟨i, -, hi⟩ := List.mem_filterMap.mp h1
  refine h_in (List.mem_of_getElem? hi) ?_
  exact List.all_eq_true.mp (show (u_ws RX2 TX2 2).all goodWord = true by decide +kernel) w hw
theorem hcl_2 : h_CL 3 RX2 TX2 2 := ⟨by decide, by decide, rfl, hly_2, h_in (List.mem_of_getElem? (i := 343) (by decide +kernel)) rfl, h_in (List.mem_of_getElem? (i := 12) (by decide +kernel)) rfl, tyX2, tyX2_ok, nmX2, fun k hk => by
    have h9 : ∀ k, k < 2 → (h_kd 3 k = 0 ∧ tyX2 k = .int) ∨ (h_kd 3 k = 2 ∧ tyX2 k = .long) ∨ (h_kd 3 k = 1 ∧ (tyX2 k).isReference = true) := by decide +kernel
    exact h9 k hk⟩
theorem hly_3 : ∀ w ∈ u_ws RX3 TX3 8, w ∈ h_ws := by
  intro w hw
  have h1 : w ∈ [494, 496, 498, 500, 502, 504, 506, 508].filterMap (fun i => tables_1[i]?) := by
    rw [show [494, 496, 498, 500, 502, 504, 506, 508].filterMap (fun i => tables_1[i]?) = u_ws RX3 TX3 8 by decide +kernel]
    exact hw
  obtain ⟨i, -, hi⟩ := List.mem_filterMap.mp h1
  refine h_in (List.mem_of_getElem? hi) ?_
  exact List.all_eq_true.mp (show (u_ws RX3 TX3 8).all goodWord = true by decide +kernel) w hw
theorem hcl_3 : h_CL 4 RX3 TX3 8 := ⟨by decide, by decide, rfl, hly_3, h_in (List.mem_of_getElem? (i := 475) (by decide +kernel)) rfl, h_in (List.mem_of_getElem? (i := 15) (by decide +kernel)) rfl, tyX3, tyX3_ok, nmX3, fun k hk => by
    have h9 : ∀ k, k < 8 → (h_kd 4 k = 0 ∧ tyX3 k = .int) ∨ (h_kd 4 k = 2 ∧ tyX3 k = .long) ∨ (h_kd 4 k = 1 ∧ (tyX3 k).isReference = true) := by decide +kernel
    exact h9 k hk⟩
theorem hly_4 : ∀ w ∈ u_ws RX4 TX4 2, w ∈ h_ws := by
  intro w hw
  have h1 : w ∈ [48, 50].filterMap (fun i => tables_1[i]?) := by
    rw [show [48, 50].filterMap (fun i => tables_1[i]?) = u_ws RX4 TX4 2 by decide +kernel]
    exact hw
  obtain ⟨i, -, hi⟩ := List.mem_filterMap.mp h1
  refine h_in (List.mem_of_getElem? hi) ?_
  exact List.all_eq_true.mp (show (u_ws RX4 TX4 2).all goodWord = true by decide +kernel) w hw
theorem hcl_4 : h_CL 5 RX4 TX4 2 := ⟨by decide, by decide, rfl, hly_4, h_in (List.mem_of_getElem? (i := 37) (by decide +kernel)) rfl, h_in (List.mem_of_getElem? (i := 4) (by decide +kernel)) rfl, tyX4, tyX4_ok, nmX4, fun k hk => by
    have h9 : ∀ k, k < 2 → (h_kd 5 k = 0 ∧ tyX4 k = .int) ∨ (h_kd 5 k = 2 ∧ tyX4 k = .long) ∨ (h_kd 5 k = 1 ∧ (tyX4 k).isReference = true) := by decide +kernel
    exact h9 k hk⟩
theorem hly_5 : ∀ w ∈ u_ws RX5 TX5 4, w ∈ h_ws := by
  intro w hw
  have h1 : w ∈ [100, 102, 104, 106].filterMap (fun i => tables_1[i]?) := by
    rw [show [100, 102, 104, 106].filterMap (fun i => tables_1[i]?) = u_ws RX5 TX5 4 by decide +kernel]
    exact hw
  obtain ⟨i, -, hi⟩ := List.mem_filterMap.mp h1
  refine h_in (List.mem_of_getElem? hi) ?_
  exact List.all_eq_true.mp (show (u_ws RX5 TX5 4).all goodWord = true by decide +kernel) w hw
theorem hcl_5 : h_CL 6 RX5 TX5 4 := ⟨by decide, by decide, rfl, hly_5, h_in (List.mem_of_getElem? (i := 89) (by decide +kernel)) rfl, h_in (List.mem_of_getElem? (i := 5) (by decide +kernel)) rfl, tyX5, tyX5_ok, nmX5, fun k hk => by
    have h9 : ∀ k, k < 4 → (h_kd 6 k = 0 ∧ tyX5 k = .int) ∨ (h_kd 6 k = 2 ∧ tyX5 k = .long) ∨ (h_kd 6 k = 1 ∧ (tyX5 k).isReference = true) := by decide +kernel
    exact h9 k hk⟩
theorem hly_6 : ∀ w ∈ u_ws RX6 TX6 5, w ∈ h_ws := by
  intro w hw
  have h1 : w ∈ [70, 72, 74, 76, 78].filterMap (fun i => tables_1[i]?) := by
    rw [show [70, 72, 74, 76, 78].filterMap (fun i => tables_1[i]?) = u_ws RX6 TX6 5 by decide +kernel]
    exact hw
  obtain ⟨i, -, hi⟩ := List.mem_filterMap.mp h1
  refine h_in (List.mem_of_getElem? hi) ?_
  exact List.all_eq_true.mp (show (u_ws RX6 TX6 5).all goodWord = true by decide +kernel) w hw
theorem hcl_6 : h_CL 7 RX6 TX6 5 := ⟨by decide, by decide, rfl, hly_6, h_in (List.mem_of_getElem? (i := 35) (by decide +kernel)) rfl, h_in (List.mem_of_getElem? (i := 3) (by decide +kernel)) rfl, tyX6, tyX6_ok, nmX6, fun k hk => by
    have h9 : ∀ k, k < 5 → (h_kd 7 k = 0 ∧ tyX6 k = .int) ∨ (h_kd 7 k = 2 ∧ tyX6 k = .long) ∨ (h_kd 7 k = 1 ∧ (tyX6 k).isReference = true) := by decide +kernel
    exact h9 k hk⟩
theorem hly_7 : ∀ w ∈ u_ws RX7 TX7 5, w ∈ h_ws := by
  intro w hw
  have h1 : w ∈ [366, 368, 370, 372, 374].filterMap (fun i => tables_1[i]?) := by
    rw [show [366, 368, 370, 372, 374].filterMap (fun i => tables_1[i]?) = u_ws RX7 TX7 5 by decide +kernel]
    exact hw
  obtain ⟨i, -, hi⟩ := List.mem_filterMap.mp h1
  refine h_in (List.mem_of_getElem? hi) ?_
  exact List.all_eq_true.mp (show (u_ws RX7 TX7 5).all goodWord = true by decide +kernel) w hw
theorem hcl_7 : h_CL 8 RX7 TX7 5 := ⟨by decide, by decide, rfl, hly_7, h_in (List.mem_of_getElem? (i := 335) (by decide +kernel)) rfl, h_in (List.mem_of_getElem? (i := 11) (by decide +kernel)) rfl, tyX7, tyX7_ok, nmX7, fun k hk => by
    have h9 : ∀ k, k < 5 → (h_kd 8 k = 0 ∧ tyX7 k = .int) ∨ (h_kd 8 k = 2 ∧ tyX7 k = .long) ∨ (h_kd 8 k = 1 ∧ (tyX7 k).isReference = true) := by decide +kernel
    exact h9 k hk⟩
theorem hly_8 : ∀ w ∈ u_ws RX8 TX8 1, w ∈ h_ws := by
  intro w hw
  have h1 : w ∈ [83].filterMap (fun i => tables_1[i]?) := by
    rw [show [83].filterMap (fun i => tables_1[i]?) = u_ws RX8 TX8 1 by decide +kernel]
    exact hw
  obtain ⟨i, -, hi⟩ := List.mem_filterMap.mp h1
  refine h_in (List.mem_of_getElem? hi) ?_
  exact List.all_eq_true.mp (show (u_ws RX8 TX8 1).all goodWord = true by decide +kernel) w hw
theorem hcl_8 : h_CL 9 RX8 TX8 1 := ⟨by decide, by decide, rfl, hly_8, h_in (List.mem_of_getElem? (i := 28) (by decide +kernel)) rfl, h_in (List.mem_of_getElem? (i := 2) (by decide +kernel)) rfl, tyX8, tyX8_ok, nmX8, fun k hk => by
    have h9 : ∀ k, k < 1 → (h_kd 9 k = 0 ∧ tyX8 k = .int) ∨ (h_kd 9 k = 2 ∧ tyX8 k = .long) ∨ (h_kd 9 k = 1 ∧ (tyX8 k).isReference = true) := by decide +kernel
    exact h9 k hk⟩
theorem hly_9 : ∀ w ∈ u_ws RX9 TX9 14, w ∈ h_ws := by
  intro w hw
  have h1 : w ∈ [126, 128, 130, 132, 134, 136, 138, 140, 142, 144, 146, 148, 150, 152].filterMap (fun i => tables_1[i]?) := by
    rw [show [126, 128, 130, 132, 134, 136, 138, 140, 142, 144, 146, 148, 150, 152].filterMap (fun i => tables_1[i]?) = u_ws RX9 TX9 14 by decide +kernel]
    exact hw
  obtain ⟨i, -, hi⟩ := List.mem_filterMap.mp h1
  refine h_in (List.mem_of_getElem? hi) ?_
  exact List.all_eq_true.mp (show (u_ws RX9 TX9 14).all goodWord = true by decide +kernel) w hw
theorem hcl_9 : h_CL 10 RX9 TX9 14 := ⟨by decide, by decide, rfl, hly_9, h_in (List.mem_of_getElem? (i := 20) (by decide +kernel)) rfl, h_in (List.mem_of_getElem? (i := 1) (by decide +kernel)) rfl, tyX9, tyX9_ok, nmX9, fun k hk => by
    have h9 : ∀ k, k < 14 → (h_kd 10 k = 0 ∧ tyX9 k = .int) ∨ (h_kd 10 k = 2 ∧ tyX9 k = .long) ∨ (h_kd 10 k = 1 ∧ (tyX9 k).isReference = true) := by decide +kernel
    exact h9 k hk⟩
theorem hly_10 : ∀ w ∈ u_ws RX10 TX10 43, w ∈ h_ws := by
  intro w hw
  have h1 : w ∈ [874, 876, 878, 880, 882, 884, 886, 888, 890, 892, 894, 896, 898, 900, 902, 904, 906, 908, 910, 912, 914, 916, 918, 920, 922, 924, 926, 928, 930, 932, 934, 936, 938, 940, 942, 944, 946, 948, 950, 952, 954, 956, 958].filterMap (fun i => tables_1[i]?) := by
    rw [show [874, 876, 878, 880, 882, 884, 886, 888, 890, 892, 894, 896, 898, 900, 902, 904, 906, 908, 910, 912, 914, 916, 918, 920, 922, 924, 926, 928, 930, 932, 934, 936, 938, 940, 942, 944, 946, 948, 950, 952, 954, 956, 958].filterMap (fun i => tables_1[i]?) = u_ws RX10 TX10 43 by decide +kernel]
    exact hw
  obtain ⟨i, -, hi⟩ := List.mem_filterMap.mp h1
  refine h_in (List.mem_of_getElem? hi) ?_
  exact List.all_eq_true.mp (show (u_ws RX10 TX10 43).all goodWord = true by decide +kernel) w hw
theorem hcl_10 : h_CL 11 RX10 TX10 43 := ⟨by decide, by decide, rfl, hly_10, h_in (List.mem_of_getElem? (i := 825) (by decide +kernel)) rfl, h_in (List.mem_of_getElem? (i := 6) (by decide +kernel)) rfl, tyX10, tyX10_ok, nmX10, fun k hk => by
    have h9 : ∀ k, k < 43 → (h_kd 11 k = 0 ∧ tyX10 k = .int) ∨ (h_kd 11 k = 2 ∧ tyX10 k = .long) ∨ (h_kd 11 k = 1 ∧ (tyX10 k).isReference = true) := by decide +kernel
    exact h9 k hk⟩
theorem h_at103 : h_AT 103 1 := ⟨by decide, by decide, by decide, _, _, _, rfl, fun _ => rfl⟩
theorem h_at104 : h_AT 104 2 := ⟨by decide, by decide, by decide, _, _, _, rfl, fun _ => rfl⟩
theorem h_at105 : h_AT 105 4 := ⟨by decide, by decide, by decide, _, _, _, rfl, fun _ => rfl⟩
theorem h_at106 : h_AT 106 5 := ⟨by decide, by decide, by decide, _, _, _, rfl, fun _ => rfl⟩
theorem h_at107 : h_AT 107 7 := ⟨by decide, by decide, by decide, _, _, _, rfl, fun _ => rfl⟩
theorem h_at108 : h_AT 108 8 := ⟨by decide, by decide, by decide, _, _, _, rfl, fun _ => rfl⟩
theorem ob_i : Cond.instanceMethod Lib.objectInit ∈ h_ws := h_in (List.mem_of_getElem? (i := 25) (by decide +kernel)) rfl
theorem ob_c : Cond.code Lib.objectInit ⟨#[0xb1]⟩ 1 none ∈ h_ws := h_in (List.mem_of_getElem? (i := 26) (by decide +kernel)) rfl
theorem cy_n : Cond.native arraycopyName ∈ h_ws := h_in (List.mem_of_getElem? (i := 450) (by decide +kernel)) rfl
theorem cy_s : Cond.static arraycopyName ∈ h_ws := h_in (List.mem_of_getElem? (i := 449) (by decide +kernel)) rfl
theorem cy_i : Cond.initialized "java/lang/System" ∈ h_ws := h_in (List.mem_of_getElem? (i := 13) (by decide +kernel)) rfl
theorem h_fr {R : Room} {s : State} {meth : Method} {σ : HS} {ret : Option FieldType} {F L k : Nat} (B : h_B R s meth σ ret F L) (h : k ≤ F) : k ≤ R.frames := by rw [B.2.2.2.2.1]; exact h
theorem h_lo {R : Room} {s : State} {meth : Method} {σ : HS} {ret : Option FieldType} {F L k : Nat} (B : h_B R s meth σ ret F L) (h : k ≤ L) : k ≤ R.locals := by rw [B.2.2.2.2.2]; exact h
theorem h_w0 : (([] : List Value).map fun v => v.category).sum ≤ 0 := Nat.le_refl 0
theorem h_wI {x : Int32} {l : List Value} {n : Nat} (h : (l.map fun v => v.category).sum ≤ n) : ((Value.int x :: l).map fun v => v.category).sum ≤ n + 1 := by
  rw [List.map_cons, List.sum_cons]; have : (Value.int x).category = 1 := rfl; omega
theorem h_wR {x : Option Nat} {l : List Value} {n : Nat} (h : (l.map fun v => v.category).sum ≤ n) : ((va_rf x :: l).map fun v => v.category).sum ≤ n + 1 := by
  rw [List.map_cons, List.sum_cons]; have := h_rf_cat x; omega
theorem h_wJ {x : Int64} {l : List Value} {n : Nat} (h : (l.map fun v => v.category).sum ≤ n) : ((Value.long x :: l).map fun v => v.category).sum ≤ n + 2 := by
  rw [List.map_cons, List.sum_cons]; have : (Value.long x).category = 2 := rfl; omega
theorem h_av0 : ∀ v ∈ ([] : List Value), v.category = 1 := fun _ h => nomatch h
theorem h_avI {x : Int32} {l : List Value} (h : ∀ v ∈ l, v.category = 1) : ∀ v ∈ Value.int x :: l, v.category = 1 := fun v hv => (List.mem_cons.mp hv).elim (fun e => by rw [e]; rfl) (h v)
theorem h_avR {x : Option Nat} {l : List Value} (h : ∀ v ∈ l, v.category = 1) : ∀ v ∈ va_rf x :: l, v.category = 1 := fun v hv => (List.mem_cons.mp hv).elim (fun e => by rw [e]; exact h_rf_cat x) (h v)
theorem ob_RX0 : Cond.methodLink RX0 1 Lib.objectInit ∈ h_ws := h_in (List.mem_of_getElem? (i := 611) (by decide +kernel)) rfl
theorem ff_RX0_7 : h_FF RX0 7 1 0 1 := ⟨_, _, _, hcl_0, by decide, rfl, h_in (List.mem_of_getElem? (i := 612) (by decide +kernel)) rfl, rfl, rfl⟩
theorem ff_RX0_13 : h_FF RX0 13 1 1 0 := ⟨_, _, _, hcl_0, by decide, rfl, h_in (List.mem_of_getElem? (i := 615) (by decide +kernel)) rfl, rfl, rfl⟩
theorem ff_RX0_17 : h_FF RX0 17 1 2 0 := ⟨_, _, _, hcl_0, by decide, rfl, h_in (List.mem_of_getElem? (i := 618) (by decide +kernel)) rfl, rfl, rfl⟩
theorem ff_RX0_20 : h_FF RX0 20 1 3 0 := ⟨_, _, _, hcl_0, by decide, rfl, h_in (List.mem_of_getElem? (i := 620) (by decide +kernel)) rfl, rfl, rfl⟩
theorem ff_RX0_23 : h_FF RX0 23 1 4 0 := ⟨_, _, _, hcl_0, by decide, rfl, h_in (List.mem_of_getElem? (i := 623) (by decide +kernel)) rfl, rfl, rfl⟩
theorem fl_RX0_23 : h_FL RX0 23 1 4 0 := ⟨_, _, _, hcl_0, by decide, rfl, h_in (List.mem_of_getElem? (i := 623) (by decide +kernel)) rfl⟩
theorem ob_RX1 : Cond.methodLink RX1 1 Lib.objectInit ∈ h_ws := h_in (List.mem_of_getElem? (i := 694) (by decide +kernel)) rfl
theorem ff_RX1_7 : h_FF RX1 7 2 0 1 := ⟨_, _, _, hcl_1, by decide, rfl, h_in (List.mem_of_getElem? (i := 695) (by decide +kernel)) rfl, rfl, rfl⟩
theorem ff_RX1_13 : h_FF RX1 13 2 1 0 := ⟨_, _, _, hcl_1, by decide, rfl, h_in (List.mem_of_getElem? (i := 698) (by decide +kernel)) rfl, rfl, rfl⟩
theorem ff_RX1_17 : h_FF RX1 17 2 2 0 := ⟨_, _, _, hcl_1, by decide, rfl, h_in (List.mem_of_getElem? (i := 701) (by decide +kernel)) rfl, rfl, rfl⟩
theorem ff_RX1_20 : h_FF RX1 20 2 3 0 := ⟨_, _, _, hcl_1, by decide, rfl, h_in (List.mem_of_getElem? (i := 703) (by decide +kernel)) rfl, rfl, rfl⟩
theorem fl_RX1_13 : h_FL RX1 13 2 1 0 := ⟨_, _, _, hcl_1, by decide, rfl, h_in (List.mem_of_getElem? (i := 698) (by decide +kernel)) rfl⟩
theorem fl_RX1_20 : h_FL RX1 20 2 3 0 := ⟨_, _, _, hcl_1, by decide, rfl, h_in (List.mem_of_getElem? (i := 703) (by decide +kernel)) rfl⟩
theorem ob_RX2 : Cond.methodLink RX2 1 Lib.objectInit ∈ h_ws := h_in (List.mem_of_getElem? (i := 347) (by decide +kernel)) rfl
theorem lk_RX2_9 : Cond.classLink RX2 9 RX1 ∈ h_ws := h_in (List.mem_of_getElem? (i := 348) (by decide +kernel)) rfl
theorem ao_1 : RX1 ∈ h_aos := by decide
theorem ff_RX2_11 : h_FF RX2 11 3 0 1 := ⟨_, _, _, hcl_2, by decide, rfl, h_in (List.mem_of_getElem? (i := 350) (by decide +kernel)) rfl, rfl, rfl⟩
theorem fl_RX4_13 : h_FL RX4 13 5 1 0 := ⟨_, _, _, hcl_4, by decide, rfl, h_in (List.mem_of_getElem? (i := 44) (by decide +kernel)) rfl⟩
set_option maxRecDepth 100000 in
theorem cd_X4_mask : Cond.code yX4_mask cX4_mask 1 (some .int) ∈ h_ws := h_in (List.mem_of_getElem? (i := 181) rfl) rfl
theorem ms_RX4_16 : h_MS RX4 16 yX4_mask cX4_mask 1 (some .int) 1 := ⟨⟨by decide, by decide, by decide +kernel⟩, h_in (List.mem_of_getElem? (i := 179) (by decide +kernel)) rfl, h_in (List.mem_of_getElem? (i := 180) (by decide +kernel)) rfl, h_in (List.mem_of_getElem? (i := 4) (by decide +kernel)) rfl, cd_X4_mask⟩
theorem fl_RX4_7 : h_FL RX4 7 5 0 0 := ⟨_, _, _, hcl_4, by decide, rfl, h_in (List.mem_of_getElem? (i := 42) (by decide +kernel)) rfl⟩
theorem fl_RX2_15 : h_FL RX2 15 3 1 0 := ⟨_, _, _, hcl_2, by decide, rfl, h_in (List.mem_of_getElem? (i := 351) (by decide +kernel)) rfl⟩
theorem fl_RX2_11 : h_FL RX2 11 3 0 1 := ⟨_, _, _, hcl_2, by decide, rfl, h_in (List.mem_of_getElem? (i := 350) (by decide +kernel)) rfl⟩
set_option maxRecDepth 100000 in
theorem cd_X1_isThere : Cond.code yX1_isThere cX1_isThere 2 (some .boolean) ∈ h_ws := h_in (List.mem_of_getElem? (i := 205) rfl) rfl
theorem mv_RX2_19 : h_MV RX2 19 2 yX1_isThere cX1_isThere 2 (some .boolean) 1 := ⟨⟨_, _, hcl_1⟩, ⟨by decide, by decide, by decide +kernel⟩, h_in (List.mem_of_getElem? (i := 202) (by decide +kernel)) rfl, h_in (List.mem_of_getElem? (i := 203) (by decide +kernel)) rfl, h_in (List.mem_of_getElem? (i := 204) (by decide +kernel)) rfl, cd_X1_isThere⟩
theorem fl_RX2_23 : h_FL RX2 23 2 0 1 := ⟨_, _, _, hcl_1, by decide, rfl, h_in (List.mem_of_getElem? (i := 696) (by decide +kernel)) rfl⟩
set_option maxRecDepth 100000 in
theorem cd_X4_has : Cond.code yX4_has cX4_has 2 (some .boolean) ∈ h_ws := h_in (List.mem_of_getElem? (i := 178) rfl) rfl
theorem mv_RX2_27 : h_MV RX2 27 5 yX4_has cX4_has 2 (some .boolean) 1 := ⟨⟨_, _, hcl_4⟩, ⟨by decide, by decide, by decide +kernel⟩, h_in (List.mem_of_getElem? (i := 528) (by decide +kernel)) rfl, h_in (List.mem_of_getElem? (i := 176) (by decide +kernel)) rfl, h_in (List.mem_of_getElem? (i := 177) (by decide +kernel)) rfl, cd_X4_has⟩
theorem fw_RX2_15 : h_FW RX2 15 3 1 0 := ⟨_, _, _, hcl_2, by decide, rfl, h_in (List.mem_of_getElem? (i := 351) (by decide +kernel)) rfl, rfl⟩
set_option maxRecDepth 100000 in
theorem cd_X4_liesIn : Cond.code yX4_liesIn cX4_liesIn 2 (some .boolean) ∈ h_ws := h_in (List.mem_of_getElem? (i := 302) rfl) rfl
theorem mv_RX4_23 : h_MV RX4 23 5 yX4_liesIn cX4_liesIn 2 (some .boolean) 1 := ⟨⟨_, _, hcl_4⟩, ⟨by decide, by decide, by decide +kernel⟩, h_in (List.mem_of_getElem? (i := 311) (by decide +kernel)) rfl, h_in (List.mem_of_getElem? (i := 300) (by decide +kernel)) rfl, h_in (List.mem_of_getElem? (i := 301) (by decide +kernel)) rfl, cd_X4_liesIn⟩
set_option maxRecDepth 100000 in
theorem cd_X2_remove : Cond.code yX2_remove cX2_remove 3 none ∈ h_ws := h_in (List.mem_of_getElem? (i := 721) rfl) rfl
theorem mv_RX2_36 : h_MV RX2 36 3 yX2_remove cX2_remove 3 none 1 := ⟨⟨_, _, hcl_2⟩, ⟨by decide, by decide, by decide +kernel⟩, h_in (List.mem_of_getElem? (i := 718) (by decide +kernel)) rfl, h_in (List.mem_of_getElem? (i := 720) (by decide +kernel)) rfl, h_inS (q := (yX2_remove, 2)) (List.mem_append_right _ (List.mem_append_left _ (List.mem_of_getElem? (i := 7) rfl))) rfl, cd_X2_remove⟩
set_option maxRecDepth 100000 in
theorem cd_X4_meets : Cond.code yX4_meets cX4_meets 2 (some .boolean) ∈ h_ws := h_in (List.mem_of_getElem? (i := 310) rfl) rfl
theorem mv_RX2_32 : h_MV RX2 32 5 yX4_meets cX4_meets 2 (some .boolean) 1 := ⟨⟨_, _, hcl_4⟩, ⟨by decide, by decide, by decide +kernel⟩, h_in (List.mem_of_getElem? (i := 717) (by decide +kernel)) rfl, h_in (List.mem_of_getElem? (i := 308) (by decide +kernel)) rfl, h_in (List.mem_of_getElem? (i := 309) (by decide +kernel)) rfl, cd_X4_meets⟩
theorem fl_RX2_40 : h_FL RX2 40 2 1 0 := ⟨_, _, _, hcl_1, by decide, rfl, h_in (List.mem_of_getElem? (i := 699) (by decide +kernel)) rfl⟩
theorem ob_RX3 : Cond.methodLink RX3 3 Lib.objectInit ∈ h_ws := h_in (List.mem_of_getElem? (i := 479) (by decide +kernel)) rfl
theorem ff_RX3_9 : h_FF RX3 9 4 0 0 := ⟨_, _, _, hcl_3, by decide, rfl, h_in (List.mem_of_getElem? (i := 480) (by decide +kernel)) rfl, rfl, rfl⟩
theorem ff_RX3_15 : h_FF RX3 15 4 1 0 := ⟨_, _, _, hcl_3, by decide, rfl, h_in (List.mem_of_getElem? (i := 482) (by decide +kernel)) rfl, rfl, rfl⟩
theorem ff_RX3_18 : h_FF RX3 18 4 2 0 := ⟨_, _, _, hcl_3, by decide, rfl, h_in (List.mem_of_getElem? (i := 484) (by decide +kernel)) rfl, rfl, rfl⟩
theorem fw_RX3_21 : h_FW RX3 21 4 5 0 := ⟨_, _, _, hcl_3, by decide, rfl, h_in (List.mem_of_getElem? (i := 489) (by decide +kernel)) rfl, rfl⟩
theorem fw_RX3_24 : h_FW RX3 24 4 3 0 := ⟨_, _, _, hcl_3, by decide, rfl, h_in (List.mem_of_getElem? (i := 486) (by decide +kernel)) rfl, rfl⟩
theorem fl_RX3_27 : h_FL RX3 27 4 7 0 := ⟨_, _, _, hcl_3, by decide, rfl, h_in (List.mem_of_getElem? (i := 492) (by decide +kernel)) rfl⟩
theorem fw_RX3_27 : h_FW RX3 27 4 7 0 := ⟨_, _, _, hcl_3, by decide, rfl, h_in (List.mem_of_getElem? (i := 492) (by decide +kernel)) rfl, rfl⟩
theorem fl_RX3_24 : h_FL RX3 24 4 3 0 := ⟨_, _, _, hcl_3, by decide, rfl, h_in (List.mem_of_getElem? (i := 486) (by decide +kernel)) rfl⟩
theorem ob_RX4 : Cond.methodLink RX4 1 Lib.objectInit ∈ h_ws := h_in (List.mem_of_getElem? (i := 41) (by decide +kernel)) rfl
theorem ff_RX4_7 : h_FF RX4 7 5 0 0 := ⟨_, _, _, hcl_4, by decide, rfl, h_in (List.mem_of_getElem? (i := 42) (by decide +kernel)) rfl, rfl, rfl⟩
theorem ff_RX4_13 : h_FF RX4 13 5 1 0 := ⟨_, _, _, hcl_4, by decide, rfl, h_in (List.mem_of_getElem? (i := 44) (by decide +kernel)) rfl, rfl, rfl⟩
theorem lk_RX4_8 : Cond.classLink RX4 8 RX4 ∈ h_ws := h_in (List.mem_of_getElem? (i := 289) (by decide +kernel)) rfl
set_option maxRecDepth 100000 in
theorem cd_X4_init : Cond.code yX4_init cX4_init 3 none ∈ h_ws := h_in (List.mem_of_getElem? (i := 40) rfl) rfl
theorem mi_RX4_20 : h_MI RX4 20 yX4_init cX4_init 3 2 := ⟨rfl, ⟨by decide, by decide, by decide +kernel⟩, h_in (List.mem_of_getElem? (i := 290) (by decide +kernel)) rfl, h_in (List.mem_of_getElem? (i := 39) (by decide +kernel)) rfl, h_in (List.mem_of_getElem? (i := 4) (by decide +kernel)) rfl, cd_X4_init⟩
theorem ob_RX5 : Cond.methodLink RX5 3 Lib.objectInit ∈ h_ws := h_in (List.mem_of_getElem? (i := 93) (by decide +kernel)) rfl
theorem ac_int : Cond.arrayClass .int ∈ h_ws := h_in (List.mem_of_getElem? (i := 109) (by decide +kernel)) rfl
theorem ff_RX5_11 : h_FF RX5 11 6 0 1 := ⟨_, _, _, hcl_5, by decide, rfl, h_in (List.mem_of_getElem? (i := 94) (by decide +kernel)) rfl, rfl, rfl⟩
theorem fl_RX5_15 : h_FL RX5 15 6 2 0 := ⟨_, _, _, hcl_5, by decide, rfl, h_in (List.mem_of_getElem? (i := 96) (by decide +kernel)) rfl⟩
theorem fl_RX5_32 : h_FL RX5 32 6 1 0 := ⟨_, _, _, hcl_5, by decide, rfl, h_in (List.mem_of_getElem? (i := 95) (by decide +kernel)) rfl⟩
theorem fl_RX5_11 : h_FL RX5 11 6 0 1 := ⟨_, _, _, hcl_5, by decide, rfl, h_in (List.mem_of_getElem? (i := 94) (by decide +kernel)) rfl⟩
set_option maxRecDepth 100000 in
theorem cd_X5_cell : Cond.code yX5_cell cX5_cell 2 (some .int) ∈ h_ws := h_in (List.mem_of_getElem? (i := 447) rfl) rfl
theorem mv_RX5_19 : h_MV RX5 19 6 yX5_cell cX5_cell 2 (some .int) 1 := ⟨⟨_, _, hcl_5⟩, ⟨by decide, by decide, by decide +kernel⟩, h_in (List.mem_of_getElem? (i := 444) (by decide +kernel)) rfl, h_in (List.mem_of_getElem? (i := 446) (by decide +kernel)) rfl, h_inS (q := (yX5_cell, 4)) (List.mem_append_left _ (List.mem_of_getElem? (i := 8) rfl)) rfl, cd_X5_cell⟩
theorem cy_RX5 : Cond.methodLink RX5 23 arraycopyName ∈ h_ws := h_in (List.mem_of_getElem? (i := 448) (by decide +kernel)) rfl
theorem fw_RX5_15 : h_FW RX5 15 6 2 0 := ⟨_, _, _, hcl_5, by decide, rfl, h_in (List.mem_of_getElem? (i := 96) (by decide +kernel)) rfl, rfl⟩
theorem fl_RX5_29 : h_FL RX5 29 6 3 0 := ⟨_, _, _, hcl_5, by decide, rfl, h_in (List.mem_of_getElem? (i := 98) (by decide +kernel)) rfl⟩
theorem fw_RX5_29 : h_FW RX5 29 6 3 0 := ⟨_, _, _, hcl_5, by decide, rfl, h_in (List.mem_of_getElem? (i := 98) (by decide +kernel)) rfl, rfl⟩
theorem fw_RX5_32 : h_FW RX5 32 6 1 0 := ⟨_, _, _, hcl_5, by decide, rfl, h_in (List.mem_of_getElem? (i := 95) (by decide +kernel)) rfl, rfl⟩
theorem ob_RX6 : Cond.methodLink RX6 3 Lib.objectInit ∈ h_ws := h_in (List.mem_of_getElem? (i := 56) (by decide +kernel)) rfl
theorem ff_RX6_9 : h_FF RX6 9 7 0 0 := ⟨_, _, _, hcl_6, by decide, rfl, h_in (List.mem_of_getElem? (i := 60) (by decide +kernel)) rfl, rfl, rfl⟩
theorem ff_RX6_15 : h_FF RX6 15 7 1 0 := ⟨_, _, _, hcl_6, by decide, rfl, h_in (List.mem_of_getElem? (i := 63) (by decide +kernel)) rfl, rfl, rfl⟩
theorem ff_RX6_18 : h_FF RX6 18 7 2 1 := ⟨_, _, _, hcl_6, by decide, rfl, h_in (List.mem_of_getElem? (i := 65) (by decide +kernel)) rfl, rfl, rfl⟩
theorem lk_RX6_22 : Cond.classLink RX6 22 RX0 ∈ h_ws := h_in (List.mem_of_getElem? (i := 57) (by decide +kernel)) rfl
theorem ao_0 : RX0 ∈ h_aos := by decide
theorem ff_RX6_24 : h_FF RX6 24 7 3 1 := ⟨_, _, _, hcl_6, by decide, rfl, h_in (List.mem_of_getElem? (i := 68) (by decide +kernel)) rfl, rfl, rfl⟩
theorem ac_long : Cond.arrayClass .long ∈ h_ws := h_in (List.mem_of_getElem? (i := 81) (by decide +kernel)) rfl
theorem ff_RX6_28 : h_FF RX6 28 7 4 1 := ⟨_, _, _, hcl_6, by decide, rfl, h_in (List.mem_of_getElem? (i := 69) (by decide +kernel)) rfl, rfl, rfl⟩
theorem fl_RX6_28 : h_FL RX6 28 7 4 1 := ⟨_, _, _, hcl_6, by decide, rfl, h_in (List.mem_of_getElem? (i := 69) (by decide +kernel)) rfl⟩
theorem ck_RX6_34 : Cond.constantLong RX6 34 (-9223372036854775808) ∈ h_ws := h_in (List.mem_of_getElem? (i := 59) (by decide +kernel)) rfl
theorem fl_RX6_24 : h_FL RX6 24 7 3 1 := ⟨_, _, _, hcl_6, by decide, rfl, h_in (List.mem_of_getElem? (i := 68) (by decide +kernel)) rfl⟩
set_option maxRecDepth 100000 in
theorem cd_X0_holdsAt : Cond.code yX0_holdsAt cX0_holdsAt 2 (some .boolean) ∈ h_ws := h_in (List.mem_of_getElem? (i := 174) rfl) rfl
theorem mv_RX6_65 : h_MV RX6 65 1 yX0_holdsAt cX0_holdsAt 2 (some .boolean) 1 := ⟨⟨_, _, hcl_0⟩, ⟨by decide, by decide, by decide +kernel⟩, h_in (List.mem_of_getElem? (i := 171) (by decide +kernel)) rfl, h_in (List.mem_of_getElem? (i := 172) (by decide +kernel)) rfl, h_in (List.mem_of_getElem? (i := 173) (by decide +kernel)) rfl, cd_X0_holdsAt⟩
set_option maxRecDepth 100000 in
theorem cd_X6_isLive : Cond.code yX6_isLive cX6_isLive 3 (some .boolean) ∈ h_ws := h_in (List.mem_of_getElem? (i := 170) rfl) rfl
theorem mv_RX6_40 : h_MV RX6 40 7 yX6_isLive cX6_isLive 3 (some .boolean) 2 := ⟨⟨_, _, hcl_6⟩, ⟨by decide, by decide, by decide +kernel⟩, h_in (List.mem_of_getElem? (i := 167) (by decide +kernel)) rfl, h_in (List.mem_of_getElem? (i := 169) (by decide +kernel)) rfl, h_inS (q := (yX6_isLive, 5)) (List.mem_append_left _ (List.mem_of_getElem? (i := 0) rfl)) rfl, cd_X6_isLive⟩
theorem fl_RX6_47 : h_FL RX6 47 1 0 1 := ⟨_, _, _, hcl_0, by decide, rfl, h_in (List.mem_of_getElem? (i := 613) (by decide +kernel)) rfl⟩
set_option maxRecDepth 100000 in
theorem cd_X4_same : Cond.code yX4_same cX4_same 2 (some .boolean) ∈ h_ws := h_in (List.mem_of_getElem? (i := 294) rfl) rfl
theorem mv_RX6_68 : h_MV RX6 68 5 yX4_same cX4_same 2 (some .boolean) 1 := ⟨⟨_, _, hcl_4⟩, ⟨by decide, by decide, by decide +kernel⟩, h_in (List.mem_of_getElem? (i := 605) (by decide +kernel)) rfl, h_in (List.mem_of_getElem? (i := 292) (by decide +kernel)) rfl, h_in (List.mem_of_getElem? (i := 293) (by decide +kernel)) rfl, cd_X4_same⟩
set_option maxRecDepth 100000 in
theorem cd_X6_slotFor : Cond.code yX6_slotFor cX6_slotFor 5 (some .int) ∈ h_ws := h_in (List.mem_of_getElem? (i := 604) rfl) rfl
theorem mv_RX6_36 : h_MV RX6 36 7 yX6_slotFor cX6_slotFor 5 (some .int) 2 := ⟨⟨_, _, hcl_6⟩, ⟨by decide, by decide, by decide +kernel⟩, h_in (List.mem_of_getElem? (i := 601) (by decide +kernel)) rfl, h_in (List.mem_of_getElem? (i := 603) (by decide +kernel)) rfl, h_inS (q := (yX6_slotFor, 5)) (List.mem_append_right _ (List.mem_append_left _ (List.mem_of_getElem? (i := 0) rfl))) rfl, cd_X6_slotFor⟩
theorem fl_RX6_44 : h_FL RX6 44 1 1 0 := ⟨_, _, _, hcl_0, by decide, rfl, h_in (List.mem_of_getElem? (i := 616) (by decide +kernel)) rfl⟩
theorem fl_RX6_50 : h_FL RX6 50 1 3 0 := ⟨_, _, _, hcl_0, by decide, rfl, h_in (List.mem_of_getElem? (i := 621) (by decide +kernel)) rfl⟩
theorem mv_RX6_53 : h_MV RX6 53 5 yX4_has cX4_has 2 (some .boolean) 1 := ⟨⟨_, _, hcl_4⟩, ⟨by decide, by decide, by decide +kernel⟩, h_in (List.mem_of_getElem? (i := 175) (by decide +kernel)) rfl, h_in (List.mem_of_getElem? (i := 176) (by decide +kernel)) rfl, h_in (List.mem_of_getElem? (i := 177) (by decide +kernel)) rfl, cd_X4_has⟩
theorem fl_RX6_59 : h_FL RX6 59 5 1 0 := ⟨_, _, _, hcl_4, by decide, rfl, h_in (List.mem_of_getElem? (i := 45) (by decide +kernel)) rfl⟩
set_option maxRecDepth 100000 in
theorem cd_X4_liesRound : Cond.code yX4_liesRound cX4_liesRound 3 (some .boolean) ∈ h_ws := h_in (List.mem_of_getElem? (i := 665) rfl) rfl
theorem mv_RX6_62 : h_MV RX6 62 5 yX4_liesRound cX4_liesRound 3 (some .boolean) 2 := ⟨⟨_, _, hcl_4⟩, ⟨by decide, by decide, by decide +kernel⟩, h_in (List.mem_of_getElem? (i := 662) (by decide +kernel)) rfl, h_in (List.mem_of_getElem? (i := 663) (by decide +kernel)) rfl, h_in (List.mem_of_getElem? (i := 664) (by decide +kernel)) rfl, cd_X4_liesRound⟩
theorem ob_RX7 : Cond.methodLink RX7 1 Lib.objectInit ∈ h_ws := h_in (List.mem_of_getElem? (i := 339) (by decide +kernel)) rfl
theorem fw_RX7_7 : h_FW RX7 7 8 0 0 := ⟨_, _, _, hcl_7, by decide, rfl, h_in (List.mem_of_getElem? (i := 357) (by decide +kernel)) rfl, rfl⟩
theorem lk_RX7_13 : Cond.classLink RX7 13 RX4 ∈ h_ws := h_in (List.mem_of_getElem? (i := 340) (by decide +kernel)) rfl
theorem ao_4 : RX4 ∈ h_aos := by decide
theorem ff_RX7_15 : h_FF RX7 15 8 2 1 := ⟨_, _, _, hcl_7, by decide, rfl, h_in (List.mem_of_getElem? (i := 360) (by decide +kernel)) rfl, rfl, rfl⟩
theorem lk_RX7_19 : Cond.classLink RX7 19 RX2 ∈ h_ws := h_in (List.mem_of_getElem? (i := 342) (by decide +kernel)) rfl
set_option maxRecDepth 100000 in
theorem cd_X2_init : Cond.code yX2_init cX2_init 1 none ∈ h_ws := h_in (List.mem_of_getElem? (i := 346) rfl) rfl
theorem mi_RX7_21 : h_MI RX7 21 yX2_init cX2_init 1 0 := ⟨rfl, ⟨by decide, by decide, by decide +kernel⟩, h_in (List.mem_of_getElem? (i := 344) (by decide +kernel)) rfl, h_in (List.mem_of_getElem? (i := 345) (by decide +kernel)) rfl, h_in (List.mem_of_getElem? (i := 12) (by decide +kernel)) rfl, cd_X2_init⟩
theorem ff_RX7_22 : h_FF RX7 22 8 4 1 := ⟨_, _, _, hcl_7, by decide, rfl, h_in (List.mem_of_getElem? (i := 364) (by decide +kernel)) rfl, rfl, rfl⟩
theorem fl_RX7_26 : h_FL RX7 26 8 3 0 := ⟨_, _, _, hcl_7, by decide, rfl, h_in (List.mem_of_getElem? (i := 362) (by decide +kernel)) rfl⟩
theorem fl_RX7_15 : h_FL RX7 15 8 2 1 := ⟨_, _, _, hcl_7, by decide, rfl, h_in (List.mem_of_getElem? (i := 360) (by decide +kernel)) rfl⟩
theorem fw_RX7_26 : h_FW RX7 26 8 3 0 := ⟨_, _, _, hcl_7, by decide, rfl, h_in (List.mem_of_getElem? (i := 362) (by decide +kernel)) rfl, rfl⟩
theorem mv_RX7_29 : h_MV RX7 29 5 yX4_same cX4_same 2 (some .boolean) 1 := ⟨⟨_, _, hcl_4⟩, ⟨by decide, by decide, by decide +kernel⟩, h_in (List.mem_of_getElem? (i := 406) (by decide +kernel)) rfl, h_in (List.mem_of_getElem? (i := 292) (by decide +kernel)) rfl, h_in (List.mem_of_getElem? (i := 293) (by decide +kernel)) rfl, cd_X4_same⟩
theorem mv_RX7_33 : h_MV RX7 33 5 yX4_has cX4_has 2 (some .boolean) 1 := ⟨⟨_, _, hcl_4⟩, ⟨by decide, by decide, by decide +kernel⟩, h_in (List.mem_of_getElem? (i := 519) (by decide +kernel)) rfl, h_in (List.mem_of_getElem? (i := 176) (by decide +kernel)) rfl, h_in (List.mem_of_getElem? (i := 177) (by decide +kernel)) rfl, cd_X4_has⟩
theorem ob_RX8 : Cond.methodLink RX8 3 Lib.objectInit ∈ h_ws := h_in (List.mem_of_getElem? (i := 32) (by decide +kernel)) rfl
theorem lk_RX8_9 : Cond.classLink RX8 9 RX6 ∈ h_ws := h_in (List.mem_of_getElem? (i := 33) (by decide +kernel)) rfl
theorem ao_6 : RX6 ∈ h_aos := by decide
theorem ff_RX8_11 : h_FF RX8 11 9 0 1 := ⟨_, _, _, hcl_8, by decide, rfl, h_in (List.mem_of_getElem? (i := 82) (by decide +kernel)) rfl, rfl, rfl⟩
theorem fl_RX8_11 : h_FL RX8 11 9 0 1 := ⟨_, _, _, hcl_8, by decide, rfl, h_in (List.mem_of_getElem? (i := 82) (by decide +kernel)) rfl⟩
theorem lk_RX8_17 : Cond.classLink RX8 17 RX4 ∈ h_ws := h_in (List.mem_of_getElem? (i := 36) (by decide +kernel)) rfl
theorem mi_RX8_19 : h_MI RX8 19 yX4_init cX4_init 3 2 := ⟨rfl, ⟨by decide, by decide, by decide +kernel⟩, h_in (List.mem_of_getElem? (i := 38) (by decide +kernel)) rfl, h_in (List.mem_of_getElem? (i := 39) (by decide +kernel)) rfl, h_in (List.mem_of_getElem? (i := 4) (by decide +kernel)) rfl, cd_X4_init⟩
set_option maxRecDepth 100000 in
theorem cd_X6_init : Cond.code yX6_init cX6_init 5 none ∈ h_ws := h_in (List.mem_of_getElem? (i := 55) rfl) rfl
theorem mi_RX8_22 : h_MI RX8 22 yX6_init cX6_init 5 3 := ⟨rfl, ⟨by decide, by decide, by decide +kernel⟩, h_in (List.mem_of_getElem? (i := 53) (by decide +kernel)) rfl, h_in (List.mem_of_getElem? (i := 54) (by decide +kernel)) rfl, h_in (List.mem_of_getElem? (i := 3) (by decide +kernel)) rfl, cd_X6_init⟩
theorem fl_RX8_25 : h_FL RX8 25 7 0 0 := ⟨_, _, _, hcl_6, by decide, rfl, h_in (List.mem_of_getElem? (i := 61) (by decide +kernel)) rfl⟩
theorem fl_RX8_80 : h_FL RX8 80 7 1 0 := ⟨_, _, _, hcl_6, by decide, rfl, h_in (List.mem_of_getElem? (i := 64) (by decide +kernel)) rfl⟩
theorem fl_RX8_29 : h_FL RX8 29 7 2 1 := ⟨_, _, _, hcl_6, by decide, rfl, h_in (List.mem_of_getElem? (i := 67) (by decide +kernel)) rfl⟩
theorem mv_RX8_33 : h_MV RX8 33 5 yX4_liesIn cX4_liesIn 2 (some .boolean) 1 := ⟨⟨_, _, hcl_4⟩, ⟨by decide, by decide, by decide +kernel⟩, h_in (List.mem_of_getElem? (i := 299) (by decide +kernel)) rfl, h_in (List.mem_of_getElem? (i := 300) (by decide +kernel)) rfl, h_in (List.mem_of_getElem? (i := 301) (by decide +kernel)) rfl, cd_X4_liesIn⟩
set_option maxRecDepth 100000 in
theorem cd_X8_isChild : Cond.code yX8_isChild cX8_isChild 3 (some .boolean) ∈ h_ws := h_in (List.mem_of_getElem? (i := 306) rfl) rfl
theorem mv_RX8_37 : h_MV RX8 37 9 yX8_isChild cX8_isChild 3 (some .boolean) 2 := ⟨⟨_, _, hcl_8⟩, ⟨by decide, by decide, by decide +kernel⟩, h_in (List.mem_of_getElem? (i := 303) (by decide +kernel)) rfl, h_in (List.mem_of_getElem? (i := 305) (by decide +kernel)) rfl, h_inS (q := (yX8_isChild, 1)) (List.mem_append_left _ (List.mem_of_getElem? (i := 3) rfl)) rfl, cd_X8_isChild⟩
theorem mv_RX8_41 : h_MV RX8 41 5 yX4_meets cX4_meets 2 (some .boolean) 1 := ⟨⟨_, _, hcl_4⟩, ⟨by decide, by decide, by decide +kernel⟩, h_in (List.mem_of_getElem? (i := 307) (by decide +kernel)) rfl, h_in (List.mem_of_getElem? (i := 308) (by decide +kernel)) rfl, h_in (List.mem_of_getElem? (i := 309) (by decide +kernel)) rfl, cd_X4_meets⟩
set_option maxRecDepth 100000 in
theorem cd_X8_owns : Cond.code yX8_owns cX8_owns 4 (some .boolean) ∈ h_ws := h_in (List.mem_of_getElem? (i := 298) rfl) rfl
theorem mv_RX8_44 : h_MV RX8 44 9 yX8_owns cX8_owns 4 (some .boolean) 2 := ⟨⟨_, _, hcl_8⟩, ⟨by decide, by decide, by decide +kernel⟩, h_in (List.mem_of_getElem? (i := 397) (by decide +kernel)) rfl, h_in (List.mem_of_getElem? (i := 296) (by decide +kernel)) rfl, h_in (List.mem_of_getElem? (i := 297) (by decide +kernel)) rfl, cd_X8_owns⟩
theorem mv_RX8_48 : h_MV RX8 48 5 yX4_has cX4_has 2 (some .boolean) 1 := ⟨⟨_, _, hcl_4⟩, ⟨by decide, by decide, by decide +kernel⟩, h_in (List.mem_of_getElem? (i := 648) (by decide +kernel)) rfl, h_in (List.mem_of_getElem? (i := 176) (by decide +kernel)) rfl, h_in (List.mem_of_getElem? (i := 177) (by decide +kernel)) rfl, cd_X4_has⟩
theorem mv_RX8_83 : h_MV RX8 83 5 yX4_liesRound cX4_liesRound 3 (some .boolean) 2 := ⟨⟨_, _, hcl_4⟩, ⟨by decide, by decide, by decide +kernel⟩, h_in (List.mem_of_getElem? (i := 670) (by decide +kernel)) rfl, h_in (List.mem_of_getElem? (i := 663) (by decide +kernel)) rfl, h_in (List.mem_of_getElem? (i := 664) (by decide +kernel)) rfl, cd_X4_liesRound⟩
theorem fl_RX8_55 : h_FL RX8 55 1 0 1 := ⟨_, _, _, hcl_0, by decide, rfl, h_in (List.mem_of_getElem? (i := 614) (by decide +kernel)) rfl⟩
theorem fl_RX8_52 : h_FL RX8 52 5 1 0 := ⟨_, _, _, hcl_4, by decide, rfl, h_in (List.mem_of_getElem? (i := 46) (by decide +kernel)) rfl⟩
set_option maxRecDepth 100000 in
theorem cd_X4_round : Cond.code yX4_round cX4_round 2 (some (.object RX4)) ∈ h_ws := h_in (List.mem_of_getElem? (i := 673) rfl) rfl
theorem ms_RX8_68 : h_MS RX8 68 yX4_round cX4_round 2 (some (.object RX4)) 2 := ⟨⟨by decide, by decide, by decide +kernel⟩, h_in (List.mem_of_getElem? (i := 671) (by decide +kernel)) rfl, h_in (List.mem_of_getElem? (i := 672) (by decide +kernel)) rfl, h_in (List.mem_of_getElem? (i := 4) (by decide +kernel)) rfl, cd_X4_round⟩
set_option maxRecDepth 100000 in
theorem cd_X6_hasOtherRound : Cond.code yX6_hasOtherRound cX6_hasOtherRound 6 (some .boolean) ∈ h_ws := h_in (List.mem_of_getElem? (i := 661) rfl) rfl
theorem mv_RX8_60 : h_MV RX8 60 7 yX6_hasOtherRound cX6_hasOtherRound 6 (some .boolean) 4 := ⟨⟨_, _, hcl_6⟩, ⟨by decide, by decide, by decide +kernel⟩, h_in (List.mem_of_getElem? (i := 658) (by decide +kernel)) rfl, h_in (List.mem_of_getElem? (i := 659) (by decide +kernel)) rfl, h_in (List.mem_of_getElem? (i := 660) (by decide +kernel)) rfl, cd_X6_hasOtherRound⟩
set_option maxRecDepth 100000 in
theorem cd_X8_hasChildRound : Cond.code yX8_hasChildRound cX8_hasChildRound 5 (some .boolean) ∈ h_ws := h_in (List.mem_of_getElem? (i := 669) rfl) rfl
theorem mv_RX8_64 : h_MV RX8 64 9 yX8_hasChildRound cX8_hasChildRound 5 (some .boolean) 3 := ⟨⟨_, _, hcl_8⟩, ⟨by decide, by decide, by decide +kernel⟩, h_in (List.mem_of_getElem? (i := 666) (by decide +kernel)) rfl, h_in (List.mem_of_getElem? (i := 668) (by decide +kernel)) rfl, h_inS (q := (yX8_hasChildRound, 1)) (List.mem_append_right _ (List.mem_append_left _ (List.mem_of_getElem? (i := 3) rfl))) rfl, cd_X8_hasChildRound⟩
set_option maxRecDepth 100000 in
theorem cd_X6_best : Cond.code yX6_best cX6_best 5 (some (.object RX0)) ∈ h_ws := h_in (List.mem_of_getElem? (i := 166) rfl) rfl
theorem mv_RX8_72 : h_MV RX8 72 7 yX6_best cX6_best 5 (some (.object RX0)) 2 := ⟨⟨_, _, hcl_6⟩, ⟨by decide, by decide, by decide +kernel⟩, h_in (List.mem_of_getElem? (i := 163) (by decide +kernel)) rfl, h_in (List.mem_of_getElem? (i := 164) (by decide +kernel)) rfl, h_in (List.mem_of_getElem? (i := 165) (by decide +kernel)) rfl, cd_X6_best⟩
set_option maxRecDepth 100000 in
theorem cd_X6_countEntries : Cond.code yX6_countEntries cX6_countEntries 4 (some .int) ∈ h_ws := h_in (List.mem_of_getElem? (i := 193) rfl) rfl
theorem mv_RX8_76 : h_MV RX8 76 7 yX6_countEntries cX6_countEntries 4 (some .int) 1 := ⟨⟨_, _, hcl_6⟩, ⟨by decide, by decide, by decide +kernel⟩, h_in (List.mem_of_getElem? (i := 190) (by decide +kernel)) rfl, h_in (List.mem_of_getElem? (i := 191) (by decide +kernel)) rfl, h_in (List.mem_of_getElem? (i := 192) (by decide +kernel)) rfl, cd_X6_countEntries⟩
theorem ob_RX9 : Cond.methodLink RX9 1 Lib.objectInit ∈ h_ws := h_in (List.mem_of_getElem? (i := 24) (by decide +kernel)) rfl
theorem lk_RX9_7 : Cond.classLink RX9 7 RX8 ∈ h_ws := h_in (List.mem_of_getElem? (i := 27) (by decide +kernel)) rfl
set_option maxRecDepth 100000 in
theorem cd_X8_init : Cond.code yX8_init cX8_init 1 none ∈ h_ws := h_in (List.mem_of_getElem? (i := 31) rfl) rfl
theorem mi_RX9_9 : h_MI RX9 9 yX8_init cX8_init 1 0 := ⟨rfl, ⟨by decide, by decide, by decide +kernel⟩, h_in (List.mem_of_getElem? (i := 29) (by decide +kernel)) rfl, h_in (List.mem_of_getElem? (i := 30) (by decide +kernel)) rfl, h_in (List.mem_of_getElem? (i := 2) (by decide +kernel)) rfl, cd_X8_init⟩
theorem ff_RX9_10 : h_FF RX9 10 10 0 1 := ⟨_, _, _, hcl_9, by decide, rfl, h_in (List.mem_of_getElem? (i := 112) (by decide +kernel)) rfl, rfl, rfl⟩
theorem lk_RX9_16 : Cond.classLink RX9 16 RX7 ∈ h_ws := h_in (List.mem_of_getElem? (i := 86) (by decide +kernel)) rfl
theorem ao_7 : RX7 ∈ h_aos := by decide
theorem ff_RX9_18 : h_FF RX9 18 10 1 1 := ⟨_, _, _, hcl_9, by decide, rfl, h_in (List.mem_of_getElem? (i := 113) (by decide +kernel)) rfl, rfl, rfl⟩
theorem ff_RX9_22 : h_FF RX9 22 10 2 1 := ⟨_, _, _, hcl_9, by decide, rfl, h_in (List.mem_of_getElem? (i := 114) (by decide +kernel)) rfl, rfl, rfl⟩
theorem ff_RX9_26 : h_FF RX9 26 10 3 1 := ⟨_, _, _, hcl_9, by decide, rfl, h_in (List.mem_of_getElem? (i := 115) (by decide +kernel)) rfl, rfl, rfl⟩
theorem lk_RX9_29 : Cond.classLink RX9 29 RX5 ∈ h_ws := h_in (List.mem_of_getElem? (i := 88) (by decide +kernel)) rfl
set_option maxRecDepth 100000 in
theorem cd_X5_init : Cond.code yX5_init cX5_init 1 none ∈ h_ws := h_in (List.mem_of_getElem? (i := 92) rfl) rfl
theorem mi_RX9_31 : h_MI RX9 31 yX5_init cX5_init 1 0 := ⟨rfl, ⟨by decide, by decide, by decide +kernel⟩, h_in (List.mem_of_getElem? (i := 90) (by decide +kernel)) rfl, h_in (List.mem_of_getElem? (i := 91) (by decide +kernel)) rfl, h_in (List.mem_of_getElem? (i := 5) (by decide +kernel)) rfl, cd_X5_init⟩
theorem ff_RX9_32 : h_FF RX9 32 10 4 1 := ⟨_, _, _, hcl_9, by decide, rfl, h_in (List.mem_of_getElem? (i := 116) (by decide +kernel)) rfl, rfl, rfl⟩
theorem ff_RX9_36 : h_FF RX9 36 10 5 1 := ⟨_, _, _, hcl_9, by decide, rfl, h_in (List.mem_of_getElem? (i := 117) (by decide +kernel)) rfl, rfl, rfl⟩
theorem ff_RX9_39 : h_FF RX9 39 10 6 1 := ⟨_, _, _, hcl_9, by decide, rfl, h_in (List.mem_of_getElem? (i := 118) (by decide +kernel)) rfl, rfl, rfl⟩
theorem lk_RX9_42 : Cond.classLink RX9 42 RX3 ∈ h_ws := h_in (List.mem_of_getElem? (i := 110) (by decide +kernel)) rfl
theorem ao_3 : RX3 ∈ h_aos := by decide
theorem ff_RX9_44 : h_FF RX9 44 10 7 1 := ⟨_, _, _, hcl_9, by decide, rfl, h_in (List.mem_of_getElem? (i := 119) (by decide +kernel)) rfl, rfl, rfl⟩
theorem fw_RX9_48 : h_FW RX9 48 10 10 0 := ⟨_, _, _, hcl_9, by decide, rfl, h_in (List.mem_of_getElem? (i := 122) (by decide +kernel)) rfl, rfl⟩
theorem fl_RX9_22 : h_FL RX9 22 10 2 1 := ⟨_, _, _, hcl_9, by decide, rfl, h_in (List.mem_of_getElem? (i := 114) (by decide +kernel)) rfl⟩
theorem fl_RX9_18 : h_FL RX9 18 10 1 1 := ⟨_, _, _, hcl_9, by decide, rfl, h_in (List.mem_of_getElem? (i := 113) (by decide +kernel)) rfl⟩
theorem fl_RX9_132 : h_FL RX9 132 8 0 0 := ⟨_, _, _, hcl_7, by decide, rfl, h_in (List.mem_of_getElem? (i := 358) (by decide +kernel)) rfl⟩
set_option maxRecDepth 100000 in
theorem cd_X7_holds : Cond.code yX7_holds cX7_holds 3 (some .boolean) ∈ h_ws := h_in (List.mem_of_getElem? (i := 405) rfl) rfl
theorem mv_RX9_277 : h_MV RX9 277 8 yX7_holds cX7_holds 3 (some .boolean) 1 := ⟨⟨_, _, hcl_7⟩, ⟨by decide, by decide, by decide +kernel⟩, h_in (List.mem_of_getElem? (i := 402) (by decide +kernel)) rfl, h_in (List.mem_of_getElem? (i := 403) (by decide +kernel)) rfl, h_in (List.mem_of_getElem? (i := 404) (by decide +kernel)) rfl, cd_X7_holds⟩
theorem ck_RX9_290 : Cond.constant RX9 290 (16777619) ∈ h_ws := h_in (List.mem_of_getElem? (i := 439) (by decide +kernel)) rfl
theorem ck_RX9_283 : Cond.constant RX9 283 (40503) ∈ h_ws := h_in (List.mem_of_getElem? (i := 435) (by decide +kernel)) rfl
set_option maxRecDepth 100000 in
theorem cd_X9_mix : Cond.code yX9_mix cX9_mix 3 (some .int) ∈ h_ws := h_in (List.mem_of_getElem? (i := 438) rfl) rfl
theorem ms_RX9_284 : h_MS RX9 284 yX9_mix cX9_mix 3 (some .int) 2 := ⟨⟨by decide, by decide, by decide +kernel⟩, h_in (List.mem_of_getElem? (i := 436) (by decide +kernel)) rfl, h_in (List.mem_of_getElem? (i := 437) (by decide +kernel)) rfl, h_in (List.mem_of_getElem? (i := 1) (by decide +kernel)) rfl, cd_X9_mix⟩
theorem fl_RX9_287 : h_FL RX9 287 5 0 0 := ⟨_, _, _, hcl_4, by decide, rfl, h_in (List.mem_of_getElem? (i := 43) (by decide +kernel)) rfl⟩
theorem fl_RX9_242 : h_FL RX9 242 5 1 0 := ⟨_, _, _, hcl_4, by decide, rfl, h_in (List.mem_of_getElem? (i := 47) (by decide +kernel)) rfl⟩
theorem fl_RX9_39 : h_FL RX9 39 10 6 1 := ⟨_, _, _, hcl_9, by decide, rfl, h_in (List.mem_of_getElem? (i := 118) (by decide +kernel)) rfl⟩
set_option maxRecDepth 100000 in
theorem cd_X9_tag : Cond.code yX9_tag cX9_tag 5 (some .int) ∈ h_ws := h_in (List.mem_of_getElem? (i := 434) rfl) rfl
theorem ms_RX9_294 : h_MS RX9 294 yX9_tag cX9_tag 5 (some .int) 4 := ⟨⟨by decide, by decide, by decide +kernel⟩, h_in (List.mem_of_getElem? (i := 432) (by decide +kernel)) rfl, h_in (List.mem_of_getElem? (i := 433) (by decide +kernel)) rfl, h_in (List.mem_of_getElem? (i := 1) (by decide +kernel)) rfl, cd_X9_tag⟩
theorem fl_RX9_32 : h_FL RX9 32 10 4 1 := ⟨_, _, _, hcl_9, by decide, rfl, h_in (List.mem_of_getElem? (i := 116) (by decide +kernel)) rfl⟩
set_option maxRecDepth 100000 in
theorem cd_X5_add : Cond.code yX5_add cX5_add 5 none ∈ h_ws := h_in (List.mem_of_getElem? (i := 443) rfl) rfl
theorem mv_RX9_291 : h_MV RX9 291 6 yX5_add cX5_add 5 none 3 := ⟨⟨_, _, hcl_5⟩, ⟨by decide, by decide, by decide +kernel⟩, h_in (List.mem_of_getElem? (i := 440) (by decide +kernel)) rfl, h_in (List.mem_of_getElem? (i := 441) (by decide +kernel)) rfl, h_in (List.mem_of_getElem? (i := 442) (by decide +kernel)) rfl, cd_X5_add⟩
set_option maxRecDepth 100000 in
theorem cd_X1_isHole : Cond.code yX1_isHole cX1_isHole 1 (some .boolean) ∈ h_ws := h_in (List.mem_of_getElem? (i := 536) rfl) rfl
theorem mv_RX9_326 : h_MV RX9 326 2 yX1_isHole cX1_isHole 1 (some .boolean) 0 := ⟨⟨_, _, hcl_1⟩, ⟨by decide, by decide, by decide +kernel⟩, h_in (List.mem_of_getElem? (i := 533) (by decide +kernel)) rfl, h_in (List.mem_of_getElem? (i := 534) (by decide +kernel)) rfl, h_in (List.mem_of_getElem? (i := 535) (by decide +kernel)) rfl, cd_X1_isHole⟩
theorem fw_RX9_215 : h_FW RX9 215 4 3 0 := ⟨_, _, _, hcl_3, by decide, rfl, h_in (List.mem_of_getElem? (i := 487) (by decide +kernel)) rfl, rfl⟩
theorem fl_RX9_245 : h_FL RX9 245 2 1 0 := ⟨_, _, _, hcl_1, by decide, rfl, h_in (List.mem_of_getElem? (i := 700) (by decide +kernel)) rfl⟩
theorem fl_RX9_304 : h_FL RX9 304 4 1 0 := ⟨_, _, _, hcl_3, by decide, rfl, h_in (List.mem_of_getElem? (i := 483) (by decide +kernel)) rfl⟩
theorem fl_RX9_172 : h_FL RX9 172 4 0 0 := ⟨_, _, _, hcl_3, by decide, rfl, h_in (List.mem_of_getElem? (i := 481) (by decide +kernel)) rfl⟩
theorem fl_RX9_305 : h_FL RX9 305 4 2 0 := ⟨_, _, _, hcl_3, by decide, rfl, h_in (List.mem_of_getElem? (i := 485) (by decide +kernel)) rfl⟩
set_option maxRecDepth 100000 in
theorem cd_X9_postShort : Cond.code yX9_postShort cX9_postShort 6 none ∈ h_ws := h_in (List.mem_of_getElem? (i := 540) rfl) rfl
theorem mv_RX9_308 : h_MV RX9 308 10 yX9_postShort cX9_postShort 6 none 5 := ⟨⟨_, _, hcl_9⟩, ⟨by decide, by decide, by decide +kernel⟩, h_in (List.mem_of_getElem? (i := 537) (by decide +kernel)) rfl, h_in (List.mem_of_getElem? (i := 539) (by decide +kernel)) rfl, h_inS (q := (yX9_postShort, 14)) (List.mem_append_left _ (List.mem_of_getElem? (i := 11) rfl)) rfl, cd_X9_postShort⟩
theorem fl_RX9_48 : h_FL RX9 48 10 10 0 := ⟨_, _, _, hcl_9, by decide, rfl, h_in (List.mem_of_getElem? (i := 122) (by decide +kernel)) rfl⟩
set_option maxRecDepth 100000 in
theorem cd_X9_draw : Cond.code yX9_draw cX9_draw 1 (some .int) ∈ h_ws := h_in (List.mem_of_getElem? (i := 548) rfl) rfl
theorem mv_RX9_298 : h_MV RX9 298 10 yX9_draw cX9_draw 1 (some .int) 0 := ⟨⟨_, _, hcl_9⟩, ⟨by decide, by decide, by decide +kernel⟩, h_in (List.mem_of_getElem? (i := 545) (by decide +kernel)) rfl, h_in (List.mem_of_getElem? (i := 547) (by decide +kernel)) rfl, h_inS (q := (yX9_draw, 14)) (List.mem_append_left _ (List.mem_of_getElem? (i := 13) rfl)) rfl, cd_X9_draw⟩
theorem fw_RX9_301 : h_FW RX9 301 4 4 0 := ⟨_, _, _, hcl_3, by decide, rfl, h_in (List.mem_of_getElem? (i := 488) (by decide +kernel)) rfl, rfl⟩
theorem fl_RX9_301 : h_FL RX9 301 4 4 0 := ⟨_, _, _, hcl_3, by decide, rfl, h_in (List.mem_of_getElem? (i := 488) (by decide +kernel)) rfl⟩
set_option maxRecDepth 100000 in
theorem cd_X7_hasEndpoint : Cond.code yX7_hasEndpoint cX7_hasEndpoint 3 (some .boolean) ∈ h_ws := h_in (List.mem_of_getElem? (i := 518) rfl) rfl
theorem mv_RX9_312 : h_MV RX9 312 8 yX7_hasEndpoint cX7_hasEndpoint 3 (some .boolean) 1 := ⟨⟨_, _, hcl_7⟩, ⟨by decide, by decide, by decide +kernel⟩, h_in (List.mem_of_getElem? (i := 515) (by decide +kernel)) rfl, h_in (List.mem_of_getElem? (i := 516) (by decide +kernel)) rfl, h_in (List.mem_of_getElem? (i := 517) (by decide +kernel)) rfl, cd_X7_hasEndpoint⟩
theorem fl_RX9_227 : h_FL RX9 227 8 4 1 := ⟨_, _, _, hcl_7, by decide, rfl, h_in (List.mem_of_getElem? (i := 365) (by decide +kernel)) rfl⟩
theorem fl_RX9_135 : h_FL RX9 135 10 9 0 := ⟨_, _, _, hcl_9, by decide, rfl, h_in (List.mem_of_getElem? (i := 121) (by decide +kernel)) rfl⟩
set_option maxRecDepth 100000 in
theorem cd_X2_find : Cond.code yX2_find cX2_find 4 (some (.object RX1)) ∈ h_ws := h_in (List.mem_of_getElem? (i := 527) rfl) rfl
theorem mv_RX9_231 : h_MV RX9 231 3 yX2_find cX2_find 4 (some (.object RX1)) 2 := ⟨⟨_, _, hcl_2⟩, ⟨by decide, by decide, by decide +kernel⟩, h_in (List.mem_of_getElem? (i := 524) (by decide +kernel)) rfl, h_in (List.mem_of_getElem? (i := 525) (by decide +kernel)) rfl, h_in (List.mem_of_getElem? (i := 526) (by decide +kernel)) rfl, cd_X2_find⟩
set_option maxRecDepth 100000 in
theorem cd_X9_postRequest : Cond.code yX9_postRequest cX9_postRequest 3 none ∈ h_ws := h_in (List.mem_of_getElem? (i := 544) rfl) rfl
theorem mv_RX9_322 : h_MV RX9 322 10 yX9_postRequest cX9_postRequest 3 none 2 := ⟨⟨_, _, hcl_9⟩, ⟨by decide, by decide, by decide +kernel⟩, h_in (List.mem_of_getElem? (i := 541) (by decide +kernel)) rfl, h_in (List.mem_of_getElem? (i := 543) (by decide +kernel)) rfl, h_inS (q := (yX9_postRequest, 14)) (List.mem_append_left _ (List.mem_of_getElem? (i := 12) rfl)) rfl, cd_X9_postRequest⟩
set_option maxRecDepth 100000 in
theorem cd_X9_follow : Cond.code yX9_follow cX9_follow 3 none ∈ h_ws := h_in (List.mem_of_getElem? (i := 532) rfl) rfl
theorem mv_RX9_318 : h_MV RX9 318 10 yX9_follow cX9_follow 3 none 2 := ⟨⟨_, _, hcl_9⟩, ⟨by decide, by decide, by decide +kernel⟩, h_in (List.mem_of_getElem? (i := 529) (by decide +kernel)) rfl, h_in (List.mem_of_getElem? (i := 531) (by decide +kernel)) rfl, h_inS (q := (yX9_follow, 14)) (List.mem_append_left _ (List.mem_of_getElem? (i := 10) rfl)) rfl, cd_X9_follow⟩
set_option maxRecDepth 100000 in
theorem cd_X3_arriveAt : Cond.code yX3_arriveAt cX3_arriveAt 2 none ∈ h_ws := h_in (List.mem_of_getElem? (i := 523) rfl) rfl
theorem mv_RX9_315 : h_MV RX9 315 4 yX3_arriveAt cX3_arriveAt 2 none 1 := ⟨⟨_, _, hcl_3⟩, ⟨by decide, by decide, by decide +kernel⟩, h_in (List.mem_of_getElem? (i := 520) (by decide +kernel)) rfl, h_in (List.mem_of_getElem? (i := 521) (by decide +kernel)) rfl, h_in (List.mem_of_getElem? (i := 522) (by decide +kernel)) rfl, cd_X3_arriveAt⟩
theorem fl_RX9_157 : h_FL RX9 157 10 8 0 := ⟨_, _, _, hcl_9, by decide, rfl, h_in (List.mem_of_getElem? (i := 120) (by decide +kernel)) rfl⟩
theorem fl_RX9_44 : h_FL RX9 44 10 7 1 := ⟨_, _, _, hcl_9, by decide, rfl, h_in (List.mem_of_getElem? (i := 119) (by decide +kernel)) rfl⟩
theorem fl_RX9_264 : h_FL RX9 264 10 13 0 := ⟨_, _, _, hcl_9, by decide, rfl, h_in (List.mem_of_getElem? (i := 125) (by decide +kernel)) rfl⟩
theorem fw_RX9_264 : h_FW RX9 264 10 13 0 := ⟨_, _, _, hcl_9, by decide, rfl, h_in (List.mem_of_getElem? (i := 125) (by decide +kernel)) rfl, rfl⟩
set_option maxRecDepth 100000 in
theorem cd_X9_siteAt : Cond.code yX9_siteAt cX9_siteAt 2 (some (.object RX7)) ∈ h_ws := h_in (List.mem_of_getElem? (i := 387) rfl) rfl
theorem mv_RX9_107 : h_MV RX9 107 10 yX9_siteAt cX9_siteAt 2 (some (.object RX7)) 1 := ⟨⟨_, _, hcl_9⟩, ⟨by decide, by decide, by decide +kernel⟩, h_in (List.mem_of_getElem? (i := 384) (by decide +kernel)) rfl, h_in (List.mem_of_getElem? (i := 386) (by decide +kernel)) rfl, h_inS (q := (yX9_siteAt, 14)) (List.mem_append_left _ (List.mem_of_getElem? (i := 5) rfl)) rfl, cd_X9_siteAt⟩
set_option maxRecDepth 100000 in
theorem cd_X3_lose : Cond.code yX3_lose cX3_lose 1 none ∈ h_ws := h_in (List.mem_of_getElem? (i := 737) rfl) rfl
theorem mv_RX9_405 : h_MV RX9 405 4 yX3_lose cX3_lose 1 none 0 := ⟨⟨_, _, hcl_3⟩, ⟨by decide, by decide, by decide +kernel⟩, h_in (List.mem_of_getElem? (i := 734) (by decide +kernel)) rfl, h_in (List.mem_of_getElem? (i := 735) (by decide +kernel)) rfl, h_in (List.mem_of_getElem? (i := 736) (by decide +kernel)) rfl, cd_X3_lose⟩
theorem fl_RX9_26 : h_FL RX9 26 10 3 1 := ⟨_, _, _, hcl_9, by decide, rfl, h_in (List.mem_of_getElem? (i := 115) (by decide +kernel)) rfl⟩
theorem fl_RX9_36 : h_FL RX9 36 10 5 1 := ⟨_, _, _, hcl_9, by decide, rfl, h_in (List.mem_of_getElem? (i := 117) (by decide +kernel)) rfl⟩
set_option maxRecDepth 100000 in
theorem cd_X9_postSolicit : Cond.code yX9_postSolicit cX9_postSolicit 4 none ∈ h_ws := h_in (List.mem_of_getElem? (i := 741) rfl) rfl
theorem mv_RX9_402 : h_MV RX9 402 10 yX9_postSolicit cX9_postSolicit 4 none 3 := ⟨⟨_, _, hcl_9⟩, ⟨by decide, by decide, by decide +kernel⟩, h_in (List.mem_of_getElem? (i := 738) (by decide +kernel)) rfl, h_in (List.mem_of_getElem? (i := 740) (by decide +kernel)) rfl, h_inS (q := (yX9_postSolicit, 14)) (List.mem_append_right _ (List.mem_append_left _ (List.mem_of_getElem? (i := 11) rfl))) rfl, cd_X9_postSolicit⟩
set_option maxRecDepth 100000 in
theorem cd_X9_packetAt : Cond.code yX9_packetAt cX9_packetAt 2 (some (.object RX3)) ∈ h_ws := h_in (List.mem_of_getElem? (i := 729) rfl) rfl
theorem mv_RX9_209 : h_MV RX9 209 10 yX9_packetAt cX9_packetAt 2 (some (.object RX3)) 1 := ⟨⟨_, _, hcl_9⟩, ⟨by decide, by decide, by decide +kernel⟩, h_in (List.mem_of_getElem? (i := 726) (by decide +kernel)) rfl, h_in (List.mem_of_getElem? (i := 728) (by decide +kernel)) rfl, h_inS (q := (yX9_packetAt, 14)) (List.mem_append_right _ (List.mem_append_left _ (List.mem_of_getElem? (i := 9) rfl))) rfl, cd_X9_packetAt⟩
set_option maxRecDepth 100000 in
theorem cd_X9_isPlace : Cond.code yX9_isPlace cX9_isPlace 1 (some .boolean) ∈ h_ws := h_in (List.mem_of_getElem? (i := 329) rfl) rfl
theorem ms_RX9_94 : h_MS RX9 94 yX9_isPlace cX9_isPlace 1 (some .boolean) 1 := ⟨⟨by decide, by decide, by decide +kernel⟩, h_in (List.mem_of_getElem? (i := 327) (by decide +kernel)) rfl, h_in (List.mem_of_getElem? (i := 328) (by decide +kernel)) rfl, h_in (List.mem_of_getElem? (i := 1) (by decide +kernel)) rfl, cd_X9_isPlace⟩
set_option maxRecDepth 100000 in
theorem cd_X9_hostOf : Cond.code yX9_hostOf cX9_hostOf 3 (some .int) ∈ h_ws := h_in (List.mem_of_getElem? (i := 333) rfl) rfl
theorem mv_RX9_98 : h_MV RX9 98 10 yX9_hostOf cX9_hostOf 3 (some .int) 1 := ⟨⟨_, _, hcl_9⟩, ⟨by decide, by decide, by decide +kernel⟩, h_in (List.mem_of_getElem? (i := 330) (by decide +kernel)) rfl, h_in (List.mem_of_getElem? (i := 332) (by decide +kernel)) rfl, h_inS (q := (yX9_hostOf, 14)) (List.mem_append_left _ (List.mem_of_getElem? (i := 4) rfl)) rfl, cd_X9_hostOf⟩
set_option maxRecDepth 100000 in
theorem cd_X9_passOn : Cond.code yX9_passOn cX9_passOn 6 none ∈ h_ws := h_in (List.mem_of_getElem? (i := 733) rfl) rfl
theorem mv_RX9_399 : h_MV RX9 399 10 yX9_passOn cX9_passOn 6 none 2 := ⟨⟨_, _, hcl_9⟩, ⟨by decide, by decide, by decide +kernel⟩, h_in (List.mem_of_getElem? (i := 730) (by decide +kernel)) rfl, h_in (List.mem_of_getElem? (i := 732) (by decide +kernel)) rfl, h_inS (q := (yX9_passOn, 14)) (List.mem_append_right _ (List.mem_append_left _ (List.mem_of_getElem? (i := 10) rfl))) rfl, cd_X9_passOn⟩
set_option maxRecDepth 100000 in
theorem cd_X4_of : Cond.code yX4_of cX4_of 2 (some (.object RX4)) ∈ h_ws := h_in (List.mem_of_getElem? (i := 288) rfl) rfl
theorem ms_RX9_63 : h_MS RX9 63 yX4_of cX4_of 2 (some (.object RX4)) 2 := ⟨⟨by decide, by decide, by decide +kernel⟩, h_in (List.mem_of_getElem? (i := 286) (by decide +kernel)) rfl, h_in (List.mem_of_getElem? (i := 287) (by decide +kernel)) rfl, h_in (List.mem_of_getElem? (i := 4) (by decide +kernel)) rfl, cd_X4_of⟩
theorem fl_RX9_258 : h_FL RX9 258 10 11 0 := ⟨_, _, _, hcl_9, by decide, rfl, h_in (List.mem_of_getElem? (i := 123) (by decide +kernel)) rfl⟩
theorem fw_RX9_258 : h_FW RX9 258 10 11 0 := ⟨_, _, _, hcl_9, by decide, rfl, h_in (List.mem_of_getElem? (i := 123) (by decide +kernel)) rfl, rfl⟩
theorem fl_RX9_10 : h_FL RX9 10 10 0 1 := ⟨_, _, _, hcl_9, by decide, rfl, h_in (List.mem_of_getElem? (i := 112) (by decide +kernel)) rfl⟩
theorem mv_RX9_79 : h_MV RX9 79 9 yX8_owns cX8_owns 4 (some .boolean) 2 := ⟨⟨_, _, hcl_8⟩, ⟨by decide, by decide, by decide +kernel⟩, h_in (List.mem_of_getElem? (i := 295) (by decide +kernel)) rfl, h_in (List.mem_of_getElem? (i := 296) (by decide +kernel)) rfl, h_in (List.mem_of_getElem? (i := 297) (by decide +kernel)) rfl, cd_X8_owns⟩
set_option maxRecDepth 100000 in
theorem cd_X6_isFresh : Cond.code yX6_isFresh cX6_isFresh 3 (some .boolean) ∈ h_ws := h_in (List.mem_of_getElem? (i := 596) rfl) rfl
theorem mv_RX9_349 : h_MV RX9 349 7 yX6_isFresh cX6_isFresh 3 (some .boolean) 2 := ⟨⟨_, _, hcl_6⟩, ⟨by decide, by decide, by decide +kernel⟩, h_in (List.mem_of_getElem? (i := 593) (by decide +kernel)) rfl, h_in (List.mem_of_getElem? (i := 594) (by decide +kernel)) rfl, h_in (List.mem_of_getElem? (i := 595) (by decide +kernel)) rfl, cd_X6_isFresh⟩
set_option maxRecDepth 100000 in
theorem cd_X6_hasRoom : Cond.code yX6_hasRoom cX6_hasRoom 5 (some .boolean) ∈ h_ws := h_in (List.mem_of_getElem? (i := 600) rfl) rfl
theorem mv_RX9_353 : h_MV RX9 353 7 yX6_hasRoom cX6_hasRoom 5 (some .boolean) 3 := ⟨⟨_, _, hcl_6⟩, ⟨by decide, by decide, by decide +kernel⟩, h_in (List.mem_of_getElem? (i := 597) (by decide +kernel)) rfl, h_in (List.mem_of_getElem? (i := 598) (by decide +kernel)) rfl, h_in (List.mem_of_getElem? (i := 599) (by decide +kernel)) rfl, cd_X6_hasRoom⟩
theorem lk_RX9_254 : Cond.classLink RX9 254 RX0 ∈ h_ws := h_in (List.mem_of_getElem? (i := 606) (by decide +kernel)) rfl
set_option maxRecDepth 100000 in
theorem cd_X0_init : Cond.code yX0_init cX0_init 6 none ∈ h_ws := h_in (List.mem_of_getElem? (i := 610) rfl) rfl
theorem mi_RX9_357 : h_MI RX9 357 yX0_init cX0_init 6 5 := ⟨rfl, ⟨by decide, by decide, by decide +kernel⟩, h_in (List.mem_of_getElem? (i := 608) (by decide +kernel)) rfl, h_in (List.mem_of_getElem? (i := 609) (by decide +kernel)) rfl, h_in (List.mem_of_getElem? (i := 17) (by decide +kernel)) rfl, cd_X0_init⟩
set_option maxRecDepth 100000 in
theorem cd_X6_keep : Cond.code yX6_keep cX6_keep 4 none ∈ h_ws := h_in (List.mem_of_getElem? (i := 638) rfl) rfl
theorem mv_RX9_360 : h_MV RX9 360 7 yX6_keep cX6_keep 4 none 2 := ⟨⟨_, _, hcl_6⟩, ⟨by decide, by decide, by decide +kernel⟩, h_in (List.mem_of_getElem? (i := 635) (by decide +kernel)) rfl, h_in (List.mem_of_getElem? (i := 636) (by decide +kernel)) rfl, h_in (List.mem_of_getElem? (i := 637) (by decide +kernel)) rfl, cd_X6_keep⟩
theorem fl_RX9_221 : h_FL RX9 221 4 6 0 := ⟨_, _, _, hcl_3, by decide, rfl, h_in (List.mem_of_getElem? (i := 491) (by decide +kernel)) rfl⟩
theorem fw_RX9_221 : h_FW RX9 221 4 6 0 := ⟨_, _, _, hcl_3, by decide, rfl, h_in (List.mem_of_getElem? (i := 491) (by decide +kernel)) rfl, rfl⟩
theorem fl_RX9_215 : h_FL RX9 215 4 3 0 := ⟨_, _, _, hcl_3, by decide, rfl, h_in (List.mem_of_getElem? (i := 487) (by decide +kernel)) rfl⟩
set_option maxRecDepth 100000 in
theorem cd_X9_waiting : Cond.code yX9_waiting cX9_waiting 5 (some (.object RX3)) ∈ h_ws := h_in (List.mem_of_getElem? (i := 681) rfl) rfl
theorem mv_RX9_381 : h_MV RX9 381 10 yX9_waiting cX9_waiting 5 (some (.object RX3)) 2 := ⟨⟨_, _, hcl_9⟩, ⟨by decide, by decide, by decide +kernel⟩, h_in (List.mem_of_getElem? (i := 678) (by decide +kernel)) rfl, h_in (List.mem_of_getElem? (i := 680) (by decide +kernel)) rfl, h_inS (q := (yX9_waiting, 14)) (List.mem_append_right _ (List.mem_append_left _ (List.mem_of_getElem? (i := 5) rfl))) rfl, cd_X9_waiting⟩
theorem fl_RX9_261 : h_FL RX9 261 10 12 0 := ⟨_, _, _, hcl_9, by decide, rfl, h_in (List.mem_of_getElem? (i := 124) (by decide +kernel)) rfl⟩
theorem fw_RX9_261 : h_FW RX9 261 10 12 0 := ⟨_, _, _, hcl_9, by decide, rfl, h_in (List.mem_of_getElem? (i := 124) (by decide +kernel)) rfl, rfl⟩
theorem mv_RX9_364 : h_MV RX9 364 5 yX4_has cX4_has 2 (some .boolean) 1 := ⟨⟨_, _, hcl_4⟩, ⟨by decide, by decide, by decide +kernel⟩, h_in (List.mem_of_getElem? (i := 643) (by decide +kernel)) rfl, h_in (List.mem_of_getElem? (i := 176) (by decide +kernel)) rfl, h_in (List.mem_of_getElem? (i := 177) (by decide +kernel)) rfl, cd_X4_has⟩
set_option maxRecDepth 100000 in
theorem cd_X9_isValue : Cond.code yX9_isValue cX9_isValue 2 (some .boolean) ∈ h_ws := h_in (List.mem_of_getElem? (i := 684) rfl) rfl
theorem ms_RX9_385 : h_MS RX9 385 yX9_isValue cX9_isValue 2 (some .boolean) 2 := ⟨⟨by decide, by decide, by decide +kernel⟩, h_in (List.mem_of_getElem? (i := 682) (by decide +kernel)) rfl, h_in (List.mem_of_getElem? (i := 683) (by decide +kernel)) rfl, h_in (List.mem_of_getElem? (i := 1) (by decide +kernel)) rfl, cd_X9_isValue⟩
theorem lk_RX9_238 : Cond.classLink RX9 238 RX1 ∈ h_ws := h_in (List.mem_of_getElem? (i := 689) (by decide +kernel)) rfl
set_option maxRecDepth 100000 in
theorem cd_X1_init : Cond.code yX1_init cX1_init 5 none ∈ h_ws := h_in (List.mem_of_getElem? (i := 693) rfl) rfl
theorem mi_RX9_392 : h_MI RX9 392 yX1_init cX1_init 5 4 := ⟨rfl, ⟨by decide, by decide, by decide +kernel⟩, h_in (List.mem_of_getElem? (i := 691) (by decide +kernel)) rfl, h_in (List.mem_of_getElem? (i := 692) (by decide +kernel)) rfl, h_in (List.mem_of_getElem? (i := 18) (by decide +kernel)) rfl, cd_X1_init⟩
set_option maxRecDepth 100000 in
theorem cd_X2_make : Cond.code yX2_make cX2_make 4 none ∈ h_ws := h_in (List.mem_of_getElem? (i := 716) rfl) rfl
theorem mv_RX9_395 : h_MV RX9 395 3 yX2_make cX2_make 4 none 2 := ⟨⟨_, _, hcl_2⟩, ⟨by decide, by decide, by decide +kernel⟩, h_in (List.mem_of_getElem? (i := 713) (by decide +kernel)) rfl, h_in (List.mem_of_getElem? (i := 714) (by decide +kernel)) rfl, h_in (List.mem_of_getElem? (i := 715) (by decide +kernel)) rfl, cd_X2_make⟩
set_option maxRecDepth 100000 in
theorem cd_X9_refer : Cond.code yX9_refer cX9_refer 3 none ∈ h_ws := h_in (List.mem_of_getElem? (i := 688) rfl) rfl
theorem mv_RX9_388 : h_MV RX9 388 10 yX9_refer cX9_refer 3 none 2 := ⟨⟨_, _, hcl_9⟩, ⟨by decide, by decide, by decide +kernel⟩, h_in (List.mem_of_getElem? (i := 685) (by decide +kernel)) rfl, h_in (List.mem_of_getElem? (i := 687) (by decide +kernel)) rfl, h_inS (q := (yX9_refer, 14)) (List.mem_append_right _ (List.mem_append_left _ (List.mem_of_getElem? (i := 6) rfl))) rfl, cd_X9_refer⟩
theorem fl_RX9_69 : h_FL RX9 69 7 2 1 := ⟨_, _, _, hcl_6, by decide, rfl, h_in (List.mem_of_getElem? (i := 66) (by decide +kernel)) rfl⟩
set_option maxRecDepth 100000 in
theorem cd_X8_childWith : Cond.code yX8_childWith cX8_childWith 4 (some (.object RX6)) ∈ h_ws := h_in (List.mem_of_getElem? (i := 647) rfl) rfl
theorem mv_RX9_365 : h_MV RX9 365 9 yX8_childWith cX8_childWith 4 (some (.object RX6)) 2 := ⟨⟨_, _, hcl_8⟩, ⟨by decide, by decide, by decide +kernel⟩, h_in (List.mem_of_getElem? (i := 644) (by decide +kernel)) rfl, h_in (List.mem_of_getElem? (i := 645) (by decide +kernel)) rfl, h_in (List.mem_of_getElem? (i := 646) (by decide +kernel)) rfl, cd_X8_childWith⟩
theorem mv_RX9_373 : h_MV RX9 373 7 yX6_best cX6_best 5 (some (.object RX0)) 2 := ⟨⟨_, _, hcl_6⟩, ⟨by decide, by decide, by decide +kernel⟩, h_in (List.mem_of_getElem? (i := 653) (by decide +kernel)) rfl, h_in (List.mem_of_getElem? (i := 164) (by decide +kernel)) rfl, h_in (List.mem_of_getElem? (i := 165) (by decide +kernel)) rfl, cd_X6_best⟩
set_option maxRecDepth 100000 in
theorem cd_X8_piece : Cond.code yX8_piece cX8_piece 6 (some (.object RX4)) ∈ h_ws := h_in (List.mem_of_getElem? (i := 657) rfl) rfl
theorem mv_RX9_376 : h_MV RX9 376 9 yX8_piece cX8_piece 6 (some (.object RX4)) 4 := ⟨⟨_, _, hcl_8⟩, ⟨by decide, by decide, by decide +kernel⟩, h_in (List.mem_of_getElem? (i := 654) (by decide +kernel)) rfl, h_in (List.mem_of_getElem? (i := 655) (by decide +kernel)) rfl, h_in (List.mem_of_getElem? (i := 656) (by decide +kernel)) rfl, cd_X8_piece⟩
set_option maxRecDepth 100000 in
theorem cd_X9_postReply : Cond.code yX9_postReply cX9_postReply 7 none ∈ h_ws := h_in (List.mem_of_getElem? (i := 652) rfl) rfl
theorem mv_RX9_369 : h_MV RX9 369 10 yX9_postReply cX9_postReply 7 none 6 := ⟨⟨_, _, hcl_9⟩, ⟨by decide, by decide, by decide +kernel⟩, h_in (List.mem_of_getElem? (i := 649) (by decide +kernel)) rfl, h_in (List.mem_of_getElem? (i := 651) (by decide +kernel)) rfl, h_inS (q := (yX9_postReply, 14)) (List.mem_append_right _ (List.mem_append_left _ (List.mem_of_getElem? (i := 2) rfl))) rfl, cd_X9_postReply⟩
theorem fl_RX9_379 : h_FL RX9 379 1 2 0 := ⟨_, _, _, hcl_0, by decide, rfl, h_in (List.mem_of_getElem? (i := 619) (by decide +kernel)) rfl⟩
theorem fl_RX9_380 : h_FL RX9 380 1 3 0 := ⟨_, _, _, hcl_0, by decide, rfl, h_in (List.mem_of_getElem? (i := 622) (by decide +kernel)) rfl⟩
theorem fl_RX9_150 : h_FL RX9 150 7 0 0 := ⟨_, _, _, hcl_6, by decide, rfl, h_in (List.mem_of_getElem? (i := 62) (by decide +kernel)) rfl⟩
set_option maxRecDepth 100000 in
theorem cd_X2_lose : Cond.code yX2_lose cX2_lose 5 none ∈ h_ws := h_in (List.mem_of_getElem? (i := 749) rfl) rfl
theorem mv_RX9_408 : h_MV RX9 408 3 yX2_lose cX2_lose 5 none 3 := ⟨⟨_, _, hcl_2⟩, ⟨by decide, by decide, by decide +kernel⟩, h_in (List.mem_of_getElem? (i := 746) (by decide +kernel)) rfl, h_in (List.mem_of_getElem? (i := 747) (by decide +kernel)) rfl, h_in (List.mem_of_getElem? (i := 748) (by decide +kernel)) rfl, cd_X2_lose⟩
set_option maxRecDepth 100000 in
theorem cd_X5_copy : Cond.code yX5_copy cX5_copy 3 none ∈ h_ws := h_in (List.mem_of_getElem? (i := 584) rfl) rfl
theorem mv_RX9_329 : h_MV RX9 329 6 yX5_copy cX5_copy 3 none 2 := ⟨⟨_, _, hcl_5⟩, ⟨by decide, by decide, by decide +kernel⟩, h_in (List.mem_of_getElem? (i := 581) (by decide +kernel)) rfl, h_in (List.mem_of_getElem? (i := 582) (by decide +kernel)) rfl, h_in (List.mem_of_getElem? (i := 583) (by decide +kernel)) rfl, cd_X5_copy⟩
set_option maxRecDepth 100000 in
theorem cd_X5_remove : Cond.code yX5_remove cX5_remove 3 none ∈ h_ws := h_in (List.mem_of_getElem? (i := 588) rfl) rfl
theorem mv_RX9_187 : h_MV RX9 187 6 yX5_remove cX5_remove 3 none 1 := ⟨⟨_, _, hcl_5⟩, ⟨by decide, by decide, by decide +kernel⟩, h_in (List.mem_of_getElem? (i := 585) (by decide +kernel)) rfl, h_in (List.mem_of_getElem? (i := 586) (by decide +kernel)) rfl, h_in (List.mem_of_getElem? (i := 587) (by decide +kernel)) rfl, cd_X5_remove⟩
set_option maxRecDepth 100000 in
theorem cd_X8_at : Cond.code yX8_at cX8_at 2 (some (.object RX6)) ∈ h_ws := h_in (List.mem_of_getElem? (i := 217) rfl) rfl
theorem mv_RX9_52 : h_MV RX9 52 9 yX8_at cX8_at 2 (some (.object RX6)) 1 := ⟨⟨_, _, hcl_8⟩, ⟨by decide, by decide, by decide +kernel⟩, h_in (List.mem_of_getElem? (i := 214) (by decide +kernel)) rfl, h_in (List.mem_of_getElem? (i := 215) (by decide +kernel)) rfl, h_in (List.mem_of_getElem? (i := 216) (by decide +kernel)) rfl, cd_X8_at⟩
set_option maxRecDepth 100000 in
theorem cd_X9_takeRegister : Cond.code yX9_takeRegister cX9_takeRegister 6 none ∈ h_ws := h_in (List.mem_of_getElem? (i := 592) rfl) rfl
theorem mv_RX9_333 : h_MV RX9 333 10 yX9_takeRegister cX9_takeRegister 6 none 1 := ⟨⟨_, _, hcl_9⟩, ⟨by decide, by decide, by decide +kernel⟩, h_in (List.mem_of_getElem? (i := 589) (by decide +kernel)) rfl, h_in (List.mem_of_getElem? (i := 591) (by decide +kernel)) rfl, h_inS (q := (yX9_takeRegister, 14)) (List.mem_append_left _ (List.mem_of_getElem? (i := 15) rfl)) rfl, cd_X9_takeRegister⟩
set_option maxRecDepth 100000 in
theorem cd_X9_takeRequest : Cond.code yX9_takeRequest cX9_takeRequest 8 none ∈ h_ws := h_in (List.mem_of_getElem? (i := 642) rfl) rfl
theorem mv_RX9_336 : h_MV RX9 336 10 yX9_takeRequest cX9_takeRequest 8 none 1 := ⟨⟨_, _, hcl_9⟩, ⟨by decide, by decide, by decide +kernel⟩, h_in (List.mem_of_getElem? (i := 639) (by decide +kernel)) rfl, h_in (List.mem_of_getElem? (i := 641) (by decide +kernel)) rfl, h_inS (q := (yX9_takeRequest, 14)) (List.mem_append_right _ (List.mem_append_left _ (List.mem_of_getElem? (i := 1) rfl))) rfl, cd_X9_takeRequest⟩
set_option maxRecDepth 100000 in
theorem cd_X9_takeReply : Cond.code yX9_takeReply cX9_takeReply 8 none ∈ h_ws := h_in (List.mem_of_getElem? (i := 677) rfl) rfl
theorem mv_RX9_339 : h_MV RX9 339 10 yX9_takeReply cX9_takeReply 8 none 1 := ⟨⟨_, _, hcl_9⟩, ⟨by decide, by decide, by decide +kernel⟩, h_in (List.mem_of_getElem? (i := 674) (by decide +kernel)) rfl, h_in (List.mem_of_getElem? (i := 676) (by decide +kernel)) rfl, h_inS (q := (yX9_takeReply, 14)) (List.mem_append_right _ (List.mem_append_left _ (List.mem_of_getElem? (i := 4) rfl))) rfl, cd_X9_takeReply⟩
set_option maxRecDepth 100000 in
theorem cd_X9_takeData : Cond.code yX9_takeData cX9_takeData 6 none ∈ h_ws := h_in (List.mem_of_getElem? (i := 725) rfl) rfl
theorem mv_RX9_342 : h_MV RX9 342 10 yX9_takeData cX9_takeData 6 none 1 := ⟨⟨_, _, hcl_9⟩, ⟨by decide, by decide, by decide +kernel⟩, h_in (List.mem_of_getElem? (i := 722) (by decide +kernel)) rfl, h_in (List.mem_of_getElem? (i := 724) (by decide +kernel)) rfl, h_inS (q := (yX9_takeData, 14)) (List.mem_append_right _ (List.mem_append_left _ (List.mem_of_getElem? (i := 8) rfl))) rfl, cd_X9_takeData⟩
set_option maxRecDepth 100000 in
theorem cd_X9_takeSolicit : Cond.code yX9_takeSolicit cX9_takeSolicit 2 none ∈ h_ws := h_in (List.mem_of_getElem? (i := 745) rfl) rfl
theorem mv_RX9_345 : h_MV RX9 345 10 yX9_takeSolicit cX9_takeSolicit 2 none 1 := ⟨⟨_, _, hcl_9⟩, ⟨by decide, by decide, by decide +kernel⟩, h_in (List.mem_of_getElem? (i := 742) (by decide +kernel)) rfl, h_in (List.mem_of_getElem? (i := 744) (by decide +kernel)) rfl, h_inS (q := (yX9_takeSolicit, 14)) (List.mem_append_right _ (List.mem_append_left _ (List.mem_of_getElem? (i := 12) rfl))) rfl, cd_X9_takeSolicit⟩
set_option maxRecDepth 100000 in
theorem cd_X8_longestEntry : Cond.code yX8_longestEntry cX8_longestEntry 6 (some (.object RX0)) ∈ h_ws := h_in (List.mem_of_getElem? (i := 162) rfl) rfl
theorem mv_RX9_249 : h_MV RX9 249 9 yX8_longestEntry cX8_longestEntry 6 (some (.object RX0)) 2 := ⟨⟨_, _, hcl_8⟩, ⟨by decide, by decide, by decide +kernel⟩, h_in (List.mem_of_getElem? (i := 159) (by decide +kernel)) rfl, h_in (List.mem_of_getElem? (i := 160) (by decide +kernel)) rfl, h_in (List.mem_of_getElem? (i := 161) (by decide +kernel)) rfl, cd_X8_longestEntry⟩
theorem fl_RX9_253 : h_FL RX9 253 1 1 0 := ⟨_, _, _, hcl_0, by decide, rfl, h_in (List.mem_of_getElem? (i := 617) (by decide +kernel)) rfl⟩
set_option maxRecDepth 100000 in
theorem cd_X2_countThere : Cond.code yX2_countThere cX2_countThere 4 (some .int) ∈ h_ws := h_in (List.mem_of_getElem? (i := 201) rfl) rfl
theorem mv_RX9_280 : h_MV RX9 280 3 yX2_countThere cX2_countThere 4 (some .int) 1 := ⟨⟨_, _, hcl_2⟩, ⟨by decide, by decide, by decide +kernel⟩, h_in (List.mem_of_getElem? (i := 198) (by decide +kernel)) rfl, h_in (List.mem_of_getElem? (i := 199) (by decide +kernel)) rfl, h_in (List.mem_of_getElem? (i := 200) (by decide +kernel)) rfl, cd_X2_countThere⟩
theorem fl_RX9_203 : h_FL RX9 203 6 2 0 := ⟨_, _, _, hcl_5, by decide, rfl, h_in (List.mem_of_getElem? (i := 97) (by decide +kernel)) rfl⟩
theorem fl_RX9_267 : h_FL RX9 267 6 3 0 := ⟨_, _, _, hcl_5, by decide, rfl, h_in (List.mem_of_getElem? (i := 99) (by decide +kernel)) rfl⟩
set_option maxRecDepth 100000 in
theorem cd_X8_countEntries : Cond.code yX8_countEntries cX8_countEntries 4 (some .int) ∈ h_ws := h_in (List.mem_of_getElem? (i := 189) rfl) rfl
theorem mv_RX9_270 : h_MV RX9 270 9 yX8_countEntries cX8_countEntries 4 (some .int) 1 := ⟨⟨_, _, hcl_8⟩, ⟨by decide, by decide, by decide +kernel⟩, h_in (List.mem_of_getElem? (i := 186) (by decide +kernel)) rfl, h_in (List.mem_of_getElem? (i := 187) (by decide +kernel)) rfl, h_in (List.mem_of_getElem? (i := 188) (by decide +kernel)) rfl, cd_X8_countEntries⟩
set_option maxRecDepth 100000 in
theorem cd_X9_countNotes : Cond.code yX9_countNotes cX9_countNotes 3 (some .int) ∈ h_ws := h_in (List.mem_of_getElem? (i := 197) rfl) rfl
theorem mv_RX9_273 : h_MV RX9 273 10 yX9_countNotes cX9_countNotes 3 (some .int) 0 := ⟨⟨_, _, hcl_9⟩, ⟨by decide, by decide, by decide +kernel⟩, h_in (List.mem_of_getElem? (i := 194) (by decide +kernel)) rfl, h_in (List.mem_of_getElem? (i := 196) (by decide +kernel)) rfl, h_inS (q := (yX9_countNotes, 14)) (List.mem_append_left _ (List.mem_of_getElem? (i := 1) rfl)) rfl, cd_X9_countNotes⟩
theorem ob_RX10 : Cond.methodLink RX10 1 Lib.objectInit ∈ h_ws := h_in (List.mem_of_getElem? (i := 829) (by decide +kernel)) rfl
theorem fw_RX10_7 : h_FW RX10 7 11 2 0 := ⟨_, _, _, hcl_10, by decide, rfl, h_in (List.mem_of_getElem? (i := 833) (by decide +kernel)) rfl, rfl⟩
theorem ac_boolean : Cond.arrayClass .boolean ∈ h_ws := h_in (List.mem_of_getElem? (i := 961) (by decide +kernel)) rfl
theorem ff_RX10_13 : h_FF RX10 13 11 3 1 := ⟨_, _, _, hcl_10, by decide, rfl, h_in (List.mem_of_getElem? (i := 834) (by decide +kernel)) rfl, rfl, rfl⟩
theorem ff_RX10_17 : h_FF RX10 17 11 4 1 := ⟨_, _, _, hcl_10, by decide, rfl, h_in (List.mem_of_getElem? (i := 835) (by decide +kernel)) rfl, rfl, rfl⟩
theorem ff_RX10_21 : h_FF RX10 21 11 5 1 := ⟨_, _, _, hcl_10, by decide, rfl, h_in (List.mem_of_getElem? (i := 836) (by decide +kernel)) rfl, rfl, rfl⟩
theorem ff_RX10_24 : h_FF RX10 24 11 6 1 := ⟨_, _, _, hcl_10, by decide, rfl, h_in (List.mem_of_getElem? (i := 837) (by decide +kernel)) rfl, rfl, rfl⟩
theorem ff_RX10_27 : h_FF RX10 27 11 7 1 := ⟨_, _, _, hcl_10, by decide, rfl, h_in (List.mem_of_getElem? (i := 838) (by decide +kernel)) rfl, rfl, rfl⟩
theorem ff_RX10_30 : h_FF RX10 30 11 8 1 := ⟨_, _, _, hcl_10, by decide, rfl, h_in (List.mem_of_getElem? (i := 839) (by decide +kernel)) rfl, rfl, rfl⟩
theorem ff_RX10_33 : h_FF RX10 33 11 9 1 := ⟨_, _, _, hcl_10, by decide, rfl, h_in (List.mem_of_getElem? (i := 840) (by decide +kernel)) rfl, rfl, rfl⟩
theorem ff_RX10_36 : h_FF RX10 36 11 10 1 := ⟨_, _, _, hcl_10, by decide, rfl, h_in (List.mem_of_getElem? (i := 841) (by decide +kernel)) rfl, rfl, rfl⟩
theorem ff_RX10_39 : h_FF RX10 39 11 11 1 := ⟨_, _, _, hcl_10, by decide, rfl, h_in (List.mem_of_getElem? (i := 842) (by decide +kernel)) rfl, rfl, rfl⟩
theorem ff_RX10_42 : h_FF RX10 42 11 12 1 := ⟨_, _, _, hcl_10, by decide, rfl, h_in (List.mem_of_getElem? (i := 843) (by decide +kernel)) rfl, rfl, rfl⟩
theorem ff_RX10_45 : h_FF RX10 45 11 13 1 := ⟨_, _, _, hcl_10, by decide, rfl, h_in (List.mem_of_getElem? (i := 844) (by decide +kernel)) rfl, rfl, rfl⟩
theorem ff_RX10_49 : h_FF RX10 49 11 14 1 := ⟨_, _, _, hcl_10, by decide, rfl, h_in (List.mem_of_getElem? (i := 845) (by decide +kernel)) rfl, rfl, rfl⟩
theorem ff_RX10_52 : h_FF RX10 52 11 15 1 := ⟨_, _, _, hcl_10, by decide, rfl, h_in (List.mem_of_getElem? (i := 846) (by decide +kernel)) rfl, rfl, rfl⟩
theorem ff_RX10_55 : h_FF RX10 55 11 16 1 := ⟨_, _, _, hcl_10, by decide, rfl, h_in (List.mem_of_getElem? (i := 847) (by decide +kernel)) rfl, rfl, rfl⟩
theorem ff_RX10_58 : h_FF RX10 58 11 17 1 := ⟨_, _, _, hcl_10, by decide, rfl, h_in (List.mem_of_getElem? (i := 848) (by decide +kernel)) rfl, rfl, rfl⟩
theorem ff_RX10_61 : h_FF RX10 61 11 18 1 := ⟨_, _, _, hcl_10, by decide, rfl, h_in (List.mem_of_getElem? (i := 849) (by decide +kernel)) rfl, rfl, rfl⟩
theorem ff_RX10_64 : h_FF RX10 64 11 19 1 := ⟨_, _, _, hcl_10, by decide, rfl, h_in (List.mem_of_getElem? (i := 850) (by decide +kernel)) rfl, rfl, rfl⟩
theorem ff_RX10_67 : h_FF RX10 67 11 20 1 := ⟨_, _, _, hcl_10, by decide, rfl, h_in (List.mem_of_getElem? (i := 851) (by decide +kernel)) rfl, rfl, rfl⟩
theorem ff_RX10_70 : h_FF RX10 70 11 21 1 := ⟨_, _, _, hcl_10, by decide, rfl, h_in (List.mem_of_getElem? (i := 852) (by decide +kernel)) rfl, rfl, rfl⟩
theorem ff_RX10_73 : h_FF RX10 73 11 22 1 := ⟨_, _, _, hcl_10, by decide, rfl, h_in (List.mem_of_getElem? (i := 853) (by decide +kernel)) rfl, rfl, rfl⟩
theorem ff_RX10_76 : h_FF RX10 76 11 23 1 := ⟨_, _, _, hcl_10, by decide, rfl, h_in (List.mem_of_getElem? (i := 854) (by decide +kernel)) rfl, rfl, rfl⟩
theorem ff_RX10_79 : h_FF RX10 79 11 24 1 := ⟨_, _, _, hcl_10, by decide, rfl, h_in (List.mem_of_getElem? (i := 855) (by decide +kernel)) rfl, rfl, rfl⟩
theorem ff_RX10_82 : h_FF RX10 82 11 26 1 := ⟨_, _, _, hcl_10, by decide, rfl, h_in (List.mem_of_getElem? (i := 857) (by decide +kernel)) rfl, rfl, rfl⟩
theorem ff_RX10_85 : h_FF RX10 85 11 27 1 := ⟨_, _, _, hcl_10, by decide, rfl, h_in (List.mem_of_getElem? (i := 858) (by decide +kernel)) rfl, rfl, rfl⟩
theorem ff_RX10_88 : h_FF RX10 88 11 29 1 := ⟨_, _, _, hcl_10, by decide, rfl, h_in (List.mem_of_getElem? (i := 860) (by decide +kernel)) rfl, rfl, rfl⟩
theorem ff_RX10_91 : h_FF RX10 91 11 30 1 := ⟨_, _, _, hcl_10, by decide, rfl, h_in (List.mem_of_getElem? (i := 861) (by decide +kernel)) rfl, rfl, rfl⟩
theorem ff_RX10_94 : h_FF RX10 94 11 31 1 := ⟨_, _, _, hcl_10, by decide, rfl, h_in (List.mem_of_getElem? (i := 862) (by decide +kernel)) rfl, rfl, rfl⟩
theorem ff_RX10_97 : h_FF RX10 97 11 32 1 := ⟨_, _, _, hcl_10, by decide, rfl, h_in (List.mem_of_getElem? (i := 863) (by decide +kernel)) rfl, rfl, rfl⟩
theorem ff_RX10_100 : h_FF RX10 100 11 33 1 := ⟨_, _, _, hcl_10, by decide, rfl, h_in (List.mem_of_getElem? (i := 864) (by decide +kernel)) rfl, rfl, rfl⟩
theorem ff_RX10_103 : h_FF RX10 103 11 34 1 := ⟨_, _, _, hcl_10, by decide, rfl, h_in (List.mem_of_getElem? (i := 865) (by decide +kernel)) rfl, rfl, rfl⟩
theorem ff_RX10_106 : h_FF RX10 106 11 35 1 := ⟨_, _, _, hcl_10, by decide, rfl, h_in (List.mem_of_getElem? (i := 866) (by decide +kernel)) rfl, rfl, rfl⟩
theorem ff_RX10_109 : h_FF RX10 109 11 37 1 := ⟨_, _, _, hcl_10, by decide, rfl, h_in (List.mem_of_getElem? (i := 868) (by decide +kernel)) rfl, rfl, rfl⟩
theorem ff_RX10_112 : h_FF RX10 112 11 38 1 := ⟨_, _, _, hcl_10, by decide, rfl, h_in (List.mem_of_getElem? (i := 869) (by decide +kernel)) rfl, rfl, rfl⟩
theorem fl_RX10_13 : h_FL RX10 13 11 3 1 := ⟨_, _, _, hcl_10, by decide, rfl, h_in (List.mem_of_getElem? (i := 834) (by decide +kernel)) rfl⟩
theorem fl_RX10_82 : h_FL RX10 82 11 26 1 := ⟨_, _, _, hcl_10, by decide, rfl, h_in (List.mem_of_getElem? (i := 857) (by decide +kernel)) rfl⟩
theorem fl_RX10_45 : h_FL RX10 45 11 13 1 := ⟨_, _, _, hcl_10, by decide, rfl, h_in (List.mem_of_getElem? (i := 844) (by decide +kernel)) rfl⟩
theorem ck_RX10_115 : Cond.constantLong RX10 115 (-3000000000) ∈ h_ws := h_in (List.mem_of_getElem? (i := 830) (by decide +kernel)) rfl
theorem fl_RX10_24 : h_FL RX10 24 11 6 1 := ⟨_, _, _, hcl_10, by decide, rfl, h_in (List.mem_of_getElem? (i := 837) (by decide +kernel)) rfl⟩
theorem fl_RX10_49 : h_FL RX10 49 11 14 1 := ⟨_, _, _, hcl_10, by decide, rfl, h_in (List.mem_of_getElem? (i := 845) (by decide +kernel)) rfl⟩
set_option maxRecDepth 100000 in
theorem cd_X10_in : Cond.code yX10_in cX10_in 3 (some .boolean) ∈ h_ws := h_in (List.mem_of_getElem? (i := 972) rfl) rfl
theorem ms_RX10_120 : h_MS RX10 120 yX10_in cX10_in 3 (some .boolean) 3 := ⟨⟨by decide, by decide, by decide +kernel⟩, h_in (List.mem_of_getElem? (i := 970) (by decide +kernel)) rfl, h_in (List.mem_of_getElem? (i := 971) (by decide +kernel)) rfl, h_in (List.mem_of_getElem? (i := 6) (by decide +kernel)) rfl, cd_X10_in⟩
set_option maxRecDepth 100000 in
theorem cd_X10_begin : Cond.code yX10_begin cX10_begin 3 (some .boolean) ∈ h_ws := h_in (List.mem_of_getElem? (i := 985) rfl) rfl
theorem ms_RX10_124 : h_MS RX10 124 yX10_begin cX10_begin 3 (some .boolean) 3 := ⟨⟨by decide, by decide, by decide +kernel⟩, h_in (List.mem_of_getElem? (i := 983) (by decide +kernel)) rfl, h_in (List.mem_of_getElem? (i := 984) (by decide +kernel)) rfl, h_in (List.mem_of_getElem? (i := 6) (by decide +kernel)) rfl, cd_X10_begin⟩
theorem fl_RX10_17 : h_FL RX10 17 11 4 1 := ⟨_, _, _, hcl_10, by decide, rfl, h_in (List.mem_of_getElem? (i := 835) (by decide +kernel)) rfl⟩
theorem fl_RX10_21 : h_FL RX10 21 11 5 1 := ⟨_, _, _, hcl_10, by decide, rfl, h_in (List.mem_of_getElem? (i := 836) (by decide +kernel)) rfl⟩
set_option maxRecDepth 100000 in
theorem cd_X10_holds : Cond.code yX10_holds cX10_holds 4 (some .boolean) ∈ h_ws := h_in (List.mem_of_getElem? (i := 982) rfl) rfl
theorem ms_RX10_127 : h_MS RX10 127 yX10_holds cX10_holds 4 (some .boolean) 4 := ⟨⟨by decide, by decide, by decide +kernel⟩, h_in (List.mem_of_getElem? (i := 980) (by decide +kernel)) rfl, h_in (List.mem_of_getElem? (i := 981) (by decide +kernel)) rfl, h_in (List.mem_of_getElem? (i := 6) (by decide +kernel)) rfl, cd_X10_holds⟩
set_option maxRecDepth 100000 in
theorem cd_X10_isServerAt : Cond.code yX10_isServerAt cX10_isServerAt 2 (some .boolean) ∈ h_ws := h_in (List.mem_of_getElem? (i := 969) rfl) rfl
theorem mv_RX10_131 : h_MV RX10 131 11 yX10_isServerAt cX10_isServerAt 2 (some .boolean) 1 := ⟨⟨_, _, hcl_10⟩, ⟨by decide, by decide, by decide +kernel⟩, h_in (List.mem_of_getElem? (i := 966) (by decide +kernel)) rfl, h_in (List.mem_of_getElem? (i := 968) (by decide +kernel)) rfl, h_inS (q := (yX10_isServerAt, 43)) (List.mem_append_right _ (List.mem_append_left _ (List.mem_of_getElem? (i := 13) rfl))) rfl, cd_X10_isServerAt⟩
theorem fw_RX10_117 : h_FW RX10 117 11 0 0 := ⟨_, _, _, hcl_10, by decide, rfl, h_in (List.mem_of_getElem? (i := 831) (by decide +kernel)) rfl, rfl⟩
theorem fl_RX10_117 : h_FL RX10 117 11 0 0 := ⟨_, _, _, hcl_10, by decide, rfl, h_in (List.mem_of_getElem? (i := 831) (by decide +kernel)) rfl⟩
set_option maxRecDepth 100000 in
theorem cd_X10_owner : Cond.code yX10_owner cX10_owner 5 (some .int) ∈ h_ws := h_in (List.mem_of_getElem? (i := 979) rfl) rfl
theorem mv_RX10_139 : h_MV RX10 139 11 yX10_owner cX10_owner 5 (some .int) 2 := ⟨⟨_, _, hcl_10⟩, ⟨by decide, by decide, by decide +kernel⟩, h_in (List.mem_of_getElem? (i := 976) (by decide +kernel)) rfl, h_in (List.mem_of_getElem? (i := 978) (by decide +kernel)) rfl, h_inS (q := (yX10_owner, 43)) (List.mem_append_right _ (List.mem_append_left _ (List.mem_of_getElem? (i := 14) rfl))) rfl, cd_X10_owner⟩
set_option maxRecDepth 100000 in
theorem cd_X10_isPrefix : Cond.code yX10_isPrefix cX10_isPrefix 2 (some .boolean) ∈ h_ws := h_in (List.mem_of_getElem? (i := 975) rfl) rfl
theorem ms_RX10_135 : h_MS RX10 135 yX10_isPrefix cX10_isPrefix 2 (some .boolean) 2 := ⟨⟨by decide, by decide, by decide +kernel⟩, h_in (List.mem_of_getElem? (i := 973) (by decide +kernel)) rfl, h_in (List.mem_of_getElem? (i := 974) (by decide +kernel)) rfl, h_in (List.mem_of_getElem? (i := 6) (by decide +kernel)) rfl, cd_X10_isPrefix⟩
set_option maxRecDepth 100000 in
theorem cd_X10_siteAt : Cond.code yX10_siteAt cX10_siteAt 3 (some .int) ∈ h_ws := h_in (List.mem_of_getElem? (i := 993) rfl) rfl
theorem mv_RX10_143 : h_MV RX10 143 11 yX10_siteAt cX10_siteAt 3 (some .int) 1 := ⟨⟨_, _, hcl_10⟩, ⟨by decide, by decide, by decide +kernel⟩, h_in (List.mem_of_getElem? (i := 990) (by decide +kernel)) rfl, h_in (List.mem_of_getElem? (i := 992) (by decide +kernel)) rfl, h_inS (q := (yX10_siteAt, 43)) (List.mem_append_right _ (List.mem_append_left _ (List.mem_of_getElem? (i := 15) rfl))) rfl, cd_X10_siteAt⟩
set_option maxRecDepth 100000 in
theorem cd_X10_isSite : Cond.code yX10_isSite cX10_isSite 2 (some .boolean) ∈ h_ws := h_in (List.mem_of_getElem? (i := 1001) rfl) rfl
theorem mv_RX10_147 : h_MV RX10 147 11 yX10_isSite cX10_isSite 2 (some .boolean) 1 := ⟨⟨_, _, hcl_10⟩, ⟨by decide, by decide, by decide +kernel⟩, h_in (List.mem_of_getElem? (i := 998) (by decide +kernel)) rfl, h_in (List.mem_of_getElem? (i := 1000) (by decide +kernel)) rfl, h_inS (q := (yX10_isSite, 43)) (List.mem_append_right _ (List.mem_append_right _ (List.mem_append_left _ (List.mem_of_getElem? (i := 0) rfl)))) rfl, cd_X10_isSite⟩
theorem fl_RX10_55 : h_FL RX10 55 11 16 1 := ⟨_, _, _, hcl_10, by decide, rfl, h_in (List.mem_of_getElem? (i := 847) (by decide +kernel)) rfl⟩
theorem fl_RX10_52 : h_FL RX10 52 11 15 1 := ⟨_, _, _, hcl_10, by decide, rfl, h_in (List.mem_of_getElem? (i := 846) (by decide +kernel)) rfl⟩
theorem fl_RX10_58 : h_FL RX10 58 11 17 1 := ⟨_, _, _, hcl_10, by decide, rfl, h_in (List.mem_of_getElem? (i := 848) (by decide +kernel)) rfl⟩
theorem fl_RX10_85 : h_FL RX10 85 11 27 1 := ⟨_, _, _, hcl_10, by decide, rfl, h_in (List.mem_of_getElem? (i := 858) (by decide +kernel)) rfl⟩
theorem fl_RX10_150 : h_FL RX10 150 11 1 0 := ⟨_, _, _, hcl_10, by decide, rfl, h_in (List.mem_of_getElem? (i := 832) (by decide +kernel)) rfl⟩
theorem fl_RX10_153 : h_FL RX10 153 11 36 0 := ⟨_, _, _, hcl_10, by decide, rfl, h_in (List.mem_of_getElem? (i := 867) (by decide +kernel)) rfl⟩
theorem fl_RX10_109 : h_FL RX10 109 11 37 1 := ⟨_, _, _, hcl_10, by decide, rfl, h_in (List.mem_of_getElem? (i := 868) (by decide +kernel)) rfl⟩
theorem fw_RX10_153 : h_FW RX10 153 11 36 0 := ⟨_, _, _, hcl_10, by decide, rfl, h_in (List.mem_of_getElem? (i := 867) (by decide +kernel)) rfl, rfl⟩
theorem fl_RX10_156 : h_FL RX10 156 11 42 0 := ⟨_, _, _, hcl_10, by decide, rfl, h_in (List.mem_of_getElem? (i := 873) (by decide +kernel)) rfl⟩
theorem fw_RX10_156 : h_FW RX10 156 11 42 0 := ⟨_, _, _, hcl_10, by decide, rfl, h_in (List.mem_of_getElem? (i := 873) (by decide +kernel)) rfl, rfl⟩
theorem ck_RX10_159 : Cond.constant RX10 159 (16777619) ∈ h_ws := h_in (List.mem_of_getElem? (i := 1021) (by decide +kernel)) rfl
theorem ck_RX10_160 : Cond.constant RX10 160 (40503) ∈ h_ws := h_in (List.mem_of_getElem? (i := 1017) (by decide +kernel)) rfl
set_option maxRecDepth 100000 in
theorem cd_X10_mix : Cond.code yX10_mix cX10_mix 3 (some .int) ∈ h_ws := h_in (List.mem_of_getElem? (i := 1020) rfl) rfl
theorem ms_RX10_161 : h_MS RX10 161 yX10_mix cX10_mix 3 (some .int) 2 := ⟨⟨by decide, by decide, by decide +kernel⟩, h_in (List.mem_of_getElem? (i := 1018) (by decide +kernel)) rfl, h_in (List.mem_of_getElem? (i := 1019) (by decide +kernel)) rfl, h_in (List.mem_of_getElem? (i := 6) (by decide +kernel)) rfl, cd_X10_mix⟩
theorem fl_RX10_61 : h_FL RX10 61 11 18 1 := ⟨_, _, _, hcl_10, by decide, rfl, h_in (List.mem_of_getElem? (i := 849) (by decide +kernel)) rfl⟩
set_option maxRecDepth 100000 in
theorem cd_X10_post : Cond.code yX10_post cX10_post 9 none ∈ h_ws := h_in (List.mem_of_getElem? (i := 1013) rfl) rfl
theorem mv_RX10_164 : h_MV RX10 164 11 yX10_post cX10_post 9 none 7 := ⟨⟨_, _, hcl_10⟩, ⟨by decide, by decide, by decide +kernel⟩, h_in (List.mem_of_getElem? (i := 1010) (by decide +kernel)) rfl, h_in (List.mem_of_getElem? (i := 1012) (by decide +kernel)) rfl, h_inS (q := (yX10_post, 43)) (List.mem_append_right _ (List.mem_append_right _ (List.mem_append_left _ (List.mem_of_getElem? (i := 1) rfl)))) rfl, cd_X10_post⟩
set_option maxRecDepth 100000 in
theorem cd_X10_tag : Cond.code yX10_tag cX10_tag 5 (some .int) ∈ h_ws := h_in (List.mem_of_getElem? (i := 1016) rfl) rfl
theorem ms_RX10_168 : h_MS RX10 168 yX10_tag cX10_tag 5 (some .int) 5 := ⟨⟨by decide, by decide, by decide +kernel⟩, h_in (List.mem_of_getElem? (i := 1014) (by decide +kernel)) rfl, h_in (List.mem_of_getElem? (i := 1015) (by decide +kernel)) rfl, h_in (List.mem_of_getElem? (i := 6) (by decide +kernel)) rfl, cd_X10_tag⟩
set_option maxRecDepth 100000 in
theorem cd_X10_last : Cond.code yX10_last cX10_last 3 none ∈ h_ws := h_in (List.mem_of_getElem? (i := 1025) rfl) rfl
theorem mv_RX10_172 : h_MV RX10 172 11 yX10_last cX10_last 3 none 2 := ⟨⟨_, _, hcl_10⟩, ⟨by decide, by decide, by decide +kernel⟩, h_in (List.mem_of_getElem? (i := 1022) (by decide +kernel)) rfl, h_in (List.mem_of_getElem? (i := 1024) (by decide +kernel)) rfl, h_inS (q := (yX10_last, 43)) (List.mem_append_right _ (List.mem_append_right _ (List.mem_append_left _ (List.mem_of_getElem? (i := 2) rfl)))) rfl, cd_X10_last⟩
theorem fl_RX10_112 : h_FL RX10 112 11 38 1 := ⟨_, _, _, hcl_10, by decide, rfl, h_in (List.mem_of_getElem? (i := 869) (by decide +kernel)) rfl⟩
theorem fl_RX10_106 : h_FL RX10 106 11 35 1 := ⟨_, _, _, hcl_10, by decide, rfl, h_in (List.mem_of_getElem? (i := 866) (by decide +kernel)) rfl⟩
theorem fl_RX10_94 : h_FL RX10 94 11 31 1 := ⟨_, _, _, hcl_10, by decide, rfl, h_in (List.mem_of_getElem? (i := 862) (by decide +kernel)) rfl⟩
theorem fl_RX10_100 : h_FL RX10 100 11 33 1 := ⟨_, _, _, hcl_10, by decide, rfl, h_in (List.mem_of_getElem? (i := 864) (by decide +kernel)) rfl⟩
theorem fl_RX10_231 : h_FL RX10 231 11 28 0 := ⟨_, _, _, hcl_10, by decide, rfl, h_in (List.mem_of_getElem? (i := 859) (by decide +kernel)) rfl⟩
theorem fl_RX10_256 : h_FL RX10 256 11 41 0 := ⟨_, _, _, hcl_10, by decide, rfl, h_in (List.mem_of_getElem? (i := 872) (by decide +kernel)) rfl⟩
theorem fw_RX10_256 : h_FW RX10 256 11 41 0 := ⟨_, _, _, hcl_10, by decide, rfl, h_in (List.mem_of_getElem? (i := 872) (by decide +kernel)) rfl, rfl⟩
set_option maxRecDepth 100000 in
theorem cd_X10_lose : Cond.code yX10_lose cX10_lose 2 none ∈ h_ws := h_in (List.mem_of_getElem? (i := 1104) rfl) rfl
theorem mv_RX10_253 : h_MV RX10 253 11 yX10_lose cX10_lose 2 none 1 := ⟨⟨_, _, hcl_10⟩, ⟨by decide, by decide, by decide +kernel⟩, h_in (List.mem_of_getElem? (i := 1101) (by decide +kernel)) rfl, h_in (List.mem_of_getElem? (i := 1103) (by decide +kernel)) rfl, h_inS (q := (yX10_lose, 43)) (List.mem_append_right _ (List.mem_append_right _ (List.mem_append_right _ (List.mem_of_getElem? (i := 4) rfl)))) rfl, cd_X10_lose⟩
set_option maxRecDepth 100000 in
theorem cd_X10_hasEndpoint : Cond.code yX10_hasEndpoint cX10_hasEndpoint 4 (some .boolean) ∈ h_ws := h_in (List.mem_of_getElem? (i := 1096) rfl) rfl
theorem mv_RX10_234 : h_MV RX10 234 11 yX10_hasEndpoint cX10_hasEndpoint 4 (some .boolean) 2 := ⟨⟨_, _, hcl_10⟩, ⟨by decide, by decide, by decide +kernel⟩, h_in (List.mem_of_getElem? (i := 1093) (by decide +kernel)) rfl, h_in (List.mem_of_getElem? (i := 1095) (by decide +kernel)) rfl, h_inS (q := (yX10_hasEndpoint, 43)) (List.mem_append_right _ (List.mem_append_right _ (List.mem_append_right _ (List.mem_of_getElem? (i := 2) rfl)))) rfl, cd_X10_hasEndpoint⟩
set_option maxRecDepth 100000 in
theorem cd_X10_deliver : Cond.code yX10_deliver cX10_deliver 3 none ∈ h_ws := h_in (List.mem_of_getElem? (i := 1100) rfl) rfl
theorem mv_RX10_237 : h_MV RX10 237 11 yX10_deliver cX10_deliver 3 none 2 := ⟨⟨_, _, hcl_10⟩, ⟨by decide, by decide, by decide +kernel⟩, h_in (List.mem_of_getElem? (i := 1097) (by decide +kernel)) rfl, h_in (List.mem_of_getElem? (i := 1099) (by decide +kernel)) rfl, h_inS (q := (yX10_deliver, 43)) (List.mem_append_right _ (List.mem_append_right _ (List.mem_append_right _ (List.mem_of_getElem? (i := 3) rfl)))) rfl, cd_X10_deliver⟩
theorem fl_RX10_76 : h_FL RX10 76 11 23 1 := ⟨_, _, _, hcl_10, by decide, rfl, h_in (List.mem_of_getElem? (i := 854) (by decide +kernel)) rfl⟩
theorem fl_RX10_64 : h_FL RX10 64 11 19 1 := ⟨_, _, _, hcl_10, by decide, rfl, h_in (List.mem_of_getElem? (i := 850) (by decide +kernel)) rfl⟩
theorem fl_RX10_67 : h_FL RX10 67 11 20 1 := ⟨_, _, _, hcl_10, by decide, rfl, h_in (List.mem_of_getElem? (i := 851) (by decide +kernel)) rfl⟩
set_option maxRecDepth 100000 in
theorem cd_X10_noteFor : Cond.code yX10_noteFor cX10_noteFor 4 (some .int) ∈ h_ws := h_in (List.mem_of_getElem? (i := 1112) rfl) rfl
theorem mv_RX10_222 : h_MV RX10 222 11 yX10_noteFor cX10_noteFor 4 (some .int) 2 := ⟨⟨_, _, hcl_10⟩, ⟨by decide, by decide, by decide +kernel⟩, h_in (List.mem_of_getElem? (i := 1109) (by decide +kernel)) rfl, h_in (List.mem_of_getElem? (i := 1111) (by decide +kernel)) rfl, h_inS (q := (yX10_noteFor, 43)) (List.mem_append_right _ (List.mem_append_right _ (List.mem_append_right _ (List.mem_of_getElem? (i := 6) rfl)))) rfl, cd_X10_noteFor⟩
theorem fl_RX10_70 : h_FL RX10 70 11 21 1 := ⟨_, _, _, hcl_10, by decide, rfl, h_in (List.mem_of_getElem? (i := 852) (by decide +kernel)) rfl⟩
theorem fl_RX10_42 : h_FL RX10 42 11 12 1 := ⟨_, _, _, hcl_10, by decide, rfl, h_in (List.mem_of_getElem? (i := 843) (by decide +kernel)) rfl⟩
theorem fl_RX10_27 : h_FL RX10 27 11 7 1 := ⟨_, _, _, hcl_10, by decide, rfl, h_in (List.mem_of_getElem? (i := 838) (by decide +kernel)) rfl⟩
theorem fl_RX10_30 : h_FL RX10 30 11 8 1 := ⟨_, _, _, hcl_10, by decide, rfl, h_in (List.mem_of_getElem? (i := 839) (by decide +kernel)) rfl⟩
theorem fl_RX10_33 : h_FL RX10 33 11 9 1 := ⟨_, _, _, hcl_10, by decide, rfl, h_in (List.mem_of_getElem? (i := 840) (by decide +kernel)) rfl⟩
theorem fl_RX10_36 : h_FL RX10 36 11 10 1 := ⟨_, _, _, hcl_10, by decide, rfl, h_in (List.mem_of_getElem? (i := 841) (by decide +kernel)) rfl⟩
theorem fl_RX10_39 : h_FL RX10 39 11 11 1 := ⟨_, _, _, hcl_10, by decide, rfl, h_in (List.mem_of_getElem? (i := 842) (by decide +kernel)) rfl⟩
theorem fl_RX10_210 : h_FL RX10 210 11 39 0 := ⟨_, _, _, hcl_10, by decide, rfl, h_in (List.mem_of_getElem? (i := 870) (by decide +kernel)) rfl⟩
theorem fw_RX10_210 : h_FW RX10 210 11 39 0 := ⟨_, _, _, hcl_10, by decide, rfl, h_in (List.mem_of_getElem? (i := 870) (by decide +kernel)) rfl, rfl⟩
set_option maxRecDepth 100000 in
theorem cd_X10_emptyEntry : Cond.code yX10_emptyEntry cX10_emptyEntry 3 (some .int) ∈ h_ws := h_in (List.mem_of_getElem? (i := 1053) rfl) rfl
theorem mv_RX10_207 : h_MV RX10 207 11 yX10_emptyEntry cX10_emptyEntry 3 (some .int) 1 := ⟨⟨_, _, hcl_10⟩, ⟨by decide, by decide, by decide +kernel⟩, h_in (List.mem_of_getElem? (i := 1050) (by decide +kernel)) rfl, h_in (List.mem_of_getElem? (i := 1052) (by decide +kernel)) rfl, h_inS (q := (yX10_emptyEntry, 43)) (List.mem_append_right _ (List.mem_append_right _ (List.mem_append_left _ (List.mem_of_getElem? (i := 8) rfl)))) rfl, cd_X10_emptyEntry⟩
set_option maxRecDepth 100000 in
theorem cd_X10_entryFor : Cond.code yX10_entryFor cX10_entryFor 5 (some .int) ∈ h_ws := h_in (List.mem_of_getElem? (i := 1049) rfl) rfl
theorem mv_RX10_203 : h_MV RX10 203 11 yX10_entryFor cX10_entryFor 5 (some .int) 3 := ⟨⟨_, _, hcl_10⟩, ⟨by decide, by decide, by decide +kernel⟩, h_in (List.mem_of_getElem? (i := 1046) (by decide +kernel)) rfl, h_in (List.mem_of_getElem? (i := 1048) (by decide +kernel)) rfl, h_inS (q := (yX10_entryFor, 43)) (List.mem_append_right _ (List.mem_append_right _ (List.mem_append_left _ (List.mem_of_getElem? (i := 7) rfl)))) rfl, cd_X10_entryFor⟩
theorem fl_RX10_7 : h_FL RX10 7 11 2 0 := ⟨_, _, _, hcl_10, by decide, rfl, h_in (List.mem_of_getElem? (i := 833) (by decide +kernel)) rfl⟩
set_option maxRecDepth 100000 in
theorem cd_X10_draw : Cond.code yX10_draw cX10_draw 1 none ∈ h_ws := h_in (List.mem_of_getElem? (i := 1080) rfl) rfl
theorem mv_RX10_228 : h_MV RX10 228 11 yX10_draw cX10_draw 1 none 0 := ⟨⟨_, _, hcl_10⟩, ⟨by decide, by decide, by decide +kernel⟩, h_in (List.mem_of_getElem? (i := 1077) (by decide +kernel)) rfl, h_in (List.mem_of_getElem? (i := 1079) (by decide +kernel)) rfl, h_inS (q := (yX10_draw, 43)) (List.mem_append_right _ (List.mem_append_right _ (List.mem_append_left _ (List.mem_of_getElem? (i := 14) rfl)))) rfl, cd_X10_draw⟩
theorem fl_RX10_97 : h_FL RX10 97 11 32 1 := ⟨_, _, _, hcl_10, by decide, rfl, h_in (List.mem_of_getElem? (i := 863) (by decide +kernel)) rfl⟩
theorem fl_RX10_88 : h_FL RX10 88 11 29 1 := ⟨_, _, _, hcl_10, by decide, rfl, h_in (List.mem_of_getElem? (i := 860) (by decide +kernel)) rfl⟩
theorem fl_RX10_91 : h_FL RX10 91 11 30 1 := ⟨_, _, _, hcl_10, by decide, rfl, h_in (List.mem_of_getElem? (i := 861) (by decide +kernel)) rfl⟩
theorem fl_RX10_225 : h_FL RX10 225 11 25 0 := ⟨_, _, _, hcl_10, by decide, rfl, h_in (List.mem_of_getElem? (i := 856) (by decide +kernel)) rfl⟩
theorem fw_RX10_225 : h_FW RX10 225 11 25 0 := ⟨_, _, _, hcl_10, by decide, rfl, h_in (List.mem_of_getElem? (i := 856) (by decide +kernel)) rfl, rfl⟩
theorem fl_RX10_73 : h_FL RX10 73 11 22 1 := ⟨_, _, _, hcl_10, by decide, rfl, h_in (List.mem_of_getElem? (i := 853) (by decide +kernel)) rfl⟩
theorem fl_RX10_79 : h_FL RX10 79 11 24 1 := ⟨_, _, _, hcl_10, by decide, rfl, h_in (List.mem_of_getElem? (i := 855) (by decide +kernel)) rfl⟩
set_option maxRecDepth 100000 in
theorem cd_X10_makeNote : Cond.code yX10_makeNote cX10_makeNote 10 none ∈ h_ws := h_in (List.mem_of_getElem? (i := 1084) rfl) rfl
theorem mv_RX10_249 : h_MV RX10 249 11 yX10_makeNote cX10_makeNote 10 none 5 := ⟨⟨_, _, hcl_10⟩, ⟨by decide, by decide, by decide +kernel⟩, h_in (List.mem_of_getElem? (i := 1081) (by decide +kernel)) rfl, h_in (List.mem_of_getElem? (i := 1083) (by decide +kernel)) rfl, h_inS (q := (yX10_makeNote, 43)) (List.mem_append_right _ (List.mem_append_right _ (List.mem_append_left _ (List.mem_of_getElem? (i := 15) rfl)))) rfl, cd_X10_makeNote⟩
set_option maxRecDepth 100000 in
theorem cd_X10_follow : Cond.code yX10_follow cX10_follow 3 none ∈ h_ws := h_in (List.mem_of_getElem? (i := 1088) rfl) rfl
theorem mv_RX10_240 : h_MV RX10 240 11 yX10_follow cX10_follow 3 none 2 := ⟨⟨_, _, hcl_10⟩, ⟨by decide, by decide, by decide +kernel⟩, h_in (List.mem_of_getElem? (i := 1085) (by decide +kernel)) rfl, h_in (List.mem_of_getElem? (i := 1087) (by decide +kernel)) rfl, h_inS (q := (yX10_follow, 43)) (List.mem_append_right _ (List.mem_append_right _ (List.mem_append_right _ (List.mem_of_getElem? (i := 0) rfl)))) rfl, cd_X10_follow⟩
theorem fl_RX10_103 : h_FL RX10 103 11 34 1 := ⟨_, _, _, hcl_10, by decide, rfl, h_in (List.mem_of_getElem? (i := 865) (by decide +kernel)) rfl⟩
set_option maxRecDepth 100000 in
theorem cd_X10_ask : Cond.code yX10_ask cX10_ask 3 none ∈ h_ws := h_in (List.mem_of_getElem? (i := 1076) rfl) rfl
theorem mv_RX10_243 : h_MV RX10 243 11 yX10_ask cX10_ask 3 none 2 := ⟨⟨_, _, hcl_10⟩, ⟨by decide, by decide, by decide +kernel⟩, h_in (List.mem_of_getElem? (i := 1073) (by decide +kernel)) rfl, h_in (List.mem_of_getElem? (i := 1075) (by decide +kernel)) rfl, h_inS (q := (yX10_ask, 43)) (List.mem_append_right _ (List.mem_append_right _ (List.mem_append_left _ (List.mem_of_getElem? (i := 13) rfl)))) rfl, cd_X10_ask⟩
theorem fl_RX10_246 : h_FL RX10 246 11 40 0 := ⟨_, _, _, hcl_10, by decide, rfl, h_in (List.mem_of_getElem? (i := 871) (by decide +kernel)) rfl⟩
theorem fw_RX10_246 : h_FW RX10 246 11 40 0 := ⟨_, _, _, hcl_10, by decide, rfl, h_in (List.mem_of_getElem? (i := 871) (by decide +kernel)) rfl, rfl⟩
set_option maxRecDepth 100000 in
theorem cd_X10_best : Cond.code yX10_best cX10_best 5 (some .int) ∈ h_ws := h_in (List.mem_of_getElem? (i := 1061) rfl) rfl
theorem mv_RX10_213 : h_MV RX10 213 11 yX10_best cX10_best 5 (some .int) 2 := ⟨⟨_, _, hcl_10⟩, ⟨by decide, by decide, by decide +kernel⟩, h_in (List.mem_of_getElem? (i := 1058) (by decide +kernel)) rfl, h_in (List.mem_of_getElem? (i := 1060) (by decide +kernel)) rfl, h_inS (q := (yX10_best, 43)) (List.mem_append_right _ (List.mem_append_right _ (List.mem_append_left _ (List.mem_of_getElem? (i := 10) rfl)))) rfl, cd_X10_best⟩
set_option maxRecDepth 100000 in
theorem cd_X10_isCrowded : Cond.code yX10_isCrowded cX10_isCrowded 6 (some .boolean) ∈ h_ws := h_in (List.mem_of_getElem? (i := 1065) rfl) rfl
theorem mv_RX10_216 : h_MV RX10 216 11 yX10_isCrowded cX10_isCrowded 6 (some .boolean) 4 := ⟨⟨_, _, hcl_10⟩, ⟨by decide, by decide, by decide +kernel⟩, h_in (List.mem_of_getElem? (i := 1062) (by decide +kernel)) rfl, h_in (List.mem_of_getElem? (i := 1064) (by decide +kernel)) rfl, h_inS (q := (yX10_isCrowded, 43)) (List.mem_append_right _ (List.mem_append_right _ (List.mem_append_left _ (List.mem_of_getElem? (i := 11) rfl)))) rfl, cd_X10_isCrowded⟩
set_option maxRecDepth 100000 in
theorem cd_X10_cutTo : Cond.code yX10_cutTo cX10_cutTo 4 (some .int) ∈ h_ws := h_in (List.mem_of_getElem? (i := 1068) rfl) rfl
theorem ms_RX10_219 : h_MS RX10 219 yX10_cutTo cX10_cutTo 4 (some .int) 2 := ⟨⟨by decide, by decide, by decide +kernel⟩, h_in (List.mem_of_getElem? (i := 1066) (by decide +kernel)) rfl, h_in (List.mem_of_getElem? (i := 1067) (by decide +kernel)) rfl, h_in (List.mem_of_getElem? (i := 6) (by decide +kernel)) rfl, cd_X10_cutTo⟩
set_option maxRecDepth 100000 in
theorem cd_X10_forget : Cond.code yX10_forget cX10_forget 5 none ∈ h_ws := h_in (List.mem_of_getElem? (i := 1108) rfl) rfl
theorem mv_RX10_199 : h_MV RX10 199 11 yX10_forget cX10_forget 5 none 3 := ⟨⟨_, _, hcl_10⟩, ⟨by decide, by decide, by decide +kernel⟩, h_in (List.mem_of_getElem? (i := 1105) (by decide +kernel)) rfl, h_in (List.mem_of_getElem? (i := 1107) (by decide +kernel)) rfl, h_inS (q := (yX10_forget, 43)) (List.mem_append_right _ (List.mem_append_right _ (List.mem_append_right _ (List.mem_of_getElem? (i := 5) rfl)))) rfl, cd_X10_forget⟩
set_option maxRecDepth 100000 in
theorem cd_X10_came : Cond.code yX10_came cX10_came 7 none ∈ h_ws := h_in (List.mem_of_getElem? (i := 1092) rfl) rfl
theorem mv_RX10_196 : h_MV RX10 196 11 yX10_came cX10_came 7 none 0 := ⟨⟨_, _, hcl_10⟩, ⟨by decide, by decide, by decide +kernel⟩, h_in (List.mem_of_getElem? (i := 1089) (by decide +kernel)) rfl, h_in (List.mem_of_getElem? (i := 1091) (by decide +kernel)) rfl, h_inS (q := (yX10_came, 43)) (List.mem_append_right _ (List.mem_append_right _ (List.mem_append_right _ (List.mem_of_getElem? (i := 1) rfl)))) rfl, cd_X10_came⟩
set_option maxRecDepth 100000 in
theorem cd_X10_replied : Cond.code yX10_replied cX10_replied 5 none ∈ h_ws := h_in (List.mem_of_getElem? (i := 1072) rfl) rfl
theorem mv_RX10_193 : h_MV RX10 193 11 yX10_replied cX10_replied 5 none 0 := ⟨⟨_, _, hcl_10⟩, ⟨by decide, by decide, by decide +kernel⟩, h_in (List.mem_of_getElem? (i := 1069) (by decide +kernel)) rfl, h_in (List.mem_of_getElem? (i := 1071) (by decide +kernel)) rfl, h_inS (q := (yX10_replied, 43)) (List.mem_append_right _ (List.mem_append_right _ (List.mem_append_left _ (List.mem_of_getElem? (i := 12) rfl)))) rfl, cd_X10_replied⟩
set_option maxRecDepth 100000 in
theorem cd_X10_requested : Cond.code yX10_requested cX10_requested 7 none ∈ h_ws := h_in (List.mem_of_getElem? (i := 1057) rfl) rfl
theorem mv_RX10_190 : h_MV RX10 190 11 yX10_requested cX10_requested 7 none 0 := ⟨⟨_, _, hcl_10⟩, ⟨by decide, by decide, by decide +kernel⟩, h_in (List.mem_of_getElem? (i := 1054) (by decide +kernel)) rfl, h_in (List.mem_of_getElem? (i := 1056) (by decide +kernel)) rfl, h_inS (q := (yX10_requested, 43)) (List.mem_append_right _ (List.mem_append_right _ (List.mem_append_left _ (List.mem_of_getElem? (i := 9) rfl)))) rfl, cd_X10_requested⟩
set_option maxRecDepth 100000 in
theorem cd_X10_registered : Cond.code yX10_registered cX10_registered 5 none ∈ h_ws := h_in (List.mem_of_getElem? (i := 1045) rfl) rfl
theorem mv_RX10_187 : h_MV RX10 187 11 yX10_registered cX10_registered 5 none 0 := ⟨⟨_, _, hcl_10⟩, ⟨by decide, by decide, by decide +kernel⟩, h_in (List.mem_of_getElem? (i := 1042) (by decide +kernel)) rfl, h_in (List.mem_of_getElem? (i := 1044) (by decide +kernel)) rfl, h_inS (q := (yX10_registered, 43)) (List.mem_append_right _ (List.mem_append_right _ (List.mem_append_left _ (List.mem_of_getElem? (i := 6) rfl)))) rfl, cd_X10_registered⟩
set_option maxRecDepth 100000 in
theorem cd_X10_isMessage : Cond.code yX10_isMessage cX10_isMessage 2 (some .boolean) ∈ h_ws := h_in (List.mem_of_getElem? (i := 1033) rfl) rfl
theorem mv_RX10_176 : h_MV RX10 176 11 yX10_isMessage cX10_isMessage 2 (some .boolean) 1 := ⟨⟨_, _, hcl_10⟩, ⟨by decide, by decide, by decide +kernel⟩, h_in (List.mem_of_getElem? (i := 1030) (by decide +kernel)) rfl, h_in (List.mem_of_getElem? (i := 1032) (by decide +kernel)) rfl, h_inS (q := (yX10_isMessage, 43)) (List.mem_append_right _ (List.mem_append_right _ (List.mem_append_left _ (List.mem_of_getElem? (i := 3) rfl)))) rfl, cd_X10_isMessage⟩
set_option maxRecDepth 100000 in
theorem cd_X10_take : Cond.code yX10_take cX10_take 3 none ∈ h_ws := h_in (List.mem_of_getElem? (i := 1037) rfl) rfl
theorem mv_RX10_179 : h_MV RX10 179 11 yX10_take cX10_take 3 none 1 := ⟨⟨_, _, hcl_10⟩, ⟨by decide, by decide, by decide +kernel⟩, h_in (List.mem_of_getElem? (i := 1034) (by decide +kernel)) rfl, h_in (List.mem_of_getElem? (i := 1036) (by decide +kernel)) rfl, h_inS (q := (yX10_take, 43)) (List.mem_append_right _ (List.mem_append_right _ (List.mem_append_left _ (List.mem_of_getElem? (i := 4) rfl)))) rfl, cd_X10_take⟩
set_option maxRecDepth 100000 in
theorem cd_X10_arrive : Cond.code yX10_arrive cX10_arrive 1 none ∈ h_ws := h_in (List.mem_of_getElem? (i := 1041) rfl) rfl
theorem mv_RX10_183 : h_MV RX10 183 11 yX10_arrive cX10_arrive 1 none 0 := ⟨⟨_, _, hcl_10⟩, ⟨by decide, by decide, by decide +kernel⟩, h_in (List.mem_of_getElem? (i := 1038) (by decide +kernel)) rfl, h_in (List.mem_of_getElem? (i := 1040) (by decide +kernel)) rfl, h_inS (q := (yX10_arrive, 43)) (List.mem_append_right _ (List.mem_append_right _ (List.mem_append_left _ (List.mem_of_getElem? (i := 5) rfl)))) rfl, cd_X10_arrive⟩
theorem fw_RX10_150 : h_FW RX10 150 11 1 0 := ⟨_, _, _, hcl_10, by decide, rfl, h_in (List.mem_of_getElem? (i := 832) (by decide +kernel)) rfl, rfl⟩
theorem ck_RX10_186 : Cond.constant RX10 186 (1000000) ∈ h_ws := h_in (List.mem_of_getElem? (i := 1137) (by decide +kernel)) rfl
theorem fw_RX10_231 : h_FW RX10 231 11 28 0 := ⟨_, _, _, hcl_10, by decide, rfl, h_in (List.mem_of_getElem? (i := 859) (by decide +kernel)) rfl, rfl⟩
