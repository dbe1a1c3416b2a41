/-! ROWS OF THE WALK: what writes, what makes -/
section HP5
variable {p : Program} {l : Launch} {e : Env} {R : Room} {s : State} {m : MethodId} {args : Array Value} {below : List Frame} {meth : Method} {c : Code} {D : va_G} {dA : Nat → ClassId} {bs nL : Nat} {Q : State → Prop} {cc : ByteArray} {own : String} {σ : HS} {pc : Nat} {lv : List (Nat × Value)} {rest : List Value}
theorem h_mk_some {t n : Nat} {r : Option Nat} {σ' : HS} (h : h_mk σ t n = some (r, σ')) : h_sz σ + 1 ≤ h_cz σ ∧ h_sl σ + n ≤ h_ck σ ∧ r = some (h_sz σ) ∧ σ' = h_push σ t 0 n := by
  unfold h_mk at h
  by_cases hc : h_sz σ + 1 ≤ h_cz σ ∧ h_sl σ + n ≤ h_ck σ
  · rw [if_pos hc] at h
    cases h
    exact ⟨hc.1, hc.2, rfl, rfl⟩
  · rw [if_neg hc] at h
    cases h
theorem h_mkA_some {t : Nat} {n : Int32} {r : Option Nat} {σ' : HS} (h : h_mkA σ t n = some (r, σ')) : ¬ n < 0 ∧ n.toNatClampNeg ≤ 60000000 ∧ h_sz σ + 1 ≤ h_cz σ ∧ h_sl σ + n.toNatClampNeg ≤ h_ck σ ∧ r = some (h_sz σ) ∧ σ' = h_push σ t n.toNatClampNeg n.toNatClampNeg := by
  unfold h_mkA at h
  by_cases hc : ¬ n < 0 ∧ n.toNatClampNeg ≤ 60000000 ∧ h_sz σ + 1 ≤ h_cz σ ∧ h_sl σ + n.toNatClampNeg ≤ h_ck σ
  · rw [if_pos hc] at h
    cases h
    exact ⟨hc.1, hc.2.1, hc.2.2.1, hc.2.2.2, rfl, rfl⟩
  · rw [if_neg hc] at h
    cases h
theorem h_tg_push {t n k : Nat} : h_tg (h_push σ t n k) (h_sz σ) = t := va_up_self _ _ _
theorem h_ln_push {t n k : Nat} : h_ln (h_push σ t n k) (h_sz σ) = n := va_up_self _ _ _
theorem h_val_push {t n k kd j : Nat} : h_val kd (h_push σ t n k) (h_sz σ) j = if kd = 0 then .int 0 else if kd = 1 then va_rf none else .long 0 := by
  simp [h_val, h_push, h_iv, h_rv, h_lv, h_upA]
theorem h_I_push {H : Heap} {locs : List Loc} {ls : Array Slot} {t n k : Nat} {c1 : Cell} (I : h_I R s D dA bs nL σ lv H locs ls) (hk : c1.slots.size = k) (hc1 : h_sz σ + 1 ≤ h_cz σ) (hc2 : h_sl σ + k ≤ h_ck σ) (ha : h_at D dA (h_push σ t n k) H.size (H.push c1)) : h_I R s D dA bs nL (h_push σ t n k) lv (H.push c1) locs ls := by
  have hle : s.heap.size ≤ H.size := I.2.1.1
  refine ⟨hG_push I.1 (Nat.le_trans I.2.2.2.2.2 hle) hk hc1 hc2 ha, ⟨by rw [Array.size_push]; omega, fun q h1 h2 => ?_, I.2.1.2.2⟩, I.2.2⟩
  rw [Array.getElem?_push, if_neg (by omega)]
  exact I.2.1.2.1 q h1 h2
end HP5
