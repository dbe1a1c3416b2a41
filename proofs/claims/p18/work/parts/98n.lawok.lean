/-! THE LAW: every call keeps the invariant -/
theorem law_ok {xs : Nat → Int32} {L sz sl : Nat} (hL : L ≤ 2560) : law_go xs L (h_0 sz sl) := by
  refine law_go_of (fx := false) (JJ sz sl) (fun σ h => ?_) (fun i σ hj hi5 => ?_)
  · obtain ⟨P, V, o, z, l, cz, ck⟩ := h
    have e1 : h_cz (h_0 sz sl) = sz + 601024 := rfl
    have e2 : h_ck (h_0 sz sl) = sl + 7293034 := rfl
    have e3 : Phi ms0 0 0 = 0 := rfl
    exact ⟨ms0, 0, 0, 0, 0, ⟨⟨_, P⟩, V, o⟩, RI_0, by omega, by omega, by omega, by omega⟩
  · obtain ⟨ms, n, np, M, t, hJ'⟩ := hj
    have hJ : JA sz sl i σ ms n np M t := hJ'
    have hi : i ≤ 2560 := by omega
    unfold lc_all
    exact (ite_both ((j_delegate hJ hi _ _ _ _).u) (ite_both ((j_site hJ hi _ _).u) (ite_both ((j_prefix hJ hi _ _ _).u) (ite_both ((j_move hJ hi _ _).u) (ite_both ((j_register hJ hi _).u) (ite_both ((j_send hJ hi _ _).u) (ite_both ((j_carry hJ hi _).u) (ite_both ((j_repeat hJ hi _).u) (ite_both ((j_drop hJ hi _).u) (ite_both ((j_forge hJ hi _ _ _).u) (ite_both (u_message hJ hi _ _) (ite_both ((j_run hJ hi _).u) (ite_both ((j_pass hJ hi _).u) (ite_both ((j_packet hJ hi _ _).u) (ite_both (u_note hJ hi _ _ _) (ite_both ((j_truth hJ _).u) (ite_both (j_count hJ _) (hJ.nx hJ.1 hJ.2.1 (dz := 0) (ds := 0) ⟨Nat.le_refl _, Nat.le_refl _, Nat.le_refl _, rfl, rfl⟩ (by omega) (by omega)))))))))))))))))))
