/-! TIME GOES ON: what has lapsed is gone on both sides -/
def eP (now : Int32) (q : E6) : Bool := decide (now < q.2.2.2.2.2)
theorem eL_later {now now' : Int32} (h : now ≤ now') {f : Nat → Option E6} : ∀ (c i : Nat), eL now' f i c = (eL now f i c).filter (eP now')
  | 0, i => rfl
  | c + 1, i => by
    have ih := eL_later h (f := f) c (i + 1)
    unfold eL
    cases hf : f i with
    | none => exact ih
    | some q =>
      show (if now' < q.2.2.2.2.2 then q :: eL now' f (i + 1) c else eL now' f (i + 1) c) = (if now < q.2.2.2.2.2 then q :: eL now f (i + 1) c else eL now f (i + 1) c).filter (eP now')
      by_cases h1 : now' < q.2.2.2.2.2
      · rw [if_pos h1, if_pos (Int32.lt_of_le_of_lt h h1), List.filter_cons_of_pos (p := eP now') (a := q) (decide_eq_true h1), ih]
      · rw [if_neg h1]
        by_cases h2 : now < q.2.2.2.2.2
        · rw [if_pos h2, List.filter_cons_of_neg (p := eP now') (a := q) (fun z => h1 (of_decide_eq_true z)), ih]
        · rw [if_neg h2, ih]
theorem lL_later {α : Type} {P P' : α → Bool} (h : ∀ q, P' q = true → P q = true) {f : Nat → Option α} : ∀ (c i : Nat), lL P' f i c = (lL P f i c).filter P'
  | 0, i => rfl
  | c + 1, i => by
    have ih := lL_later h (f := f) c (i + 1)
    unfold lL
    cases hf : f i with
    | none => exact ih
    | some q =>
      show (if P' q = true then q :: lL P' f (i + 1) c else lL P' f (i + 1) c) = (if P q = true then q :: lL P f (i + 1) c else lL P f (i + 1) c).filter P'
      by_cases h1 : P' q = true
      · rw [if_pos h1, if_pos (h q h1), List.filter_cons_of_pos h1, ih]
      · rw [if_neg h1]
        by_cases h2 : P q = true
        · rw [if_pos h2, List.filter_cons_of_neg h1, ih]
        · rw [if_neg h2, ih]
theorem fa2_filter {α β : Type} {R : α → β → Prop} {P : α → Bool} {P' : β → Bool} (h : ∀ a b, R a b → P a = P' b) : ∀ (l : List α) (r : List β), fa2 R l r → fa2 R (l.filter P) (r.filter P')
  | [], [], _ => trivial
  | a :: l, b :: r, hh => by
    have ih := fa2_filter h l r hh.2
    have e := h a b hh.1
    cases hp : P a with
    | true => rw [List.filter_cons_of_pos hp, List.filter_cons_of_pos (by rw [← e]; exact hp)]; exact ⟨hh.1, ih⟩
    | false => rw [List.filter_cons_of_neg (by rw [hp]; decide), List.filter_cons_of_neg (by rw [← e, hp]; decide)]; exact ih
  | [], _ :: _, hh => absurd hh (by intro z; exact z)
  | _ :: _, [], hh => absurd hh (by intro z; exact z)
theorem nP_le {now now' : Int32} (h : now ≤ now') (q : N5) (h1 : nP now' q = true) : nP now q = true := decide_eq_true (Int32.lt_of_le_of_lt h (of_decide_eq_true h1))
theorem NtR_filter {fx : Bool} {cl : List N5} {rl : List (N5 × Int32)} (N : NtR fx cl rl) (now : Int32) : NtR fx (cl.filter (nP now)) (rl.filter (fun q => nP now q.1)) := by
  obtain ⟨L, h1, h2, h3⟩ := N
  refine ⟨L.filter (fun q => nP now q.1), h1.filter _, h2.filter _, fa2_filter (fun a b hab => ?_) cl L h3⟩
  unfold nP
  rw [hab.2.2.2.1]
section LTR
variable {fx : Bool} {σ σ' : HS} {x : Nat} {G : Nat → Nat → Nat} {ms ms' : MS}
/-- the same cells, a later time -/
theorem SvR.later {i : Nat} (I : SvR σ G ms i) (h : ms.1 1 ≤ ms'.1 1) (e : ∀ k j, ms'.2.1 k j = ms.2.1 k j) (e3 : ms'.2.2 = ms.2.2) : SvR σ G ms' i := by
  obtain ⟨a1, a2, a3, a4, a5, a6, b3, b4, b5⟩ := I
  have epB : pB ms' i = pB ms i := e 4 i
  have epL : pL ms' i = pL ms i := by unfold pL; rw [e 5 i]
  refine ⟨a1, a2, by rw [e 6 i]; exact a3, by rw [epB, epL]; exact a4, a5, a6, by rw [e3]; exact b3, b4, ?_⟩
  have em : ∀ j, eM ms' j = eM ms j := fun j => by unfold eM; rw [e, e, e, e, e, e]
  have e1 : eL (ms'.1 1) (eM ms') (16 * i) 16 = (eL (ms.1 1) (eM ms) (16 * i) 16).filter (eP (ms'.1 1)) := (eL_congr 16 (16 * i) (fun j _ _ => em j)).trans (eL_later h 16 (16 * i))
  rw [eL_later h (f := eC σ (G 1 i)) 16 0, e1]
  exact b5.filter _
theorem SiR.later {s : Nat} (I : SiR fx σ G ms s) (h : ms.1 1 ≤ ms'.1 1) (e : ∀ k j, ms'.2.1 k j = ms.2.1 k j) : SiR fx σ G ms' s := by
  obtain ⟨a1, a2, a3, a4, a5, a6, a7, a8, z, z1, z2, z3, z4⟩ := I
  refine ⟨a1, by rw [e]; exact a2, by rw [e]; exact a3, by rw [e]; exact a4, a5, ?_, a7, a8, z, z1, z2, z3, ?_⟩
  · obtain ⟨c, c1, c2, c3⟩ := a6
    exact ⟨c, c1, by rw [e]; exact c2, fun k hk => by rw [e, e]; exact c3 k hk⟩
  · have em : ∀ j, nM ms' j = nM ms j := fun j => by unfold nM; rw [e, e, e, e, e, e]
    have e1 : lL (nP (ms'.1 1)) (nC σ (G 6 s)) 0 z = (lL (nP (ms.1 1)) (nC σ (G 6 s)) 0 z).filter (nP (ms'.1 1)) := lL_later (nP_le h) z 0
    have e2 : lL (fun q => nP (ms'.1 1) q.1) (nM ms') (6 * s) 6 = (lL (fun q => nP (ms.1 1) q.1) (nM ms) (6 * s) 6).filter (fun q => nP (ms'.1 1) q.1) := (lL_congr 6 (6 * s) (fun j _ _ => em j)).trans (lL_later (P := fun q : N5 × Int32 => nP (ms.1 1) q.1) (P' := fun q : N5 × Int32 => nP (ms'.1 1) q.1) (fun q hq => nP_le h q.1 hq) 6 (6 * s))
    rw [e1, e2]
    exact NtR_filter z4 _
/-- time goes on -/
theorem Rep_pass (P : Rep fx σ x G ms) {t t' : Nat} (ht : ms.1 1 = nI t) (hle : t ≤ t') (hb : t' ≤ 1000000) : Rep fx (h_setI σ x 9 (nI t')) x G (k_pI ms 1 (nI t')) := by
  have hW : WI [x] σ (h_setI σ x 9 (nI t')) := WI_I (by simp)
  have h50 := P.1.1
  obtain ⟨Z, F, N, R, W, K, S, T⟩ := P
  have hn : ∀ k, k ≠ 0 → Sm σ (h_setI σ x 9 (nI t')) (x + k) := fun k hk => Sm_I (by omega)
  have hsm : ∀ b, h_tg σ b ≠ 10 → Sm σ (h_setI σ x 9 (nI t')) b := fun b hb => Sm_I (fun z => hb (by rw [z]; exact F.1))
  have hle' : ms.1 1 ≤ (k_pI ms 1 (nI t')).1 1 := by rw [pI_s1, ht]; exact nI_le hle (by omega)
  have e1 : ∀ k, k ≠ 1 → (k_pI ms 1 (nI t')).1 k = ms.1 k := fun k hk => pI_n1 hk
  refine ⟨Zx_WI hW Z, hW.fx F, ?_, R.to (hn 10 (by omega)) (hn 11 (by omega)) (e1 36 (by omega)) (e1 42 (by omega)) (fun _ => rfl), ?_, K.to (hn 14 (by omega)) (fun b hb => hsm b (by rw [hb]; decide)) (e1 28 (by omega)) (fun _ _ _ _ => rfl), ?_, ?_⟩
  · obtain ⟨n1, n2, n3, n4, n5, n6⟩ := N
    refine ⟨by rw [iv_sIk (by omega), e1 28 (by omega)]; exact n1, by rw [iv_sI, pI_s1], by rw [iv_sIk (by omega), e1 2 (by omega)]; exact n3, by rw [iv_sIk (by omega), e1 39 (by omega)]; exact n4, by rw [iv_sIk (by omega), e1 40 (by omega)]; exact n5, by rw [iv_sIk (by omega), e1 41 (by omega)]; exact n6⟩
  · intro p hp
    obtain ⟨w1, w2⟩ := W p hp
    refine ⟨by rw [(hn 8 (by omega)).2.2.1]; exact w1, fun h => ?_⟩
    obtain ⟨u, tn, u1, u2, u3, u4, u5⟩ := w2 h
    rw [(hn 9 (by omega)).2.2.1]
    have : tn = t := (nI_eq (by omega) (by omega)).mp (u3.symm.trans ht)
    exact ⟨u, t', u1, u2, pI_s1, by omega, hb⟩
  · have S' := S.to (σ' := h_setI σ x 9 (nI t')) (ms' := ms) (hn 2 (by omega)) (fun b hb => hsm b (by rcases hb with h | h | h | h <;> rw [h] <;> decide)) (fun i hi hp => hsm _ (by obtain ⟨-, -, -, -, -, -, ⟨-, b1, -⟩, -⟩ := (S.2.2 i hi).2 hp; rw [b1]; decide)) rfl (fun _ _ _ _ => rfl) rfl
    obtain ⟨s1, s2, s3⟩ := S'
    exact ⟨s1, s2, fun i hi => ⟨(s3 i hi).1, fun hp => ⟨((s3 i hi).2 hp).1, ((s3 i hi).2 hp).2.later hle' (fun _ _ => rfl) rfl⟩⟩⟩
  · have T' := T.to (σ' := h_setI σ x 9 (nI t')) (ms' := ms) (hn 7 (by omega)) (fun b hb => hsm b (by rcases hb with h | h | h | h | h | h <;> rw [h] <;> decide)) rfl (fun _ _ _ _ => rfl)
    obtain ⟨t1, t2⟩ := T'
    exact ⟨t1, fun s hs => ⟨(t2 s hs).1, fun hp => ⟨((t2 s hs).2 hp).1, ((t2 s hs).2 hp).2.later hle' (fun _ _ => rfl)⟩⟩⟩
end LTR
