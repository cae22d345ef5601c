/-! THE CLASS'S CORES -/
/-- what a peeling holds: R is left at its beginning, G is what was gone through at all times -/
def plS (s0 s : kS) (co op qu n : Nat) (N : Nat → Nat → Prop) (k : Nat) (R G : Nat → Prop) (t : Nat) (q : Nat → Nat) : Prop :=
  (∀ o j, o ≠ co → o ≠ op → o ≠ qu → s o j = s0 o j) ∧ (∀ i, i < t → s qu i = (q i : Int) ∧ q i < n ∧ R (q i) ∧ ¬ kcr n N k (q i)) ∧ (∀ i j, i < t → j < t → q i = q j → i = j) ∧
  (∀ v, v < n → ((R v ∧ ¬ ∃ i, i < t ∧ q i = v) → s co v = -1) ∧ ((∃ i, i < t ∧ q i = v) → s co v = (k : Int) - 1) ∧ (¬ R v → s co v = s0 co v ∧ 0 ≤ s0 co v)) ∧
  (∀ v, v < n → ¬ R v → G v)
section PC
variable {σ : kS} {n c ar : Nat} {li fs sn : Nat → Nat}
theorem sidesPeel_ok {N : Nat → Nat → Prop} {St Ne : Nat → Nat} {k : Nat} (hn3 : n ≤ 300) (h1n : σ 1 3 = (n : Int)) (hS : Sr σ 45 46 n St Ne) (hNr : nrP n N n St Ne) (hNs : ∀ u v, N u v → N v u) (hNi : ∀ u, ¬ N u u) (hk : k < 300)
    (hco : ∀ v, v < n → (kcr n N k v → σ 47 v = -1) ∧ (¬ kcr n N k v → 0 ≤ σ 47 v)) (hop : ∀ v, v < n → σ 49 v = (cntP (fun w => N v w ∧ kcr n N k w) n : Int)) :
    wpF F_Sides_peel [.inr (.inl 9), .inl ((k + 1 : Nat) : Int)] σ (fun r s => (∀ o j, o ≠ 47 → o ≠ 49 → o ≠ 50 → s o j = σ o j) ∧ (∀ v, v < n → (kcr n N (k + 1) v → s 47 v = -1) ∧ ((kcr n N k v ∧ ¬ kcr n N (k + 1) v) → s 47 v = (k : Int)) ∧ (¬ kcr n N k v → s 47 v = σ 47 v)) ∧
      (∀ v, v < n → s 49 v = (cntP (fun w => N v w ∧ kcr n N (k + 1) w) n : Int)) ∧ r = some (.inl (cntP (fun v => kcr n N k v ∧ ¬ kcr n N (k + 1) v) n : Int))) := by
  obtain ⟨R, hR⟩ : ∃ R : Nat → Prop, R = kcr n N k := ⟨_, rfl⟩
  obtain ⟨hSt, hNe, h18⟩ := hS
  have hz : ((k + 1 : Nat) : Int) - 1 = (k : Int) := by omega
  -- a node that has too few left
  have few : ∀ (G : Nat → Prop) v, v < n → (∀ w, G w → ¬ kcr n N (k + 1) w) → cntP (fun w => N v w ∧ ¬ G w) n < k + 1 → ¬ kcr n N (k + 1) v := by
    intro G v hv hG hlt hcr
    have h1 := (kcr_clo v hcr).2
    have h2 : cntP (fun w => N v w ∧ kcr n N (k + 1) w) n ≤ cntP (fun w => N v w ∧ ¬ G w) n := cntP_le (fun w _ q => ⟨q.1, fun g => hG w g q.2⟩)
    omega
  have nR : ∀ w, w < n → ¬ R w → ¬ kcr n N (k + 1) w := fun w _ h h2 => h (by rw [hR]; exact kcr_anti h2 (by omega))
  obtain ⟨G0, hG0⟩ : ∃ G0 : Nat → Prop, G0 = fun v => ¬ R v := ⟨_, rfl⟩
  have hG0k : ∀ w, G0 w → ¬ kcr n N (k + 1) w := fun w hw h2 => by rw [hG0] at hw; exact hw (by rw [hR]; exact kcr_anti h2 (by omega))
  have hop0 : ∀ v, v < n → σ 49 v = (cntP (fun w => N v w ∧ ¬ G0 w) n : Int) := by
    intro v hv
    rw [hop v hv, hG0, ← hR]
    have e : cntP (fun w => N v w ∧ R w) n = cntP (fun w => N v w ∧ ¬ ¬ R w) n := cntP_congr (fun w _ => ⟨fun q => ⟨q.1, fun h => h q.2⟩, fun q => ⟨q.1, Classical.byContradiction q.2⟩⟩)
    rw [e]
  have bl : ∀ t (q : Nat → Nat), (∀ i, i < t → q i < n) → (∀ i j, i < t → j < t → q i = q j → i = j) → t ≤ n := by
    intro t q a b
    have := (cntP_row (P := fun _ => True) (n := n) (q := q) (t := t) (fun i hi => ⟨a i hi, trivial⟩) b).1
    have := @cntP_bound (fun _ => True) n
    omega
  have bl2 : ∀ t (q : Nat → Nat) v, v < n → (∀ i, i < t → q i < n) → (∀ i j, i < t → j < t → q i = q j → i = j) → (¬ ∃ i, i < t ∧ q i = v) → t < n := by
    intro t q v hv a b hno
    have := bl (t + 1) (fun i => if i = t then v else q i) (fun i hi => by
      show (if i = t then v else q i) < n
      split
      · exact hv
      · exact a i (by omega)) (fun i j hi hj e => by
      replace e : (if i = t then v else q i) = (if j = t then v else q j) := e
      by_cases e1 : i = t <;> by_cases e2 : j = t
      · omega
      · rw [if_pos e1, if_neg e2] at e; exact absurd ⟨j, by omega, e.symm⟩ hno
      · rw [if_neg e1, if_pos e2] at e; exact absurd ⟨i, by omega, e⟩ hno
      · rw [if_neg e1, if_neg e2] at e; exact b i j (by omega) (by omega) e)
    omega
  -- a node more in the row
  have push : ∀ (s : kS) (t : Nat) (q : Nat → Nat) (v : Nat), plS σ s 47 49 50 n N (k + 1) R G0 t q → v < n → s 47 v = -1 → ¬ kcr n N (k + 1) v →
      (t < n ∧ (¬ ∃ i, i < t ∧ q i = v) ∧ R v) ∧ plS σ (kup (kup s 47 v (k : Int)) 50 t (v : Int)) 47 49 50 n N (k + 1) R G0 (t + 1) (fun i => if i = t then v else q i) := by
    rintro s t q v ⟨p1, p2, p3, p4, p5⟩ hv hcv hnk
    obtain ⟨q1, q2, q3⟩ := p4 v hv
    have hno : ¬ ∃ i, i < t ∧ q i = v := fun h => by have := q2 h; omega
    have hRv : R v := Classical.byContradiction fun h => by have := q3 h; omega
    refine ⟨⟨bl2 t q v hv (fun i hi => (p2 i hi).2.1) p3 hno, hno, hRv⟩, fun o j o1 o2 o3 => by rw [kup_ne o3, kup_ne o1]; exact p1 o j o1 o2 o3, fun i hi => ?_, fun i j hi hj e => ?_, fun w hw => ?_, p5⟩
    · rw [kup_eq]
      dsimp only
      by_cases e : i = t
      · rw [if_pos e, if_pos e]; exact ⟨rfl, hv, hRv, hnk⟩
      · rw [if_neg e, if_neg e, kup_ne (by decide)]; exact p2 i (by omega)
    · dsimp only at e
      by_cases e1 : i = t <;> by_cases e2 : j = t
      · omega
      · rw [if_pos e1, if_neg e2] at e; exact absurd ⟨j, by omega, e.symm⟩ hno
      · rw [if_neg e1, if_pos e2] at e; exact absurd ⟨i, by omega, e⟩ hno
      · rw [if_neg e1, if_neg e2] at e; exact p3 i j (by omega) (by omega) e
    · rw [kup_ne (by decide), kup_eq]
      obtain ⟨r1, r2, r3⟩ := p4 w hw
      have ex : (∃ i, i < t + 1 ∧ (if i = t then v else q i) = w) ↔ ((∃ i, i < t ∧ q i = w) ∨ w = v) := by
        constructor
        · rintro ⟨i, i1, i2⟩
          by_cases e : i = t
          · rw [if_pos e] at i2; exact Or.inr i2.symm
          · rw [if_neg e] at i2; exact Or.inl ⟨i, by omega, i2⟩
        · rintro (⟨i, i1, i2⟩ | e)
          · exact ⟨i, by omega, by rw [if_neg (by omega)]; exact i2⟩
          · exact ⟨t, by omega, by rw [if_pos rfl, e]⟩
      dsimp only
      rw [ex]
      by_cases e : w = v
      · rw [if_pos e]
        exact ⟨fun h => absurd (Or.inr e) h.2, fun _ => by omega, fun h => absurd (e ▸ hRv) h⟩
      · rw [if_neg e]
        exact ⟨fun h => r1 ⟨h.1, fun g => h.2 (Or.inl g)⟩, fun h => r2 (h.elim id (fun g => absurd g e)), r3⟩
  have start : plS σ σ 47 49 50 n N (k + 1) R G0 0 (fun _ => 0) := by
    refine ⟨fun _ _ _ _ _ => rfl, fun i hi => by omega, fun i j hi => by omega, fun v hv => ⟨fun h => (hco v hv).1 (hR ▸ h.1), fun ⟨i, h, _⟩ => by omega, fun h => ⟨rfl, (hco v hv).2 (by rw [← hR]; exact h)⟩⟩, fun v _ h => by rw [hG0]; exact h⟩
  unfold F_Sides_peel
  rw [wpF_kF]
  refine ⟨rfl, rfl, ?_⟩
  unfold s_Sides_peel
  simp only [List.map_cons, List.map_nil]
  refine wpS_seq' (fun Q101 hQ101 => ?_)
  simp only [wpS_skip, wpS_break, wpS_cont, wpS_retV, wpS_throw, wpS_seq, wpS_if, wpS_trunc, yS_let, yS_inc, kgK_i, kgK_r, kok_nil, kok_i0, kok_is, kok_r0, kok_rs, kok_n0, kok_ns, xS_put, xS_putOp, xS_ast0, xS_ast1, xS_astOp, wpS_E, wpS_call, wpS_callS, wpS_ret, kThen_N, kThen_B, kThen_C, kThen_R, kThen_T, kNext_N, kNext_C, kNext_B, kNext_R, wpE_K, wpE_KL, xE_I, xE_R, wpE_J, xE_bin, wpE_ladd, wpE_i2l, xE_get, xE_ald0, xE_ald1, wpE_if, xE_max, xE_min, wpE_len, wpA_nil, wpA_snoc, xE_call, xE_callS, xC_C, xC_L, xC_Z, wpC_and, wpC_or, wpC_not, wpC_if, kcmp_0, kcmp_1, kcmp_2, kcmp_3, kcmp_4, kcmp_5, rR_inj, kgO_some, kgO_add, kgO_sub, kgO_mul, kgO_div, kgO_rem, kgO_and, kvI_inl, kvJ_inl, kgI_0, kgI_s, kgR_0, kgR_s, kst_nil, kst_0, kst_s, kNLl_nil, kNLl_i, kNLl_r, kNLl_n, ktag_i, ktag_r, List.length_cons, List.length_nil, List.take_succ_cons, List.take_zero, List.take_nil, List.nil_append, List.cons_append, decide_eq_true_eq, Bool.not_eq_true, Bool.not_eq_true', decide_eq_false_iff_not, ne_eq, Decidable.not_not, true_and, and_true, Nat.reduceAdd, Nat.reduceLeDiff, Nat.reduceEqDiff, Nat.le_refl, not_true_eq_false, not_false_eq_true, reduceIte, eq_self, Int.reduceNeg, Int.reduceEq, Int.reduceLT, Int.reduceLE, Nat.zero_le, Nat.one_ne_zero]
  repeat refine And.intro (by omega) ?_
  rw [hQ101]
  clear hQ101 Q101
  refine kThen_N.mpr ?_
  refine wpS_seq' (fun Q1 hQ1 => ?_)
  unfold l_Sides_peel_1
  refine wpS_fort (fun i P s => ∃ (t : Nat) (q : Nat → Nat), P = [some (.inr (.inl 9)), some (.inl ((k + 1 : Nat) : Int)), some (.inl (t : Int))] ∧ plS σ s 47 49 50 n N (k + 1) R G0 t q ∧ (∀ v, s 49 v = σ 49 v) ∧ (∀ v, v < i → R v → (¬ ∃ j, j < t ∧ q j = v) → (k : Int) + 1 ≤ σ 49 v)) 0 n rfl rfl ?_ ?_ ?_ ?_ ?_ ?_ ?_
  · simp only [wpS_skip, wpS_break, wpS_cont, wpS_retV, wpS_throw, wpS_seq, wpS_if, wpS_trunc, yS_let, yS_inc, kgK_i, kgK_r, kok_nil, kok_i0, kok_is, kok_r0, kok_rs, kok_n0, kok_ns, xS_put, xS_putOp, xS_ast0, xS_ast1, xS_astOp, wpS_E, wpS_call, wpS_callS, wpS_ret, kThen_N, kThen_B, kThen_C, kThen_R, kThen_T, kNext_N, kNext_C, kNext_B, kNext_R, wpE_K, wpE_KL, xE_I, xE_R, wpE_J, xE_bin, wpE_ladd, wpE_i2l, xE_get, xE_ald0, xE_ald1, wpE_if, xE_max, xE_min, wpE_len, wpA_nil, wpA_snoc, xE_call, xE_callS, xC_C, xC_L, xC_Z, wpC_and, wpC_or, wpC_not, wpC_if, kcmp_0, kcmp_1, kcmp_2, kcmp_3, kcmp_4, kcmp_5, rR_inj, kgO_some, kgO_add, kgO_sub, kgO_mul, kgO_div, kgO_rem, kgO_and, kvI_inl, kvJ_inl, kgI_0, kgI_s, kgR_0, kgR_s, kst_nil, kst_0, kst_s, kNLl_nil, kNLl_i, kNLl_r, kNLl_n, ktag_i, ktag_r, List.length_cons, List.length_nil, List.take_succ_cons, List.take_zero, List.take_nil, List.nil_append, List.cons_append, decide_eq_true_eq, Bool.not_eq_true, Bool.not_eq_true', decide_eq_false_iff_not, ne_eq, Decidable.not_not, true_and, and_true, Nat.reduceAdd, Nat.reduceLeDiff, Nat.reduceEqDiff, Nat.le_refl, not_true_eq_false, not_false_eq_true, reduceIte, eq_self, Int.reduceNeg, Int.reduceEq, Int.reduceLT, Int.reduceLE, Nat.zero_le, Nat.one_ne_zero]; trivial
  · omega
  · exact ⟨0, fun _ => 0, rfl, start, fun _ => rfl, fun v hv => by omega⟩
  · rintro i P s ⟨t, q, rfl, -⟩; exact ⟨rfl, rfl⟩
  · rintro i P s - - ⟨t, q, rfl, ⟨p1, -⟩, -⟩
    simp only [wpS_skip, wpS_break, wpS_cont, wpS_retV, wpS_throw, wpS_seq, wpS_if, wpS_trunc, yS_let, yS_inc, kgK_i, kgK_r, kok_nil, kok_i0, kok_is, kok_r0, kok_rs, kok_n0, kok_ns, xS_put, xS_putOp, xS_ast0, xS_ast1, xS_astOp, wpS_E, wpS_call, wpS_callS, wpS_ret, kThen_N, kThen_B, kThen_C, kThen_R, kThen_T, kNext_N, kNext_C, kNext_B, kNext_R, wpE_K, wpE_KL, xE_I, xE_R, wpE_J, xE_bin, wpE_ladd, wpE_i2l, xE_get, xE_ald0, xE_ald1, wpE_if, xE_max, xE_min, wpE_len, wpA_nil, wpA_snoc, xE_call, xE_callS, xC_C, xC_L, xC_Z, wpC_and, wpC_or, wpC_not, wpC_if, kcmp_0, kcmp_1, kcmp_2, kcmp_3, kcmp_4, kcmp_5, rR_inj, kgO_some, kgO_add, kgO_sub, kgO_mul, kgO_div, kgO_rem, kgO_and, kvI_inl, kvJ_inl, kgI_0, kgI_s, kgR_0, kgR_s, kst_nil, kst_0, kst_s, kNLl_nil, kNLl_i, kNLl_r, kNLl_n, ktag_i, ktag_r, List.length_cons, List.length_nil, List.take_succ_cons, List.take_zero, List.take_nil, List.nil_append, List.cons_append, decide_eq_true_eq, Bool.not_eq_true, Bool.not_eq_true', decide_eq_false_iff_not, ne_eq, Decidable.not_not, true_and, and_true, Nat.reduceAdd, Nat.reduceLeDiff, Nat.reduceEqDiff, Nat.le_refl, not_true_eq_false, not_false_eq_true, reduceIte, eq_self, Int.reduceNeg, Int.reduceEq, Int.reduceLT, Int.reduceLE, Nat.zero_le, Nat.one_ne_zero, ev_sides, ev_web, show s 1 3 = (n : Int) by rw [p1 _ _ (by decide) (by decide) (by decide)]; exact h1n]
  · rintro i P s - hi ⟨t, q, rfl, hP, ho, hdn⟩
    refine wpS_gen (fun Q2 hQ2 => ?_)
    have eo := ho i
    have htn := bl t q (fun j hj => (hP.2.1 j hj).2.1) hP.2.2.1
    have skip : (s 47 i = -1 → (k : Int) + 1 ≤ σ 49 i) → Q2 rN [some (.inr (.inl 9)), some (.inl ((k + 1 : Nat) : Int)), some (.inl (t : Int)), some (.inl (i : Int))] s := by
      intro h
      rw [hQ2]
      refine kStep_N rfl ⟨t, q, rfl, hP, ho, fun v hv hRv hno => ?_⟩
      by_cases e : v = i
      · subst e; exact h ((hP.2.2.2.1 v hi).1 ⟨hRv, hno⟩)
      · exact hdn v (by omega) hRv hno
    by_cases hc : s 47 i = -1
    · by_cases hl : σ 49 i < ((k + 1 : Nat) : Int)
      · obtain ⟨⟨g1, g2, g3⟩, g4⟩ := push s t q i hP hi hc (few G0 i hi hG0k (by have := hop0 i hi; omega))
        simp only [wpS_skip, wpS_break, wpS_cont, wpS_retV, wpS_throw, wpS_seq, wpS_if, wpS_trunc, yS_let, yS_inc, kgK_i, kgK_r, kok_nil, kok_i0, kok_is, kok_r0, kok_rs, kok_n0, kok_ns, xS_put, xS_putOp, xS_ast0, xS_ast1, xS_astOp, wpS_E, wpS_call, wpS_callS, wpS_ret, kThen_N, kThen_B, kThen_C, kThen_R, kThen_T, kNext_N, kNext_C, kNext_B, kNext_R, wpE_K, wpE_KL, xE_I, xE_R, wpE_J, xE_bin, wpE_ladd, wpE_i2l, xE_get, xE_ald0, xE_ald1, wpE_if, xE_max, xE_min, wpE_len, wpA_nil, wpA_snoc, xE_call, xE_callS, xC_C, xC_L, xC_Z, wpC_and, wpC_or, wpC_not, wpC_if, kcmp_0, kcmp_1, kcmp_2, kcmp_3, kcmp_4, kcmp_5, rR_inj, kgO_some, kgO_add, kgO_sub, kgO_mul, kgO_div, kgO_rem, kgO_and, kvI_inl, kvJ_inl, kgI_0, kgI_s, kgR_0, kgR_s, kst_nil, kst_0, kst_s, kNLl_nil, kNLl_i, kNLl_r, kNLl_n, ktag_i, ktag_r, List.length_cons, List.length_nil, List.take_succ_cons, List.take_zero, List.take_nil, List.nil_append, List.cons_append, decide_eq_true_eq, Bool.not_eq_true, Bool.not_eq_true', decide_eq_false_iff_not, ne_eq, Decidable.not_not, true_and, and_true, Nat.reduceAdd, Nat.reduceLeDiff, Nat.reduceEqDiff, Nat.le_refl, not_true_eq_false, not_false_eq_true, reduceIte, eq_self, Int.reduceNeg, Int.reduceEq, Int.reduceLT, Int.reduceLE, Nat.zero_le, Nat.one_ne_zero, ev_sides, ev_sides_arr, Int.toNat_natCast, hc, eo, hl, hz, decide_true, decide_false, Bool.false_eq_true, if_true, if_false, true_and, and_true, not_true_eq_false, not_false_eq_true]
        repeat refine And.intro (by omega) ?_
        rw [hQ2]
        refine kStep_N (P := [some (.inr (.inl 9)), some (.inl ((k + 1 : Nat) : Int)), some (.inl ((t : Int) + 1))]) rfl ⟨t + 1, fun i' => if i' = t then i else q i', rfl, g4, fun v => by rw [kup_ne (by decide), kup_ne (by decide)]; exact ho v, fun v hv hRv hno => ?_⟩
        by_cases e : v = i
        · exact absurd ⟨t, by omega, by simp [e]⟩ hno
        · exact hdn v (by omega) hRv (fun ⟨j, j1, j2⟩ => hno ⟨j, by omega, by simp [show ¬ j = t by omega, j2]⟩)
      · simp only [wpS_skip, wpS_break, wpS_cont, wpS_retV, wpS_throw, wpS_seq, wpS_if, wpS_trunc, yS_let, yS_inc, kgK_i, kgK_r, kok_nil, kok_i0, kok_is, kok_r0, kok_rs, kok_n0, kok_ns, xS_put, xS_putOp, xS_ast0, xS_ast1, xS_astOp, wpS_E, wpS_call, wpS_callS, wpS_ret, kThen_N, kThen_B, kThen_C, kThen_R, kThen_T, kNext_N, kNext_C, kNext_B, kNext_R, wpE_K, wpE_KL, xE_I, xE_R, wpE_J, xE_bin, wpE_ladd, wpE_i2l, xE_get, xE_ald0, xE_ald1, wpE_if, xE_max, xE_min, wpE_len, wpA_nil, wpA_snoc, xE_call, xE_callS, xC_C, xC_L, xC_Z, wpC_and, wpC_or, wpC_not, wpC_if, kcmp_0, kcmp_1, kcmp_2, kcmp_3, kcmp_4, kcmp_5, rR_inj, kgO_some, kgO_add, kgO_sub, kgO_mul, kgO_div, kgO_rem, kgO_and, kvI_inl, kvJ_inl, kgI_0, kgI_s, kgR_0, kgR_s, kst_nil, kst_0, kst_s, kNLl_nil, kNLl_i, kNLl_r, kNLl_n, ktag_i, ktag_r, List.length_cons, List.length_nil, List.take_succ_cons, List.take_zero, List.take_nil, List.nil_append, List.cons_append, decide_eq_true_eq, Bool.not_eq_true, Bool.not_eq_true', decide_eq_false_iff_not, ne_eq, Decidable.not_not, true_and, and_true, Nat.reduceAdd, Nat.reduceLeDiff, Nat.reduceEqDiff, Nat.le_refl, not_true_eq_false, not_false_eq_true, reduceIte, eq_self, Int.reduceNeg, Int.reduceEq, Int.reduceLT, Int.reduceLE, Nat.zero_le, Nat.one_ne_zero, ev_sides, ev_sides_arr, Int.toNat_natCast, hc, eo, hl, decide_true, decide_false, Bool.false_eq_true, if_true, if_false, true_and, and_true, not_true_eq_false, not_false_eq_true]
        repeat refine And.intro (by omega) ?_
        exact skip (fun _ => by omega)
    · simp only [wpS_skip, wpS_break, wpS_cont, wpS_retV, wpS_throw, wpS_seq, wpS_if, wpS_trunc, yS_let, yS_inc, kgK_i, kgK_r, kok_nil, kok_i0, kok_is, kok_r0, kok_rs, kok_n0, kok_ns, xS_put, xS_putOp, xS_ast0, xS_ast1, xS_astOp, wpS_E, wpS_call, wpS_callS, wpS_ret, kThen_N, kThen_B, kThen_C, kThen_R, kThen_T, kNext_N, kNext_C, kNext_B, kNext_R, wpE_K, wpE_KL, xE_I, xE_R, wpE_J, xE_bin, wpE_ladd, wpE_i2l, xE_get, xE_ald0, xE_ald1, wpE_if, xE_max, xE_min, wpE_len, wpA_nil, wpA_snoc, xE_call, xE_callS, xC_C, xC_L, xC_Z, wpC_and, wpC_or, wpC_not, wpC_if, kcmp_0, kcmp_1, kcmp_2, kcmp_3, kcmp_4, kcmp_5, rR_inj, kgO_some, kgO_add, kgO_sub, kgO_mul, kgO_div, kgO_rem, kgO_and, kvI_inl, kvJ_inl, kgI_0, kgI_s, kgR_0, kgR_s, kst_nil, kst_0, kst_s, kNLl_nil, kNLl_i, kNLl_r, kNLl_n, ktag_i, ktag_r, List.length_cons, List.length_nil, List.take_succ_cons, List.take_zero, List.take_nil, List.nil_append, List.cons_append, decide_eq_true_eq, Bool.not_eq_true, Bool.not_eq_true', decide_eq_false_iff_not, ne_eq, Decidable.not_not, true_and, and_true, Nat.reduceAdd, Nat.reduceLeDiff, Nat.reduceEqDiff, Nat.le_refl, not_true_eq_false, not_false_eq_true, reduceIte, eq_self, Int.reduceNeg, Int.reduceEq, Int.reduceLT, Int.reduceLE, Nat.zero_le, Nat.one_ne_zero, ev_sides, ev_sides_arr, Int.toNat_natCast, hc, decide_true, decide_false, Bool.false_eq_true, if_true, if_false, true_and, and_true, not_true_eq_false, not_false_eq_true]
      repeat refine And.intro (by omega) ?_
      exact skip (fun h => absurd h hc)
  · rintro P s ⟨t, q, rfl, hP, ho, hdn⟩
    rw [hQ1]
    refine kThen_N.mpr ?_
    refine wpS_seq' (fun Q2 hQ2 => ?_)
    unfold l_Sides_peel_3
    refine wpS_fortG (fun h P s => ∃ (t : Nat) (q : Nat → Nat), P = [some (.inr (.inl 9)), some (.inl ((k + 1 : Nat) : Int)), some (.inl (t : Int))] ∧ h ≤ t ∧ plS σ s 47 49 50 n N (k + 1) R G0 t q ∧
      (∀ v, v < n → s 49 v = (cntP (fun w => N v w ∧ ¬ (G0 w ∨ ∃ i, i < h ∧ q i = w)) n : Int)) ∧ (∀ v, v < n → R v → (¬ ∃ j, j < t ∧ q j = v) → (k : Int) + 1 ≤ s 49 v)) (fun m => (m : Int)) n rfl rfl ?_ ?_ ?_ ?_
    · simp only [wpS_skip, wpS_break, wpS_cont, wpS_retV, wpS_throw, wpS_seq, wpS_if, wpS_trunc, yS_let, yS_inc, kgK_i, kgK_r, kok_nil, kok_i0, kok_is, kok_r0, kok_rs, kok_n0, kok_ns, xS_put, xS_putOp, xS_ast0, xS_ast1, xS_astOp, wpS_E, wpS_call, wpS_callS, wpS_ret, kThen_N, kThen_B, kThen_C, kThen_R, kThen_T, kNext_N, kNext_C, kNext_B, kNext_R, wpE_K, wpE_KL, xE_I, xE_R, wpE_J, xE_bin, wpE_ladd, wpE_i2l, xE_get, xE_ald0, xE_ald1, wpE_if, xE_max, xE_min, wpE_len, wpA_nil, wpA_snoc, xE_call, xE_callS, xC_C, xC_L, xC_Z, wpC_and, wpC_or, wpC_not, wpC_if, kcmp_0, kcmp_1, kcmp_2, kcmp_3, kcmp_4, kcmp_5, rR_inj, kgO_some, kgO_add, kgO_sub, kgO_mul, kgO_div, kgO_rem, kgO_and, kvI_inl, kvJ_inl, kgI_0, kgI_s, kgR_0, kgR_s, kst_nil, kst_0, kst_s, kNLl_nil, kNLl_i, kNLl_r, kNLl_n, ktag_i, ktag_r, List.length_cons, List.length_nil, List.take_succ_cons, List.take_zero, List.take_nil, List.nil_append, List.cons_append, decide_eq_true_eq, Bool.not_eq_true, Bool.not_eq_true', decide_eq_false_iff_not, ne_eq, Decidable.not_not, true_and, and_true, Nat.reduceAdd, Nat.reduceLeDiff, Nat.reduceEqDiff, Nat.le_refl, not_true_eq_false, not_false_eq_true, reduceIte, eq_self, Int.reduceNeg, Int.reduceEq, Int.reduceLT, Int.reduceLE, Nat.zero_le, Nat.one_ne_zero]; trivial
    · refine ⟨t, q, rfl, Nat.zero_le _, hP, fun v hv => ?_, fun v hv hRv hno => by rw [ho]; exact hdn v hv hRv hno⟩
      have e : cntP (fun w => N v w ∧ ¬ G0 w) n = cntP (fun w => N v w ∧ ¬ (G0 w ∨ ∃ i, i < 0 ∧ q i = w)) n := cntP_congr (fun w _ => ⟨fun q => ⟨q.1, fun h => h.elim q.2 (fun ⟨i, h, _⟩ => by omega)⟩, fun q => ⟨q.1, fun h => q.2 (Or.inl h)⟩⟩)
      rw [ho, hop0 v hv, e]
    · rintro h P s ⟨t, q, rfl, -⟩; exact ⟨rfl, rfl⟩
    · clear hP ho hdn t q s
      rintro h P s hh ⟨t, q, rfl, hht, hP, hO, hdn⟩
      have htn := bl t q (fun j hj => (hP.2.1 j hj).2.1) hP.2.2.1
      rcases Nat.lt_or_ge h t with hlt | hlt
      · have c1 : (h : Int) < 300 := by omega
        have c2 : (h : Int) < (t : Int) := by omega
        refine wpC_gen (fun Q3 hQ3 => ?_)
        simp only [wpS_skip, wpS_break, wpS_cont, wpS_retV, wpS_throw, wpS_seq, wpS_if, wpS_trunc, yS_let, yS_inc, kgK_i, kgK_r, kok_nil, kok_i0, kok_is, kok_r0, kok_rs, kok_n0, kok_ns, xS_put, xS_putOp, xS_ast0, xS_ast1, xS_astOp, wpS_E, wpS_call, wpS_callS, wpS_ret, kThen_N, kThen_B, kThen_C, kThen_R, kThen_T, kNext_N, kNext_C, kNext_B, kNext_R, wpE_K, wpE_KL, xE_I, xE_R, wpE_J, xE_bin, wpE_ladd, wpE_i2l, xE_get, xE_ald0, xE_ald1, wpE_if, xE_max, xE_min, wpE_len, wpA_nil, wpA_snoc, xE_call, xE_callS, xC_C, xC_L, xC_Z, wpC_and, wpC_or, wpC_not, wpC_if, kcmp_0, kcmp_1, kcmp_2, kcmp_3, kcmp_4, kcmp_5, rR_inj, kgO_some, kgO_add, kgO_sub, kgO_mul, kgO_div, kgO_rem, kgO_and, kvI_inl, kvJ_inl, kgI_0, kgI_s, kgR_0, kgR_s, kst_nil, kst_0, kst_s, kNLl_nil, kNLl_i, kNLl_r, kNLl_n, ktag_i, ktag_r, List.length_cons, List.length_nil, List.take_succ_cons, List.take_zero, List.take_nil, List.nil_append, List.cons_append, decide_eq_true_eq, Bool.not_eq_true, Bool.not_eq_true', decide_eq_false_iff_not, ne_eq, Decidable.not_not, true_and, and_true, Nat.reduceAdd, Nat.reduceLeDiff, Nat.reduceEqDiff, Nat.le_refl, not_true_eq_false, not_false_eq_true, reduceIte, eq_self, Int.reduceNeg, Int.reduceEq, Int.reduceLT, Int.reduceLE, Nat.zero_le, Nat.one_ne_zero, c1, c2, decide_true, decide_false, Bool.false_eq_true, if_true, if_false, true_and, and_true, not_true_eq_false, not_false_eq_true]
        rw [hQ3]
        refine ⟨rfl, Or.inl ⟨rfl, by omega, by simp, by omega, by omega, ?_⟩⟩
        obtain ⟨e50, hqn, hqR, hqk⟩ := hP.2.1 h hlt
        obtain ⟨b, hb⟩ : ∃ b, b = q h := ⟨_, rfl⟩
        rw [← hb] at e50 hqn hqR hqk
        have hdeg := hNr.deg hqn
        have hle := hNr.mono (show b + 1 ≤ n from hqn) (Nat.le_refl n)
        have t1 : ((b : Int) + 1).toNat = b + 1 := by omega
        rw [wpS_trunc]
        refine wpS_seq' (fun Q102 hQ102 => ?_)
        simp only [wpS_skip, wpS_break, wpS_cont, wpS_retV, wpS_throw, wpS_seq, wpS_if, wpS_trunc, yS_let, yS_inc, kgK_i, kgK_r, kok_nil, kok_i0, kok_is, kok_r0, kok_rs, kok_n0, kok_ns, xS_put, xS_putOp, xS_ast0, xS_ast1, xS_astOp, wpS_E, wpS_call, wpS_callS, wpS_ret, kThen_N, kThen_B, kThen_C, kThen_R, kThen_T, kNext_N, kNext_C, kNext_B, kNext_R, wpE_K, wpE_KL, xE_I, xE_R, wpE_J, xE_bin, wpE_ladd, wpE_i2l, xE_get, xE_ald0, xE_ald1, wpE_if, xE_max, xE_min, wpE_len, wpA_nil, wpA_snoc, xE_call, xE_callS, xC_C, xC_L, xC_Z, wpC_and, wpC_or, wpC_not, wpC_if, kcmp_0, kcmp_1, kcmp_2, kcmp_3, kcmp_4, kcmp_5, rR_inj, kgO_some, kgO_add, kgO_sub, kgO_mul, kgO_div, kgO_rem, kgO_and, kvI_inl, kvJ_inl, kgI_0, kgI_s, kgR_0, kgR_s, kst_nil, kst_0, kst_s, kNLl_nil, kNLl_i, kNLl_r, kNLl_n, ktag_i, ktag_r, List.length_cons, List.length_nil, List.take_succ_cons, List.take_zero, List.take_nil, List.nil_append, List.cons_append, decide_eq_true_eq, Bool.not_eq_true, Bool.not_eq_true', decide_eq_false_iff_not, ne_eq, Decidable.not_not, true_and, and_true, Nat.reduceAdd, Nat.reduceLeDiff, Nat.reduceEqDiff, Nat.le_refl, not_true_eq_false, not_false_eq_true, reduceIte, eq_self, Int.reduceNeg, Int.reduceEq, Int.reduceLT, Int.reduceLE, Nat.zero_le, Nat.one_ne_zero, ev_sides, ev_sides_arr, Int.toNat_natCast, e50]
        repeat refine And.intro (by omega) ?_
        rw [hQ102]
        clear hQ102 Q102
        refine kThen_N.mpr ?_
        refine wpS_gen (fun Q4 hQ4 => ?_)
        unfold l_Sides_peel_2
        -- gone through: G, with b
        obtain ⟨G, hG⟩ : ∃ G : Nat → Prop, G = fun w => G0 w ∨ ∃ i, i < h ∧ q i = w := ⟨_, rfl⟩
        have hGb : ¬ G b := by
          rw [hG, hG0]
          rintro (w | ⟨i, i1, i2⟩)
          · exact w hqR
          · have := hP.2.2.1 i h (by omega) hlt (by rw [i2, hb]); omega
        have hGk : ∀ w, G w → ¬ kcr n N (k + 1) w := by
          rw [hG]
          rintro w (w1 | ⟨i, i1, rfl⟩)
          · exact hG0k w w1
          · exact (hP.2.1 i (by omega)).2.2.2
        have hO' : ∀ v, v < n → s 49 v = (cntP (fun w => N v w ∧ ¬ G w) n : Int) := by rw [hG]; exact hO
        have dr : ∀ v, cntP (fun w => N v w ∧ ¬ G w) n = cntP (fun w => N v w ∧ ¬ (G w ∨ w = b)) n + @ite _ (N v b) (Classical.propDecidable _) 1 0 := by
          intro v
          rw [cntP_drop hqn (P := fun w => N v w ∧ ¬ G w)]
          have e1 : cntP (fun w => (N v w ∧ ¬ G w) ∧ w ≠ b) n = cntP (fun w => N v w ∧ ¬ (G w ∨ w = b)) n := cntP_congr (fun w _ => ⟨fun q => ⟨q.1.1, fun h => h.elim q.1.2 q.2⟩, fun q => ⟨⟨q.1, fun h => q.2 (Or.inl h)⟩, fun h => q.2 (Or.inr h)⟩⟩)
          rw [e1]
          by_cases hx : N v b
          · rw [if_pos hx, if_pos ⟨hx, hGb⟩]
          · rw [if_neg hx, if_neg (fun q => hx q.1)]
        obtain ⟨lo2, hlo2⟩ : ∃ lo2 : Nat → Nat, lo2 = fun v => cntP (fun w => N v w ∧ ¬ (G w ∨ w = b)) n := ⟨_, rfl⟩
        have lob : ∀ v, lo2 v ≤ n := fun v => by rw [hlo2]; exact cntP_bound
        have drN : ∀ v, v < n → N v b → s 49 v = (lo2 v : Int) + 1 := by
          intro v hv hx; rw [hO' v hv, dr v, if_pos hx, hlo2]; rfl
        have drn : ∀ v, v < n → ¬ N v b → s 49 v = (lo2 v : Int) := by
          intro v hv hx; rw [hO' v hv, dr v, if_neg hx, hlo2]; rfl
        have G2k : ∀ w, (G w ∨ w = b) → ¬ kcr n N (k + 1) w := fun w hw => hw.elim (hGk w) (fun e => e ▸ hqk)
        refine wpS_fort (fun i P s1 => ∃ (t : Nat) (q2 : Nat → Nat), P = [some (.inr (.inl 9)), some (.inl ((k + 1 : Nat) : Int)), some (.inl (t : Int)), some (.inl (h : Int)), some (.inl (b : Int))] ∧ h < t ∧ (∀ j, j ≤ h → q2 j = q j) ∧ plS σ s1 47 49 50 n N (k + 1) R G0 t q2 ∧
          (∀ v, v < n → ((∃ j, St b ≤ j ∧ j < i ∧ Ne j = v) → s1 49 v = (lo2 v : Int)) ∧ ((¬ ∃ j, St b ≤ j ∧ j < i ∧ Ne j = v) → s1 49 v = s 49 v)) ∧ (∀ v, v < n → R v → (¬ ∃ j, j < t ∧ q2 j = v) → (k : Int) + 1 ≤ s1 49 v)) (St b) (St (b + 1)) rfl rfl ?_ ?_ ?_ ?_ ?_ ?_ ?_
        · have e45 : s 45 b = St b := by rw [hP.1 _ _ (by decide) (by decide) (by decide)]; exact hSt b (by omega)
          simp only [wpS_skip, wpS_break, wpS_cont, wpS_retV, wpS_throw, wpS_seq, wpS_if, wpS_trunc, yS_let, yS_inc, kgK_i, kgK_r, kok_nil, kok_i0, kok_is, kok_r0, kok_rs, kok_n0, kok_ns, xS_put, xS_putOp, xS_ast0, xS_ast1, xS_astOp, wpS_E, wpS_call, wpS_callS, wpS_ret, kThen_N, kThen_B, kThen_C, kThen_R, kThen_T, kNext_N, kNext_C, kNext_B, kNext_R, wpE_K, wpE_KL, xE_I, xE_R, wpE_J, xE_bin, wpE_ladd, wpE_i2l, xE_get, xE_ald0, xE_ald1, wpE_if, xE_max, xE_min, wpE_len, wpA_nil, wpA_snoc, xE_call, xE_callS, xC_C, xC_L, xC_Z, wpC_and, wpC_or, wpC_not, wpC_if, kcmp_0, kcmp_1, kcmp_2, kcmp_3, kcmp_4, kcmp_5, rR_inj, kgO_some, kgO_add, kgO_sub, kgO_mul, kgO_div, kgO_rem, kgO_and, kvI_inl, kvJ_inl, kgI_0, kgI_s, kgR_0, kgR_s, kst_nil, kst_0, kst_s, kNLl_nil, kNLl_i, kNLl_r, kNLl_n, ktag_i, ktag_r, List.length_cons, List.length_nil, List.take_succ_cons, List.take_zero, List.take_nil, List.nil_append, List.cons_append, decide_eq_true_eq, Bool.not_eq_true, Bool.not_eq_true', decide_eq_false_iff_not, ne_eq, Decidable.not_not, true_and, and_true, Nat.reduceAdd, Nat.reduceLeDiff, Nat.reduceEqDiff, Nat.le_refl, not_true_eq_false, not_false_eq_true, reduceIte, eq_self, Int.reduceNeg, Int.reduceEq, Int.reduceLT, Int.reduceLE, Nat.zero_le, Nat.one_ne_zero, ev_sides, ev_sides_arr, Int.toNat_natCast, e45]
          omega
        · omega
        · exact ⟨t, q, rfl, hlt, fun _ _ => rfl, hP, fun v hv => ⟨fun ⟨j, h1, h2, _⟩ => by omega, fun _ => rfl⟩, hdn⟩
        · rintro i P s1 ⟨t, q2, rfl, -⟩; exact ⟨rfl, rfl⟩
        · rintro i P s1 - - ⟨t, q2, rfl, -, -, hP1, -⟩
          have e45 : s1 45 (b + 1) = St (b + 1) := by rw [hP1.1 _ _ (by decide) (by decide) (by decide)]; exact hSt (b + 1) (by omega)
          simp only [wpS_skip, wpS_break, wpS_cont, wpS_retV, wpS_throw, wpS_seq, wpS_if, wpS_trunc, yS_let, yS_inc, kgK_i, kgK_r, kok_nil, kok_i0, kok_is, kok_r0, kok_rs, kok_n0, kok_ns, xS_put, xS_putOp, xS_ast0, xS_ast1, xS_astOp, wpS_E, wpS_call, wpS_callS, wpS_ret, kThen_N, kThen_B, kThen_C, kThen_R, kThen_T, kNext_N, kNext_C, kNext_B, kNext_R, wpE_K, wpE_KL, xE_I, xE_R, wpE_J, xE_bin, wpE_ladd, wpE_i2l, xE_get, xE_ald0, xE_ald1, wpE_if, xE_max, xE_min, wpE_len, wpA_nil, wpA_snoc, xE_call, xE_callS, xC_C, xC_L, xC_Z, wpC_and, wpC_or, wpC_not, wpC_if, kcmp_0, kcmp_1, kcmp_2, kcmp_3, kcmp_4, kcmp_5, rR_inj, kgO_some, kgO_add, kgO_sub, kgO_mul, kgO_div, kgO_rem, kgO_and, kvI_inl, kvJ_inl, kgI_0, kgI_s, kgR_0, kgR_s, kst_nil, kst_0, kst_s, kNLl_nil, kNLl_i, kNLl_r, kNLl_n, ktag_i, ktag_r, List.length_cons, List.length_nil, List.take_succ_cons, List.take_zero, List.take_nil, List.nil_append, List.cons_append, decide_eq_true_eq, Bool.not_eq_true, Bool.not_eq_true', decide_eq_false_iff_not, ne_eq, Decidable.not_not, true_and, and_true, Nat.reduceAdd, Nat.reduceLeDiff, Nat.reduceEqDiff, Nat.le_refl, not_true_eq_false, not_false_eq_true, reduceIte, eq_self, Int.reduceNeg, Int.reduceEq, Int.reduceLT, Int.reduceLE, Nat.zero_le, Nat.one_ne_zero, ev_sides, ev_sides_arr, Int.toNat_natCast, t1, e45]
          omega
        · clear hP hO hdn htn hlt c2
          rintro i P s1 hi0 hi1 ⟨t, q2, rfl, hlt, hqq, hP1, hO1, hdn1⟩
          obtain ⟨u, hu⟩ : ∃ u, u = Ne i := ⟨_, rfl⟩
          obtain ⟨hNu, hun⟩ := hNr.2.2.1 b i hqn hi0 hi1
          rw [← hu] at hNu hun
          have e46 : s1 46 i = u := by rw [hP1.1 _ _ (by decide) (by decide) (by decide), hNe i (by omega), hu]
          have hNub : N u b := hNs _ _ hNu
          have hfresh : ¬ ∃ j, St b ≤ j ∧ j < i ∧ Ne j = u := fun ⟨j, j1, j2, j3⟩ => hNr.2.2.2.1 b j i hqn j1 j2 hi1 (by rw [j3, hu])
          have e49 : s1 49 u = (lo2 u : Int) + 1 := by rw [(hO1 u hun).2 hfresh]; exact drN u hun hNub
          have lu := lob u
          have htn := bl t q2 (fun j hj => (hP1.2.1 j hj).2.1) hP1.2.2.1
          rw [wpS_trunc]
          refine wpS_seq' (fun Q103 hQ103 => ?_)
          simp only [wpS_skip, wpS_break, wpS_cont, wpS_retV, wpS_throw, wpS_seq, wpS_if, wpS_trunc, yS_let, yS_inc, kgK_i, kgK_r, kok_nil, kok_i0, kok_is, kok_r0, kok_rs, kok_n0, kok_ns, xS_put, xS_putOp, xS_ast0, xS_ast1, xS_astOp, wpS_E, wpS_call, wpS_callS, wpS_ret, kThen_N, kThen_B, kThen_C, kThen_R, kThen_T, kNext_N, kNext_C, kNext_B, kNext_R, wpE_K, wpE_KL, xE_I, xE_R, wpE_J, xE_bin, wpE_ladd, wpE_i2l, xE_get, xE_ald0, xE_ald1, wpE_if, xE_max, xE_min, wpE_len, wpA_nil, wpA_snoc, xE_call, xE_callS, xC_C, xC_L, xC_Z, wpC_and, wpC_or, wpC_not, wpC_if, kcmp_0, kcmp_1, kcmp_2, kcmp_3, kcmp_4, kcmp_5, rR_inj, kgO_some, kgO_add, kgO_sub, kgO_mul, kgO_div, kgO_rem, kgO_and, kvI_inl, kvJ_inl, kgI_0, kgI_s, kgR_0, kgR_s, kst_nil, kst_0, kst_s, kNLl_nil, kNLl_i, kNLl_r, kNLl_n, ktag_i, ktag_r, List.length_cons, List.length_nil, List.take_succ_cons, List.take_zero, List.take_nil, List.nil_append, List.cons_append, decide_eq_true_eq, Bool.not_eq_true, Bool.not_eq_true', decide_eq_false_iff_not, ne_eq, Decidable.not_not, true_and, and_true, Nat.reduceAdd, Nat.reduceLeDiff, Nat.reduceEqDiff, Nat.le_refl, not_true_eq_false, not_false_eq_true, reduceIte, eq_self, Int.reduceNeg, Int.reduceEq, Int.reduceLT, Int.reduceLE, Nat.zero_le, Nat.one_ne_zero, ev_sides, ev_sides_arr, Int.toNat_natCast, e46]
          repeat refine And.intro (by omega) ?_
          rw [hQ103]
          clear hQ103 Q103
          refine kThen_N.mpr ?_
          have ez : (lo2 u : Int) + 1 - 1 = (lo2 u : Int) := by omega
          refine wpS_seq' (fun Q104 hQ104 => ?_)
          simp only [wpS_skip, wpS_break, wpS_cont, wpS_retV, wpS_throw, wpS_seq, wpS_if, wpS_trunc, yS_let, yS_inc, kgK_i, kgK_r, kok_nil, kok_i0, kok_is, kok_r0, kok_rs, kok_n0, kok_ns, xS_put, xS_putOp, xS_ast0, xS_ast1, xS_astOp, wpS_E, wpS_call, wpS_callS, wpS_ret, kThen_N, kThen_B, kThen_C, kThen_R, kThen_T, kNext_N, kNext_C, kNext_B, kNext_R, wpE_K, wpE_KL, xE_I, xE_R, wpE_J, xE_bin, wpE_ladd, wpE_i2l, xE_get, xE_ald0, xE_ald1, wpE_if, xE_max, xE_min, wpE_len, wpA_nil, wpA_snoc, xE_call, xE_callS, xC_C, xC_L, xC_Z, wpC_and, wpC_or, wpC_not, wpC_if, kcmp_0, kcmp_1, kcmp_2, kcmp_3, kcmp_4, kcmp_5, rR_inj, kgO_some, kgO_add, kgO_sub, kgO_mul, kgO_div, kgO_rem, kgO_and, kvI_inl, kvJ_inl, kgI_0, kgI_s, kgR_0, kgR_s, kst_nil, kst_0, kst_s, kNLl_nil, kNLl_i, kNLl_r, kNLl_n, ktag_i, ktag_r, List.length_cons, List.length_nil, List.take_succ_cons, List.take_zero, List.take_nil, List.nil_append, List.cons_append, decide_eq_true_eq, Bool.not_eq_true, Bool.not_eq_true', decide_eq_false_iff_not, ne_eq, Decidable.not_not, true_and, and_true, Nat.reduceAdd, Nat.reduceLeDiff, Nat.reduceEqDiff, Nat.le_refl, not_true_eq_false, not_false_eq_true, reduceIte, eq_self, Int.reduceNeg, Int.reduceEq, Int.reduceLT, Int.reduceLE, Nat.zero_le, Nat.one_ne_zero, ev_sides, ev_sides_arr, Int.toNat_natCast, e49, ez]
          repeat refine And.intro (by omega) ?_
          rw [hQ104]
          clear hQ104 Q104
          refine kThen_N.mpr ?_
          obtain ⟨s2, hs2⟩ : ∃ s2, s2 = kup s1 49 u (lo2 u : Int) := ⟨_, rfl⟩
          rw [← hs2]
          have m1 : ∀ o j, o ≠ 49 → s2 o j = s1 o j := by intro o j ho; rw [hs2, kup_ne ho]
          have m2 : ∀ w, s2 49 w = if w = u then (lo2 u : Int) else s1 49 w := by intro w; rw [hs2, kup_eq]
          have hP2 : plS σ s2 47 49 50 n N (k + 1) R G0 t q2 := by
            obtain ⟨p1, p2, p3, p4, p5⟩ := hP1
            exact ⟨fun o j o1 o2 o3 => by rw [m1 o j o2]; exact p1 o j o1 o2 o3, fun i hi => by rw [m1 _ _ (by decide)]; exact p2 i hi, p3, fun v hv => by rw [m1 _ _ (by decide)]; exact p4 v hv, p5⟩
          have hO2 : ∀ v, v < n → ((∃ j, St b ≤ j ∧ j < i + 1 ∧ Ne j = v) → s2 49 v = (lo2 v : Int)) ∧ ((¬ ∃ j, St b ≤ j ∧ j < i + 1 ∧ Ne j = v) → s2 49 v = s 49 v) := by
            intro v hv
            rw [m2]
            by_cases e : v = u
            · rw [if_pos e]
              exact ⟨fun _ => by rw [e], fun hn => absurd ⟨i, hi0, by omega, by rw [e, hu]⟩ hn⟩
            · rw [if_neg e]
              refine ⟨fun ⟨j, j1, j2, j3⟩ => (hO1 v hv).1 ⟨j, j1, ?_, j3⟩, fun hn => (hO1 v hv).2 (fun ⟨j, j1, j2, j3⟩ => hn ⟨j, j1, by omega, j3⟩)⟩
              rcases Nat.lt_trichotomy j i with w | w | w
              · exact w
              · exact absurd (by rw [← j3, w, hu]) e
              · omega
          have e47 : s2 47 u = s1 47 u := m1 _ _ (by decide)
          have e49' : s2 49 u = lo2 u := by rw [m2, if_pos rfl]
          refine wpS_gen (fun Q5 hQ5 => ?_)
          have skip : (s1 47 u = -1 → k + 1 ≤ lo2 u) → Q5 rN [some (.inr (.inl 9)), some (.inl ((k + 1 : Nat) : Int)), some (.inl (t : Int)), some (.inl (h : Int)), some (.inl (b : Int)), some (.inl (i : Int)), some (.inl (u : Int))] s2 := by
            intro hsk
            rw [hQ5]
            refine kStep_N rfl ⟨t, q2, rfl, hlt, hqq, hP2, hO2, fun v hv hRv hno => ?_⟩
            rw [m2]
            by_cases e : v = u
            · rw [if_pos e]
              have := hsk (by rw [← e]; exact (hP1.2.2.2.1 v hv).1 ⟨hRv, hno⟩)
              omega
            · rw [if_neg e]; exact hdn1 v hv hRv hno
          by_cases hc : s1 47 u = -1
          · by_cases hl : (lo2 u : Int) < ((k + 1 : Nat) : Int)
            · have hfew : ¬ kcr n N (k + 1) u := few (fun w => G w ∨ w = b) u hun G2k (by rw [hlo2] at hl; dsimp only at hl; omega)
              obtain ⟨⟨g1, g2, g3⟩, g4⟩ := push s2 t q2 u hP2 hun (by rw [e47]; exact hc) hfew
              simp only [wpS_skip, wpS_break, wpS_cont, wpS_retV, wpS_throw, wpS_seq, wpS_if, wpS_trunc, yS_let, yS_inc, kgK_i, kgK_r, kok_nil, kok_i0, kok_is, kok_r0, kok_rs, kok_n0, kok_ns, xS_put, xS_putOp, xS_ast0, xS_ast1, xS_astOp, wpS_E, wpS_call, wpS_callS, wpS_ret, kThen_N, kThen_B, kThen_C, kThen_R, kThen_T, kNext_N, kNext_C, kNext_B, kNext_R, wpE_K, wpE_KL, xE_I, xE_R, wpE_J, xE_bin, wpE_ladd, wpE_i2l, xE_get, xE_ald0, xE_ald1, wpE_if, xE_max, xE_min, wpE_len, wpA_nil, wpA_snoc, xE_call, xE_callS, xC_C, xC_L, xC_Z, wpC_and, wpC_or, wpC_not, wpC_if, kcmp_0, kcmp_1, kcmp_2, kcmp_3, kcmp_4, kcmp_5, rR_inj, kgO_some, kgO_add, kgO_sub, kgO_mul, kgO_div, kgO_rem, kgO_and, kvI_inl, kvJ_inl, kgI_0, kgI_s, kgR_0, kgR_s, kst_nil, kst_0, kst_s, kNLl_nil, kNLl_i, kNLl_r, kNLl_n, ktag_i, ktag_r, List.length_cons, List.length_nil, List.take_succ_cons, List.take_zero, List.take_nil, List.nil_append, List.cons_append, decide_eq_true_eq, Bool.not_eq_true, Bool.not_eq_true', decide_eq_false_iff_not, ne_eq, Decidable.not_not, true_and, and_true, Nat.reduceAdd, Nat.reduceLeDiff, Nat.reduceEqDiff, Nat.le_refl, not_true_eq_false, not_false_eq_true, reduceIte, eq_self, Int.reduceNeg, Int.reduceEq, Int.reduceLT, Int.reduceLE, Nat.zero_le, Nat.one_ne_zero, ev_sides, ev_sides_arr, Int.toNat_natCast, e47, hc, e49', hl, hz, decide_true, decide_false, Bool.false_eq_true, if_true, if_false, true_and, and_true, not_true_eq_false, not_false_eq_true]
              repeat refine And.intro (by omega) ?_
              rw [hQ5]
              refine kStep_N (P := [some (.inr (.inl 9)), some (.inl ((k + 1 : Nat) : Int)), some (.inl ((t : Int) + 1)), some (.inl (h : Int)), some (.inl (b : Int))]) rfl ⟨t + 1, fun i' => if i' = t then u else q2 i', rfl, by omega, fun j hj => by simp [show ¬ j = t by omega, hqq j hj], g4, fun v hv => by rw [kup_ne (by decide), kup_ne (by decide)]; exact hO2 v hv, fun v hv hRv hno => ?_⟩
              rw [kup_ne (by decide), kup_ne (by decide), m2]
              by_cases e : v = u
              · exact absurd ⟨t, by omega, by simp [e]⟩ hno
              · rw [if_neg e]
                exact hdn1 v hv hRv (fun ⟨j, j1, j2⟩ => hno ⟨j, by omega, by simp [show ¬ j = t by omega, j2]⟩)
            · simp only [wpS_skip, wpS_break, wpS_cont, wpS_retV, wpS_throw, wpS_seq, wpS_if, wpS_trunc, yS_let, yS_inc, kgK_i, kgK_r, kok_nil, kok_i0, kok_is, kok_r0, kok_rs, kok_n0, kok_ns, xS_put, xS_putOp, xS_ast0, xS_ast1, xS_astOp, wpS_E, wpS_call, wpS_callS, wpS_ret, kThen_N, kThen_B, kThen_C, kThen_R, kThen_T, kNext_N, kNext_C, kNext_B, kNext_R, wpE_K, wpE_KL, xE_I, xE_R, wpE_J, xE_bin, wpE_ladd, wpE_i2l, xE_get, xE_ald0, xE_ald1, wpE_if, xE_max, xE_min, wpE_len, wpA_nil, wpA_snoc, xE_call, xE_callS, xC_C, xC_L, xC_Z, wpC_and, wpC_or, wpC_not, wpC_if, kcmp_0, kcmp_1, kcmp_2, kcmp_3, kcmp_4, kcmp_5, rR_inj, kgO_some, kgO_add, kgO_sub, kgO_mul, kgO_div, kgO_rem, kgO_and, kvI_inl, kvJ_inl, kgI_0, kgI_s, kgR_0, kgR_s, kst_nil, kst_0, kst_s, kNLl_nil, kNLl_i, kNLl_r, kNLl_n, ktag_i, ktag_r, List.length_cons, List.length_nil, List.take_succ_cons, List.take_zero, List.take_nil, List.nil_append, List.cons_append, decide_eq_true_eq, Bool.not_eq_true, Bool.not_eq_true', decide_eq_false_iff_not, ne_eq, Decidable.not_not, true_and, and_true, Nat.reduceAdd, Nat.reduceLeDiff, Nat.reduceEqDiff, Nat.le_refl, not_true_eq_false, not_false_eq_true, reduceIte, eq_self, Int.reduceNeg, Int.reduceEq, Int.reduceLT, Int.reduceLE, Nat.zero_le, Nat.one_ne_zero, ev_sides, ev_sides_arr, Int.toNat_natCast, e47, hc, e49', hl, decide_true, decide_false, Bool.false_eq_true, if_true, if_false, true_and, and_true, not_true_eq_false, not_false_eq_true]
              repeat refine And.intro (by omega) ?_
              exact skip (fun _ => by omega)
          · simp only [wpS_skip, wpS_break, wpS_cont, wpS_retV, wpS_throw, wpS_seq, wpS_if, wpS_trunc, yS_let, yS_inc, kgK_i, kgK_r, kok_nil, kok_i0, kok_is, kok_r0, kok_rs, kok_n0, kok_ns, xS_put, xS_putOp, xS_ast0, xS_ast1, xS_astOp, wpS_E, wpS_call, wpS_callS, wpS_ret, kThen_N, kThen_B, kThen_C, kThen_R, kThen_T, kNext_N, kNext_C, kNext_B, kNext_R, wpE_K, wpE_KL, xE_I, xE_R, wpE_J, xE_bin, wpE_ladd, wpE_i2l, xE_get, xE_ald0, xE_ald1, wpE_if, xE_max, xE_min, wpE_len, wpA_nil, wpA_snoc, xE_call, xE_callS, xC_C, xC_L, xC_Z, wpC_and, wpC_or, wpC_not, wpC_if, kcmp_0, kcmp_1, kcmp_2, kcmp_3, kcmp_4, kcmp_5, rR_inj, kgO_some, kgO_add, kgO_sub, kgO_mul, kgO_div, kgO_rem, kgO_and, kvI_inl, kvJ_inl, kgI_0, kgI_s, kgR_0, kgR_s, kst_nil, kst_0, kst_s, kNLl_nil, kNLl_i, kNLl_r, kNLl_n, ktag_i, ktag_r, List.length_cons, List.length_nil, List.take_succ_cons, List.take_zero, List.take_nil, List.nil_append, List.cons_append, decide_eq_true_eq, Bool.not_eq_true, Bool.not_eq_true', decide_eq_false_iff_not, ne_eq, Decidable.not_not, true_and, and_true, Nat.reduceAdd, Nat.reduceLeDiff, Nat.reduceEqDiff, Nat.le_refl, not_true_eq_false, not_false_eq_true, reduceIte, eq_self, Int.reduceNeg, Int.reduceEq, Int.reduceLT, Int.reduceLE, Nat.zero_le, Nat.one_ne_zero, ev_sides, ev_sides_arr, Int.toNat_natCast, e47, hc, decide_true, decide_false, Bool.false_eq_true, if_true, if_false, true_and, and_true, not_true_eq_false, not_false_eq_true]
            repeat refine And.intro (by omega) ?_
            exact skip (fun h => absurd h hc)
        · rintro P s1 ⟨t', q2, rfl, hlt', hqq, hP1, hO1, hdn1⟩
          rw [hQ4]
          refine kStep_N (P := [some (.inr (.inl 9)), some (.inl ((k + 1 : Nat) : Int)), some (.inl (t' : Int))]) rfl ⟨t', q2, rfl, by omega, hP1, fun v hv => ?_, hdn1⟩
          have ef : cntP (fun w => N v w ∧ ¬ (G0 w ∨ ∃ i, i < h + 1 ∧ q2 i = w)) n = lo2 v := by
            rw [hlo2, hG]
            refine cntP_congr (fun w _ => ?_)
            have : (∃ i, i < h + 1 ∧ q2 i = w) ↔ ((∃ i, i < h ∧ q i = w) ∨ w = b) := by
              constructor
              · rintro ⟨i, i1, i2⟩
                rw [hqq i (by omega)] at i2
                by_cases e : i = h
                · right; rw [← i2, e, hb]
                · exact Or.inl ⟨i, by omega, i2⟩
              · rintro (⟨i, i1, i2⟩ | e)
                · exact ⟨i, by omega, by rw [hqq i (by omega)]; exact i2⟩
                · exact ⟨h, by omega, by rw [hqq h (Nat.le_refl _), e, hb]⟩
            rw [this]
            constructor
            · rintro ⟨a, b'⟩; exact ⟨a, fun z => b' (z.elim (fun z => z.elim Or.inl (fun z => Or.inr (Or.inl z))) (fun z => Or.inr (Or.inr z)))⟩
            · rintro ⟨a, b'⟩; exact ⟨a, fun z => b' (z.elim (fun z => Or.inl (Or.inl z)) (fun z => z.elim (fun z => Or.inl (Or.inr z)) Or.inr))⟩
          rw [ef]
          by_cases hx : N v b
          · obtain ⟨j, j1, j2, j3⟩ := hNr.2.2.2.2 b v hqn hv (hNs _ _ hx)
            exact (hO1 v hv).1 ⟨j, j1, j2, j3⟩
          · rw [(hO1 v hv).2 (fun ⟨j, j1, j2, j3⟩ => hx (hNs _ _ (by rw [← j3]; exact (hNr.2.2.1 b j hqn j1 j2).1)))]
            exact drn v hv hx
      · have e : h = t := by omega
        subst e
        have c2 : ¬ (h : Int) < (h : Int) := by omega
        -- what is left is the core of this height
        have left : ∀ v, v < n → (kcr n N (k + 1) v ↔ (R v ∧ ¬ ∃ j, j < h ∧ q j = v)) := by
          intro v hv
          constructor
          · intro hcr
            exact ⟨Classical.byContradiction fun hn => nR v hv hn hcr, fun ⟨j, j1, j2⟩ => (hP.2.1 j j1).2.2.2 (by rw [j2]; exact hcr)⟩
          · intro hv2
            refine ⟨fun u => u < n ∧ R u ∧ ¬ ∃ j, j < h ∧ q j = u, ⟨hv, hv2⟩, fun u hu => ⟨hu.1, ?_⟩⟩
            have h1 := hdn u hu.1 hu.2.1 hu.2.2
            have h2 := hO u hu.1
            have h3 : cntP (fun w => N u w ∧ ¬ (G0 w ∨ ∃ i, i < h ∧ q i = w)) n = cntP (fun w => N u w ∧ w < n ∧ R w ∧ ¬ ∃ j, j < h ∧ q j = w) n := cntP_congr (fun w hw => by
              rw [hG0]
              exact ⟨fun q => ⟨q.1, hw, Classical.byContradiction (fun z => q.2 (Or.inl z)), fun z => q.2 (Or.inr z)⟩, fun q => ⟨q.1, fun z => z.elim (fun z => z q.2.2.1) q.2.2.2⟩⟩)
            show _ ≤ cntP (fun w => N u w ∧ w < n ∧ R w ∧ ¬ ∃ j, j < h ∧ q j = w) n
            omega
        have fin : Q2 rN [some (.inr (.inl 9)), some (.inl ((k + 1 : Nat) : Int)), some (.inl (h : Int))] s := by
          rw [hQ2]
          refine kThen_N.mpr ?_
          refine wpS_gen (fun Q105 hQ105 => ?_)
          simp only [wpS_skip, wpS_break, wpS_cont, wpS_retV, wpS_throw, wpS_seq, wpS_if, wpS_trunc, yS_let, yS_inc, kgK_i, kgK_r, kok_nil, kok_i0, kok_is, kok_r0, kok_rs, kok_n0, kok_ns, xS_put, xS_putOp, xS_ast0, xS_ast1, xS_astOp, wpS_E, wpS_call, wpS_callS, wpS_ret, kThen_N, kThen_B, kThen_C, kThen_R, kThen_T, kNext_N, kNext_C, kNext_B, kNext_R, wpE_K, wpE_KL, xE_I, xE_R, wpE_J, xE_bin, wpE_ladd, wpE_i2l, xE_get, xE_ald0, xE_ald1, wpE_if, xE_max, xE_min, wpE_len, wpA_nil, wpA_snoc, xE_call, xE_callS, xC_C, xC_L, xC_Z, wpC_and, wpC_or, wpC_not, wpC_if, kcmp_0, kcmp_1, kcmp_2, kcmp_3, kcmp_4, kcmp_5, rR_inj, kgO_some, kgO_add, kgO_sub, kgO_mul, kgO_div, kgO_rem, kgO_and, kvI_inl, kvJ_inl, kgI_0, kgI_s, kgR_0, kgR_s, kst_nil, kst_0, kst_s, kNLl_nil, kNLl_i, kNLl_r, kNLl_n, ktag_i, ktag_r, List.length_cons, List.length_nil, List.take_succ_cons, List.take_zero, List.take_nil, List.nil_append, List.cons_append, decide_eq_true_eq, Bool.not_eq_true, Bool.not_eq_true', decide_eq_false_iff_not, ne_eq, Decidable.not_not, true_and, and_true, Nat.reduceAdd, Nat.reduceLeDiff, Nat.reduceEqDiff, Nat.le_refl, not_true_eq_false, not_false_eq_true, reduceIte, eq_self, Int.reduceNeg, Int.reduceEq, Int.reduceLT, Int.reduceLE, Nat.zero_le, Nat.one_ne_zero]
          repeat refine And.intro (by omega) ?_
          rw [hQ105]
          clear hQ105 Q105
          refine ⟨_, rfl, rfl, hP.1, fun v hv => ⟨fun hcr => (hP.2.2.2.1 v hv).1 ((left v hv).mp hcr), fun hcr => ?_, fun hn => ((hP.2.2.2.1 v hv).2.2 (by rw [hR]; exact hn)).1⟩, fun v hv => ?_, ?_⟩
          · have hex : ∃ i, i < h ∧ q i = v := Classical.byContradiction fun z => hcr.2 ((left v hv).mpr ⟨by rw [hR]; exact hcr.1, z⟩)
            have := (hP.2.2.2.1 v hv).2.1 hex
            omega
          · have ef : cntP (fun w => N v w ∧ ¬ (G0 w ∨ ∃ i, i < h ∧ q i = w)) n = cntP (fun w => N v w ∧ kcr n N (k + 1) w) n := cntP_congr (fun w hw => by
              rw [left w hw, hG0]
              exact ⟨fun q => ⟨q.1, Classical.byContradiction (fun z => q.2 (Or.inl z)), fun z => q.2 (Or.inr z)⟩, fun q => ⟨q.1, fun z => z.elim (fun z => z q.2.1) q.2.2⟩⟩)
            rw [hO v hv, ef]
          · rw [(cntP_row (P := fun v => kcr n N k v ∧ ¬ kcr n N (k + 1) v) (n := n) (q := q) (t := h) (fun i hi => ⟨(hP.2.1 i hi).2.1, by rw [← hR]; exact (hP.2.1 i hi).2.2⟩) hP.2.2.1).2 (fun v hv hp => Classical.byContradiction fun z => hp.2 ((left v hv).mpr ⟨by rw [hR]; exact hp.1, z⟩))]
        rcases Classical.em ((h : Int) < 300) with c1 | c1 <;> (refine wpC_gen (fun Q3 hQ3 => ?_); simp only [wpS_skip, wpS_break, wpS_cont, wpS_retV, wpS_throw, wpS_seq, wpS_if, wpS_trunc, yS_let, yS_inc, kgK_i, kgK_r, kok_nil, kok_i0, kok_is, kok_r0, kok_rs, kok_n0, kok_ns, xS_put, xS_putOp, xS_ast0, xS_ast1, xS_astOp, wpS_E, wpS_call, wpS_callS, wpS_ret, kThen_N, kThen_B, kThen_C, kThen_R, kThen_T, kNext_N, kNext_C, kNext_B, kNext_R, wpE_K, wpE_KL, xE_I, xE_R, wpE_J, xE_bin, wpE_ladd, wpE_i2l, xE_get, xE_ald0, xE_ald1, wpE_if, xE_max, xE_min, wpE_len, wpA_nil, wpA_snoc, xE_call, xE_callS, xC_C, xC_L, xC_Z, wpC_and, wpC_or, wpC_not, wpC_if, kcmp_0, kcmp_1, kcmp_2, kcmp_3, kcmp_4, kcmp_5, rR_inj, kgO_some, kgO_add, kgO_sub, kgO_mul, kgO_div, kgO_rem, kgO_and, kvI_inl, kvJ_inl, kgI_0, kgI_s, kgR_0, kgR_s, kst_nil, kst_0, kst_s, kNLl_nil, kNLl_i, kNLl_r, kNLl_n, ktag_i, ktag_r, List.length_cons, List.length_nil, List.take_succ_cons, List.take_zero, List.take_nil, List.nil_append, List.cons_append, decide_eq_true_eq, Bool.not_eq_true, Bool.not_eq_true', decide_eq_false_iff_not, ne_eq, Decidable.not_not, true_and, and_true, Nat.reduceAdd, Nat.reduceLeDiff, Nat.reduceEqDiff, Nat.le_refl, not_true_eq_false, not_false_eq_true, reduceIte, eq_self, Int.reduceNeg, Int.reduceEq, Int.reduceLT, Int.reduceLE, Nat.zero_le, Nat.one_ne_zero, c1, c2, decide_true, decide_false, Bool.false_eq_true, if_true, if_false, true_and, and_true, not_true_eq_false, not_false_eq_true]; rw [hQ3]; exact ⟨rfl, Or.inr ⟨rfl, fin⟩⟩)
theorem anewPeel_ok {N : Nat → Nat → Prop} {St Ne : Nat → Nat} {k : Nat} (hn3 : n ≤ 300) (h1n : σ 1 3 = (n : Int)) (hS : Sr σ 64 65 n St Ne) (hNr : nrP n N n St Ne) (hNs : ∀ u v, N u v → N v u) (hNi : ∀ u, ¬ N u u) (hk : k < 300)
    (hco : ∀ v, v < n → (kcr n N k v → σ 66 v = -1) ∧ (¬ kcr n N k v → 0 ≤ σ 66 v)) (hop : ∀ v, v < n → σ 68 v = (cntP (fun w => N v w ∧ kcr n N k w) n : Int)) :
    wpF F_Sides_peel [.inr (.inl 13), .inl ((k + 1 : Nat) : Int)] σ (fun r s => (∀ o j, o ≠ 66 → o ≠ 68 → o ≠ 69 → s o j = σ o j) ∧ (∀ v, v < n → (kcr n N (k + 1) v → s 66 v = -1) ∧ ((kcr n N k v ∧ ¬ kcr n N (k + 1) v) → s 66 v = (k : Int)) ∧ (¬ kcr n N k v → s 66 v = σ 66 v)) ∧
      (∀ v, v < n → s 68 v = (cntP (fun w => N v w ∧ kcr n N (k + 1) w) n : Int)) ∧ r = some (.inl (cntP (fun v => kcr n N k v ∧ ¬ kcr n N (k + 1) v) n : Int))) := by
  obtain ⟨R, hR⟩ : ∃ R : Nat → Prop, R = kcr n N k := ⟨_, rfl⟩
  obtain ⟨hSt, hNe, h18⟩ := hS
  have hz : ((k + 1 : Nat) : Int) - 1 = (k : Int) := by omega
  -- a node that has too few left
  have few : ∀ (G : Nat → Prop) v, v < n → (∀ w, G w → ¬ kcr n N (k + 1) w) → cntP (fun w => N v w ∧ ¬ G w) n < k + 1 → ¬ kcr n N (k + 1) v := by
    intro G v hv hG hlt hcr
    have h1 := (kcr_clo v hcr).2
    have h2 : cntP (fun w => N v w ∧ kcr n N (k + 1) w) n ≤ cntP (fun w => N v w ∧ ¬ G w) n := cntP_le (fun w _ q => ⟨q.1, fun g => hG w g q.2⟩)
    omega
  have nR : ∀ w, w < n → ¬ R w → ¬ kcr n N (k + 1) w := fun w _ h h2 => h (by rw [hR]; exact kcr_anti h2 (by omega))
  obtain ⟨G0, hG0⟩ : ∃ G0 : Nat → Prop, G0 = fun v => ¬ R v := ⟨_, rfl⟩
  have hG0k : ∀ w, G0 w → ¬ kcr n N (k + 1) w := fun w hw h2 => by rw [hG0] at hw; exact hw (by rw [hR]; exact kcr_anti h2 (by omega))
  have hop0 : ∀ v, v < n → σ 68 v = (cntP (fun w => N v w ∧ ¬ G0 w) n : Int) := by
    intro v hv
    rw [hop v hv, hG0, ← hR]
    have e : cntP (fun w => N v w ∧ R w) n = cntP (fun w => N v w ∧ ¬ ¬ R w) n := cntP_congr (fun w _ => ⟨fun q => ⟨q.1, fun h => h q.2⟩, fun q => ⟨q.1, Classical.byContradiction q.2⟩⟩)
    rw [e]
  have bl : ∀ t (q : Nat → Nat), (∀ i, i < t → q i < n) → (∀ i j, i < t → j < t → q i = q j → i = j) → t ≤ n := by
    intro t q a b
    have := (cntP_row (P := fun _ => True) (n := n) (q := q) (t := t) (fun i hi => ⟨a i hi, trivial⟩) b).1
    have := @cntP_bound (fun _ => True) n
    omega
  have bl2 : ∀ t (q : Nat → Nat) v, v < n → (∀ i, i < t → q i < n) → (∀ i j, i < t → j < t → q i = q j → i = j) → (¬ ∃ i, i < t ∧ q i = v) → t < n := by
    intro t q v hv a b hno
    have := bl (t + 1) (fun i => if i = t then v else q i) (fun i hi => by
      show (if i = t then v else q i) < n
      split
      · exact hv
      · exact a i (by omega)) (fun i j hi hj e => by
      replace e : (if i = t then v else q i) = (if j = t then v else q j) := e
      by_cases e1 : i = t <;> by_cases e2 : j = t
      · omega
      · rw [if_pos e1, if_neg e2] at e; exact absurd ⟨j, by omega, e.symm⟩ hno
      · rw [if_neg e1, if_pos e2] at e; exact absurd ⟨i, by omega, e⟩ hno
      · rw [if_neg e1, if_neg e2] at e; exact b i j (by omega) (by omega) e)
    omega
  -- a node more in the row
  have push : ∀ (s : kS) (t : Nat) (q : Nat → Nat) (v : Nat), plS σ s 66 68 69 n N (k + 1) R G0 t q → v < n → s 66 v = -1 → ¬ kcr n N (k + 1) v →
      (t < n ∧ (¬ ∃ i, i < t ∧ q i = v) ∧ R v) ∧ plS σ (kup (kup s 66 v (k : Int)) 69 t (v : Int)) 66 68 69 n N (k + 1) R G0 (t + 1) (fun i => if i = t then v else q i) := by
    rintro s t q v ⟨p1, p2, p3, p4, p5⟩ hv hcv hnk
    obtain ⟨q1, q2, q3⟩ := p4 v hv
    have hno : ¬ ∃ i, i < t ∧ q i = v := fun h => by have := q2 h; omega
    have hRv : R v := Classical.byContradiction fun h => by have := q3 h; omega
    refine ⟨⟨bl2 t q v hv (fun i hi => (p2 i hi).2.1) p3 hno, hno, hRv⟩, fun o j o1 o2 o3 => by rw [kup_ne o3, kup_ne o1]; exact p1 o j o1 o2 o3, fun i hi => ?_, fun i j hi hj e => ?_, fun w hw => ?_, p5⟩
    · rw [kup_eq]
      dsimp only
      by_cases e : i = t
      · rw [if_pos e, if_pos e]; exact ⟨rfl, hv, hRv, hnk⟩
      · rw [if_neg e, if_neg e, kup_ne (by decide)]; exact p2 i (by omega)
    · dsimp only at e
      by_cases e1 : i = t <;> by_cases e2 : j = t
      · omega
      · rw [if_pos e1, if_neg e2] at e; exact absurd ⟨j, by omega, e.symm⟩ hno
      · rw [if_neg e1, if_pos e2] at e; exact absurd ⟨i, by omega, e⟩ hno
      · rw [if_neg e1, if_neg e2] at e; exact p3 i j (by omega) (by omega) e
    · rw [kup_ne (by decide), kup_eq]
      obtain ⟨r1, r2, r3⟩ := p4 w hw
      have ex : (∃ i, i < t + 1 ∧ (if i = t then v else q i) = w) ↔ ((∃ i, i < t ∧ q i = w) ∨ w = v) := by
        constructor
        · rintro ⟨i, i1, i2⟩
          by_cases e : i = t
          · rw [if_pos e] at i2; exact Or.inr i2.symm
          · rw [if_neg e] at i2; exact Or.inl ⟨i, by omega, i2⟩
        · rintro (⟨i, i1, i2⟩ | e)
          · exact ⟨i, by omega, by rw [if_neg (by omega)]; exact i2⟩
          · exact ⟨t, by omega, by rw [if_pos rfl, e]⟩
      dsimp only
      rw [ex]
      by_cases e : w = v
      · rw [if_pos e]
        exact ⟨fun h => absurd (Or.inr e) h.2, fun _ => by omega, fun h => absurd (e ▸ hRv) h⟩
      · rw [if_neg e]
        exact ⟨fun h => r1 ⟨h.1, fun g => h.2 (Or.inl g)⟩, fun h => r2 (h.elim id (fun g => absurd g e)), r3⟩
  have start : plS σ σ 66 68 69 n N (k + 1) R G0 0 (fun _ => 0) := by
    refine ⟨fun _ _ _ _ _ => rfl, fun i hi => by omega, fun i j hi => by omega, fun v hv => ⟨fun h => (hco v hv).1 (hR ▸ h.1), fun ⟨i, h, _⟩ => by omega, fun h => ⟨rfl, (hco v hv).2 (by rw [← hR]; exact h)⟩⟩, fun v _ h => by rw [hG0]; exact h⟩
  unfold F_Sides_peel
  rw [wpF_kF]
  refine ⟨rfl, rfl, ?_⟩
  unfold s_Sides_peel
  simp only [List.map_cons, List.map_nil]
  refine wpS_seq' (fun Q106 hQ106 => ?_)
  simp only [wpS_skip, wpS_break, wpS_cont, wpS_retV, wpS_throw, wpS_seq, wpS_if, wpS_trunc, yS_let, yS_inc, kgK_i, kgK_r, kok_nil, kok_i0, kok_is, kok_r0, kok_rs, kok_n0, kok_ns, xS_put, xS_putOp, xS_ast0, xS_ast1, xS_astOp, wpS_E, wpS_call, wpS_callS, wpS_ret, kThen_N, kThen_B, kThen_C, kThen_R, kThen_T, kNext_N, kNext_C, kNext_B, kNext_R, wpE_K, wpE_KL, xE_I, xE_R, wpE_J, xE_bin, wpE_ladd, wpE_i2l, xE_get, xE_ald0, xE_ald1, wpE_if, xE_max, xE_min, wpE_len, wpA_nil, wpA_snoc, xE_call, xE_callS, xC_C, xC_L, xC_Z, wpC_and, wpC_or, wpC_not, wpC_if, kcmp_0, kcmp_1, kcmp_2, kcmp_3, kcmp_4, kcmp_5, rR_inj, kgO_some, kgO_add, kgO_sub, kgO_mul, kgO_div, kgO_rem, kgO_and, kvI_inl, kvJ_inl, kgI_0, kgI_s, kgR_0, kgR_s, kst_nil, kst_0, kst_s, kNLl_nil, kNLl_i, kNLl_r, kNLl_n, ktag_i, ktag_r, List.length_cons, List.length_nil, List.take_succ_cons, List.take_zero, List.take_nil, List.nil_append, List.cons_append, decide_eq_true_eq, Bool.not_eq_true, Bool.not_eq_true', decide_eq_false_iff_not, ne_eq, Decidable.not_not, true_and, and_true, Nat.reduceAdd, Nat.reduceLeDiff, Nat.reduceEqDiff, Nat.le_refl, not_true_eq_false, not_false_eq_true, reduceIte, eq_self, Int.reduceNeg, Int.reduceEq, Int.reduceLT, Int.reduceLE, Nat.zero_le, Nat.one_ne_zero]
  repeat refine And.intro (by omega) ?_
  rw [hQ106]
  clear hQ106 Q106
  refine kThen_N.mpr ?_
  refine wpS_seq' (fun Q1 hQ1 => ?_)
  unfold l_Sides_peel_1
  refine wpS_fort (fun i P s => ∃ (t : Nat) (q : Nat → Nat), P = [some (.inr (.inl 13)), some (.inl ((k + 1 : Nat) : Int)), some (.inl (t : Int))] ∧ plS σ s 66 68 69 n N (k + 1) R G0 t q ∧ (∀ v, s 68 v = σ 68 v) ∧ (∀ v, v < i → R v → (¬ ∃ j, j < t ∧ q j = v) → (k : Int) + 1 ≤ σ 68 v)) 0 n rfl rfl ?_ ?_ ?_ ?_ ?_ ?_ ?_
  · simp only [wpS_skip, wpS_break, wpS_cont, wpS_retV, wpS_throw, wpS_seq, wpS_if, wpS_trunc, yS_let, yS_inc, kgK_i, kgK_r, kok_nil, kok_i0, kok_is, kok_r0, kok_rs, kok_n0, kok_ns, xS_put, xS_putOp, xS_ast0, xS_ast1, xS_astOp, wpS_E, wpS_call, wpS_callS, wpS_ret, kThen_N, kThen_B, kThen_C, kThen_R, kThen_T, kNext_N, kNext_C, kNext_B, kNext_R, wpE_K, wpE_KL, xE_I, xE_R, wpE_J, xE_bin, wpE_ladd, wpE_i2l, xE_get, xE_ald0, xE_ald1, wpE_if, xE_max, xE_min, wpE_len, wpA_nil, wpA_snoc, xE_call, xE_callS, xC_C, xC_L, xC_Z, wpC_and, wpC_or, wpC_not, wpC_if, kcmp_0, kcmp_1, kcmp_2, kcmp_3, kcmp_4, kcmp_5, rR_inj, kgO_some, kgO_add, kgO_sub, kgO_mul, kgO_div, kgO_rem, kgO_and, kvI_inl, kvJ_inl, kgI_0, kgI_s, kgR_0, kgR_s, kst_nil, kst_0, kst_s, kNLl_nil, kNLl_i, kNLl_r, kNLl_n, ktag_i, ktag_r, List.length_cons, List.length_nil, List.take_succ_cons, List.take_zero, List.take_nil, List.nil_append, List.cons_append, decide_eq_true_eq, Bool.not_eq_true, Bool.not_eq_true', decide_eq_false_iff_not, ne_eq, Decidable.not_not, true_and, and_true, Nat.reduceAdd, Nat.reduceLeDiff, Nat.reduceEqDiff, Nat.le_refl, not_true_eq_false, not_false_eq_true, reduceIte, eq_self, Int.reduceNeg, Int.reduceEq, Int.reduceLT, Int.reduceLE, Nat.zero_le, Nat.one_ne_zero]; trivial
  · omega
  · exact ⟨0, fun _ => 0, rfl, start, fun _ => rfl, fun v hv => by omega⟩
  · rintro i P s ⟨t, q, rfl, -⟩; exact ⟨rfl, rfl⟩
  · rintro i P s - - ⟨t, q, rfl, ⟨p1, -⟩, -⟩
    simp only [wpS_skip, wpS_break, wpS_cont, wpS_retV, wpS_throw, wpS_seq, wpS_if, wpS_trunc, yS_let, yS_inc, kgK_i, kgK_r, kok_nil, kok_i0, kok_is, kok_r0, kok_rs, kok_n0, kok_ns, xS_put, xS_putOp, xS_ast0, xS_ast1, xS_astOp, wpS_E, wpS_call, wpS_callS, wpS_ret, kThen_N, kThen_B, kThen_C, kThen_R, kThen_T, kNext_N, kNext_C, kNext_B, kNext_R, wpE_K, wpE_KL, xE_I, xE_R, wpE_J, xE_bin, wpE_ladd, wpE_i2l, xE_get, xE_ald0, xE_ald1, wpE_if, xE_max, xE_min, wpE_len, wpA_nil, wpA_snoc, xE_call, xE_callS, xC_C, xC_L, xC_Z, wpC_and, wpC_or, wpC_not, wpC_if, kcmp_0, kcmp_1, kcmp_2, kcmp_3, kcmp_4, kcmp_5, rR_inj, kgO_some, kgO_add, kgO_sub, kgO_mul, kgO_div, kgO_rem, kgO_and, kvI_inl, kvJ_inl, kgI_0, kgI_s, kgR_0, kgR_s, kst_nil, kst_0, kst_s, kNLl_nil, kNLl_i, kNLl_r, kNLl_n, ktag_i, ktag_r, List.length_cons, List.length_nil, List.take_succ_cons, List.take_zero, List.take_nil, List.nil_append, List.cons_append, decide_eq_true_eq, Bool.not_eq_true, Bool.not_eq_true', decide_eq_false_iff_not, ne_eq, Decidable.not_not, true_and, and_true, Nat.reduceAdd, Nat.reduceLeDiff, Nat.reduceEqDiff, Nat.le_refl, not_true_eq_false, not_false_eq_true, reduceIte, eq_self, Int.reduceNeg, Int.reduceEq, Int.reduceLT, Int.reduceLE, Nat.zero_le, Nat.one_ne_zero, ev_anew, ev_web, show s 1 3 = (n : Int) by rw [p1 _ _ (by decide) (by decide) (by decide)]; exact h1n]
  · rintro i P s - hi ⟨t, q, rfl, hP, ho, hdn⟩
    refine wpS_gen (fun Q2 hQ2 => ?_)
    have eo := ho i
    have htn := bl t q (fun j hj => (hP.2.1 j hj).2.1) hP.2.2.1
    have skip : (s 66 i = -1 → (k : Int) + 1 ≤ σ 68 i) → Q2 rN [some (.inr (.inl 13)), some (.inl ((k + 1 : Nat) : Int)), some (.inl (t : Int)), some (.inl (i : Int))] s := by
      intro h
      rw [hQ2]
      refine kStep_N rfl ⟨t, q, rfl, hP, ho, fun v hv hRv hno => ?_⟩
      by_cases e : v = i
      · subst e; exact h ((hP.2.2.2.1 v hi).1 ⟨hRv, hno⟩)
      · exact hdn v (by omega) hRv hno
    by_cases hc : s 66 i = -1
    · by_cases hl : σ 68 i < ((k + 1 : Nat) : Int)
      · obtain ⟨⟨g1, g2, g3⟩, g4⟩ := push s t q i hP hi hc (few G0 i hi hG0k (by have := hop0 i hi; omega))
        simp only [wpS_skip, wpS_break, wpS_cont, wpS_retV, wpS_throw, wpS_seq, wpS_if, wpS_trunc, yS_let, yS_inc, kgK_i, kgK_r, kok_nil, kok_i0, kok_is, kok_r0, kok_rs, kok_n0, kok_ns, xS_put, xS_putOp, xS_ast0, xS_ast1, xS_astOp, wpS_E, wpS_call, wpS_callS, wpS_ret, kThen_N, kThen_B, kThen_C, kThen_R, kThen_T, kNext_N, kNext_C, kNext_B, kNext_R, wpE_K, wpE_KL, xE_I, xE_R, wpE_J, xE_bin, wpE_ladd, wpE_i2l, xE_get, xE_ald0, xE_ald1, wpE_if, xE_max, xE_min, wpE_len, wpA_nil, wpA_snoc, xE_call, xE_callS, xC_C, xC_L, xC_Z, wpC_and, wpC_or, wpC_not, wpC_if, kcmp_0, kcmp_1, kcmp_2, kcmp_3, kcmp_4, kcmp_5, rR_inj, kgO_some, kgO_add, kgO_sub, kgO_mul, kgO_div, kgO_rem, kgO_and, kvI_inl, kvJ_inl, kgI_0, kgI_s, kgR_0, kgR_s, kst_nil, kst_0, kst_s, kNLl_nil, kNLl_i, kNLl_r, kNLl_n, ktag_i, ktag_r, List.length_cons, List.length_nil, List.take_succ_cons, List.take_zero, List.take_nil, List.nil_append, List.cons_append, decide_eq_true_eq, Bool.not_eq_true, Bool.not_eq_true', decide_eq_false_iff_not, ne_eq, Decidable.not_not, true_and, and_true, Nat.reduceAdd, Nat.reduceLeDiff, Nat.reduceEqDiff, Nat.le_refl, not_true_eq_false, not_false_eq_true, reduceIte, eq_self, Int.reduceNeg, Int.reduceEq, Int.reduceLT, Int.reduceLE, Nat.zero_le, Nat.one_ne_zero, ev_anew, ev_anew_arr, Int.toNat_natCast, hc, eo, hl, hz, decide_true, decide_false, Bool.false_eq_true, if_true, if_false, true_and, and_true, not_true_eq_false, not_false_eq_true]
        repeat refine And.intro (by omega) ?_
        rw [hQ2]
        refine kStep_N (P := [some (.inr (.inl 13)), some (.inl ((k + 1 : Nat) : Int)), some (.inl ((t : Int) + 1))]) rfl ⟨t + 1, fun i' => if i' = t then i else q i', rfl, g4, fun v => by rw [kup_ne (by decide), kup_ne (by decide)]; exact ho v, fun v hv hRv hno => ?_⟩
        by_cases e : v = i
        · exact absurd ⟨t, by omega, by simp [e]⟩ hno
        · exact hdn v (by omega) hRv (fun ⟨j, j1, j2⟩ => hno ⟨j, by omega, by simp [show ¬ j = t by omega, j2]⟩)
      · simp only [wpS_skip, wpS_break, wpS_cont, wpS_retV, wpS_throw, wpS_seq, wpS_if, wpS_trunc, yS_let, yS_inc, kgK_i, kgK_r, kok_nil, kok_i0, kok_is, kok_r0, kok_rs, kok_n0, kok_ns, xS_put, xS_putOp, xS_ast0, xS_ast1, xS_astOp, wpS_E, wpS_call, wpS_callS, wpS_ret, kThen_N, kThen_B, kThen_C, kThen_R, kThen_T, kNext_N, kNext_C, kNext_B, kNext_R, wpE_K, wpE_KL, xE_I, xE_R, wpE_J, xE_bin, wpE_ladd, wpE_i2l, xE_get, xE_ald0, xE_ald1, wpE_if, xE_max, xE_min, wpE_len, wpA_nil, wpA_snoc, xE_call, xE_callS, xC_C, xC_L, xC_Z, wpC_and, wpC_or, wpC_not, wpC_if, kcmp_0, kcmp_1, kcmp_2, kcmp_3, kcmp_4, kcmp_5, rR_inj, kgO_some, kgO_add, kgO_sub, kgO_mul, kgO_div, kgO_rem, kgO_and, kvI_inl, kvJ_inl, kgI_0, kgI_s, kgR_0, kgR_s, kst_nil, kst_0, kst_s, kNLl_nil, kNLl_i, kNLl_r, kNLl_n, ktag_i, ktag_r, List.length_cons, List.length_nil, List.take_succ_cons, List.take_zero, List.take_nil, List.nil_append, List.cons_append, decide_eq_true_eq, Bool.not_eq_true, Bool.not_eq_true', decide_eq_false_iff_not, ne_eq, Decidable.not_not, true_and, and_true, Nat.reduceAdd, Nat.reduceLeDiff, Nat.reduceEqDiff, Nat.le_refl, not_true_eq_false, not_false_eq_true, reduceIte, eq_self, Int.reduceNeg, Int.reduceEq, Int.reduceLT, Int.reduceLE, Nat.zero_le, Nat.one_ne_zero, ev_anew, ev_anew_arr, Int.toNat_natCast, hc, eo, hl, decide_true, decide_false, Bool.false_eq_true, if_true, if_false, true_and, and_true, not_true_eq_false, not_false_eq_true]
        repeat refine And.intro (by omega) ?_
        exact skip (fun _ => by omega)
    · simp only [wpS_skip, wpS_break, wpS_cont, wpS_retV, wpS_throw, wpS_seq, wpS_if, wpS_trunc, yS_let, yS_inc, kgK_i, kgK_r, kok_nil, kok_i0, kok_is, kok_r0, kok_rs, kok_n0, kok_ns, xS_put, xS_putOp, xS_ast0, xS_ast1, xS_astOp, wpS_E, wpS_call, wpS_callS, wpS_ret, kThen_N, kThen_B, kThen_C, kThen_R, kThen_T, kNext_N, kNext_C, kNext_B, kNext_R, wpE_K, wpE_KL, xE_I, xE_R, wpE_J, xE_bin, wpE_ladd, wpE_i2l, xE_get, xE_ald0, xE_ald1, wpE_if, xE_max, xE_min, wpE_len, wpA_nil, wpA_snoc, xE_call, xE_callS, xC_C, xC_L, xC_Z, wpC_and, wpC_or, wpC_not, wpC_if, kcmp_0, kcmp_1, kcmp_2, kcmp_3, kcmp_4, kcmp_5, rR_inj, kgO_some, kgO_add, kgO_sub, kgO_mul, kgO_div, kgO_rem, kgO_and, kvI_inl, kvJ_inl, kgI_0, kgI_s, kgR_0, kgR_s, kst_nil, kst_0, kst_s, kNLl_nil, kNLl_i, kNLl_r, kNLl_n, ktag_i, ktag_r, List.length_cons, List.length_nil, List.take_succ_cons, List.take_zero, List.take_nil, List.nil_append, List.cons_append, decide_eq_true_eq, Bool.not_eq_true, Bool.not_eq_true', decide_eq_false_iff_not, ne_eq, Decidable.not_not, true_and, and_true, Nat.reduceAdd, Nat.reduceLeDiff, Nat.reduceEqDiff, Nat.le_refl, not_true_eq_false, not_false_eq_true, reduceIte, eq_self, Int.reduceNeg, Int.reduceEq, Int.reduceLT, Int.reduceLE, Nat.zero_le, Nat.one_ne_zero, ev_anew, ev_anew_arr, Int.toNat_natCast, hc, decide_true, decide_false, Bool.false_eq_true, if_true, if_false, true_and, and_true, not_true_eq_false, not_false_eq_true]
      repeat refine And.intro (by omega) ?_
      exact skip (fun h => absurd h hc)
  · rintro P s ⟨t, q, rfl, hP, ho, hdn⟩
    rw [hQ1]
    refine kThen_N.mpr ?_
    refine wpS_seq' (fun Q2 hQ2 => ?_)
    unfold l_Sides_peel_3
    refine wpS_fortG (fun h P s => ∃ (t : Nat) (q : Nat → Nat), P = [some (.inr (.inl 13)), some (.inl ((k + 1 : Nat) : Int)), some (.inl (t : Int))] ∧ h ≤ t ∧ plS σ s 66 68 69 n N (k + 1) R G0 t q ∧
      (∀ v, v < n → s 68 v = (cntP (fun w => N v w ∧ ¬ (G0 w ∨ ∃ i, i < h ∧ q i = w)) n : Int)) ∧ (∀ v, v < n → R v → (¬ ∃ j, j < t ∧ q j = v) → (k : Int) + 1 ≤ s 68 v)) (fun m => (m : Int)) n rfl rfl ?_ ?_ ?_ ?_
    · simp only [wpS_skip, wpS_break, wpS_cont, wpS_retV, wpS_throw, wpS_seq, wpS_if, wpS_trunc, yS_let, yS_inc, kgK_i, kgK_r, kok_nil, kok_i0, kok_is, kok_r0, kok_rs, kok_n0, kok_ns, xS_put, xS_putOp, xS_ast0, xS_ast1, xS_astOp, wpS_E, wpS_call, wpS_callS, wpS_ret, kThen_N, kThen_B, kThen_C, kThen_R, kThen_T, kNext_N, kNext_C, kNext_B, kNext_R, wpE_K, wpE_KL, xE_I, xE_R, wpE_J, xE_bin, wpE_ladd, wpE_i2l, xE_get, xE_ald0, xE_ald1, wpE_if, xE_max, xE_min, wpE_len, wpA_nil, wpA_snoc, xE_call, xE_callS, xC_C, xC_L, xC_Z, wpC_and, wpC_or, wpC_not, wpC_if, kcmp_0, kcmp_1, kcmp_2, kcmp_3, kcmp_4, kcmp_5, rR_inj, kgO_some, kgO_add, kgO_sub, kgO_mul, kgO_div, kgO_rem, kgO_and, kvI_inl, kvJ_inl, kgI_0, kgI_s, kgR_0, kgR_s, kst_nil, kst_0, kst_s, kNLl_nil, kNLl_i, kNLl_r, kNLl_n, ktag_i, ktag_r, List.length_cons, List.length_nil, List.take_succ_cons, List.take_zero, List.take_nil, List.nil_append, List.cons_append, decide_eq_true_eq, Bool.not_eq_true, Bool.not_eq_true', decide_eq_false_iff_not, ne_eq, Decidable.not_not, true_and, and_true, Nat.reduceAdd, Nat.reduceLeDiff, Nat.reduceEqDiff, Nat.le_refl, not_true_eq_false, not_false_eq_true, reduceIte, eq_self, Int.reduceNeg, Int.reduceEq, Int.reduceLT, Int.reduceLE, Nat.zero_le, Nat.one_ne_zero]; trivial
    · refine ⟨t, q, rfl, Nat.zero_le _, hP, fun v hv => ?_, fun v hv hRv hno => by rw [ho]; exact hdn v hv hRv hno⟩
      have e : cntP (fun w => N v w ∧ ¬ G0 w) n = cntP (fun w => N v w ∧ ¬ (G0 w ∨ ∃ i, i < 0 ∧ q i = w)) n := cntP_congr (fun w _ => ⟨fun q => ⟨q.1, fun h => h.elim q.2 (fun ⟨i, h, _⟩ => by omega)⟩, fun q => ⟨q.1, fun h => q.2 (Or.inl h)⟩⟩)
      rw [ho, hop0 v hv, e]
    · rintro h P s ⟨t, q, rfl, -⟩; exact ⟨rfl, rfl⟩
    · clear hP ho hdn t q s
      rintro h P s hh ⟨t, q, rfl, hht, hP, hO, hdn⟩
      have htn := bl t q (fun j hj => (hP.2.1 j hj).2.1) hP.2.2.1
      rcases Nat.lt_or_ge h t with hlt | hlt
      · have c1 : (h : Int) < 300 := by omega
        have c2 : (h : Int) < (t : Int) := by omega
        refine wpC_gen (fun Q3 hQ3 => ?_)
        simp only [wpS_skip, wpS_break, wpS_cont, wpS_retV, wpS_throw, wpS_seq, wpS_if, wpS_trunc, yS_let, yS_inc, kgK_i, kgK_r, kok_nil, kok_i0, kok_is, kok_r0, kok_rs, kok_n0, kok_ns, xS_put, xS_putOp, xS_ast0, xS_ast1, xS_astOp, wpS_E, wpS_call, wpS_callS, wpS_ret, kThen_N, kThen_B, kThen_C, kThen_R, kThen_T, kNext_N, kNext_C, kNext_B, kNext_R, wpE_K, wpE_KL, xE_I, xE_R, wpE_J, xE_bin, wpE_ladd, wpE_i2l, xE_get, xE_ald0, xE_ald1, wpE_if, xE_max, xE_min, wpE_len, wpA_nil, wpA_snoc, xE_call, xE_callS, xC_C, xC_L, xC_Z, wpC_and, wpC_or, wpC_not, wpC_if, kcmp_0, kcmp_1, kcmp_2, kcmp_3, kcmp_4, kcmp_5, rR_inj, kgO_some, kgO_add, kgO_sub, kgO_mul, kgO_div, kgO_rem, kgO_and, kvI_inl, kvJ_inl, kgI_0, kgI_s, kgR_0, kgR_s, kst_nil, kst_0, kst_s, kNLl_nil, kNLl_i, kNLl_r, kNLl_n, ktag_i, ktag_r, List.length_cons, List.length_nil, List.take_succ_cons, List.take_zero, List.take_nil, List.nil_append, List.cons_append, decide_eq_true_eq, Bool.not_eq_true, Bool.not_eq_true', decide_eq_false_iff_not, ne_eq, Decidable.not_not, true_and, and_true, Nat.reduceAdd, Nat.reduceLeDiff, Nat.reduceEqDiff, Nat.le_refl, not_true_eq_false, not_false_eq_true, reduceIte, eq_self, Int.reduceNeg, Int.reduceEq, Int.reduceLT, Int.reduceLE, Nat.zero_le, Nat.one_ne_zero, c1, c2, decide_true, decide_false, Bool.false_eq_true, if_true, if_false, true_and, and_true, not_true_eq_false, not_false_eq_true]
        rw [hQ3]
        refine ⟨rfl, Or.inl ⟨rfl, by omega, by simp, by omega, by omega, ?_⟩⟩
        obtain ⟨e50, hqn, hqR, hqk⟩ := hP.2.1 h hlt
        obtain ⟨b, hb⟩ : ∃ b, b = q h := ⟨_, rfl⟩
        rw [← hb] at e50 hqn hqR hqk
        have hdeg := hNr.deg hqn
        have hle := hNr.mono (show b + 1 ≤ n from hqn) (Nat.le_refl n)
        have t1 : ((b : Int) + 1).toNat = b + 1 := by omega
        rw [wpS_trunc]
        refine wpS_seq' (fun Q107 hQ107 => ?_)
        simp only [wpS_skip, wpS_break, wpS_cont, wpS_retV, wpS_throw, wpS_seq, wpS_if, wpS_trunc, yS_let, yS_inc, kgK_i, kgK_r, kok_nil, kok_i0, kok_is, kok_r0, kok_rs, kok_n0, kok_ns, xS_put, xS_putOp, xS_ast0, xS_ast1, xS_astOp, wpS_E, wpS_call, wpS_callS, wpS_ret, kThen_N, kThen_B, kThen_C, kThen_R, kThen_T, kNext_N, kNext_C, kNext_B, kNext_R, wpE_K, wpE_KL, xE_I, xE_R, wpE_J, xE_bin, wpE_ladd, wpE_i2l, xE_get, xE_ald0, xE_ald1, wpE_if, xE_max, xE_min, wpE_len, wpA_nil, wpA_snoc, xE_call, xE_callS, xC_C, xC_L, xC_Z, wpC_and, wpC_or, wpC_not, wpC_if, kcmp_0, kcmp_1, kcmp_2, kcmp_3, kcmp_4, kcmp_5, rR_inj, kgO_some, kgO_add, kgO_sub, kgO_mul, kgO_div, kgO_rem, kgO_and, kvI_inl, kvJ_inl, kgI_0, kgI_s, kgR_0, kgR_s, kst_nil, kst_0, kst_s, kNLl_nil, kNLl_i, kNLl_r, kNLl_n, ktag_i, ktag_r, List.length_cons, List.length_nil, List.take_succ_cons, List.take_zero, List.take_nil, List.nil_append, List.cons_append, decide_eq_true_eq, Bool.not_eq_true, Bool.not_eq_true', decide_eq_false_iff_not, ne_eq, Decidable.not_not, true_and, and_true, Nat.reduceAdd, Nat.reduceLeDiff, Nat.reduceEqDiff, Nat.le_refl, not_true_eq_false, not_false_eq_true, reduceIte, eq_self, Int.reduceNeg, Int.reduceEq, Int.reduceLT, Int.reduceLE, Nat.zero_le, Nat.one_ne_zero, ev_anew, ev_anew_arr, Int.toNat_natCast, e50]
        repeat refine And.intro (by omega) ?_
        rw [hQ107]
        clear hQ107 Q107
        refine kThen_N.mpr ?_
        refine wpS_gen (fun Q4 hQ4 => ?_)
        unfold l_Sides_peel_2
        -- gone through: G, with b
        obtain ⟨G, hG⟩ : ∃ G : Nat → Prop, G = fun w => G0 w ∨ ∃ i, i < h ∧ q i = w := ⟨_, rfl⟩
        have hGb : ¬ G b := by
          rw [hG, hG0]
          rintro (w | ⟨i, i1, i2⟩)
          · exact w hqR
          · have := hP.2.2.1 i h (by omega) hlt (by rw [i2, hb]); omega
        have hGk : ∀ w, G w → ¬ kcr n N (k + 1) w := by
          rw [hG]
          rintro w (w1 | ⟨i, i1, rfl⟩)
          · exact hG0k w w1
          · exact (hP.2.1 i (by omega)).2.2.2
        have hO' : ∀ v, v < n → s 68 v = (cntP (fun w => N v w ∧ ¬ G w) n : Int) := by rw [hG]; exact hO
        have dr : ∀ v, cntP (fun w => N v w ∧ ¬ G w) n = cntP (fun w => N v w ∧ ¬ (G w ∨ w = b)) n + @ite _ (N v b) (Classical.propDecidable _) 1 0 := by
          intro v
          rw [cntP_drop hqn (P := fun w => N v w ∧ ¬ G w)]
          have e1 : cntP (fun w => (N v w ∧ ¬ G w) ∧ w ≠ b) n = cntP (fun w => N v w ∧ ¬ (G w ∨ w = b)) n := cntP_congr (fun w _ => ⟨fun q => ⟨q.1.1, fun h => h.elim q.1.2 q.2⟩, fun q => ⟨⟨q.1, fun h => q.2 (Or.inl h)⟩, fun h => q.2 (Or.inr h)⟩⟩)
          rw [e1]
          by_cases hx : N v b
          · rw [if_pos hx, if_pos ⟨hx, hGb⟩]
          · rw [if_neg hx, if_neg (fun q => hx q.1)]
        obtain ⟨lo2, hlo2⟩ : ∃ lo2 : Nat → Nat, lo2 = fun v => cntP (fun w => N v w ∧ ¬ (G w ∨ w = b)) n := ⟨_, rfl⟩
        have lob : ∀ v, lo2 v ≤ n := fun v => by rw [hlo2]; exact cntP_bound
        have drN : ∀ v, v < n → N v b → s 68 v = (lo2 v : Int) + 1 := by
          intro v hv hx; rw [hO' v hv, dr v, if_pos hx, hlo2]; rfl
        have drn : ∀ v, v < n → ¬ N v b → s 68 v = (lo2 v : Int) := by
          intro v hv hx; rw [hO' v hv, dr v, if_neg hx, hlo2]; rfl
        have G2k : ∀ w, (G w ∨ w = b) → ¬ kcr n N (k + 1) w := fun w hw => hw.elim (hGk w) (fun e => e ▸ hqk)
        refine wpS_fort (fun i P s1 => ∃ (t : Nat) (q2 : Nat → Nat), P = [some (.inr (.inl 13)), some (.inl ((k + 1 : Nat) : Int)), some (.inl (t : Int)), some (.inl (h : Int)), some (.inl (b : Int))] ∧ h < t ∧ (∀ j, j ≤ h → q2 j = q j) ∧ plS σ s1 66 68 69 n N (k + 1) R G0 t q2 ∧
          (∀ v, v < n → ((∃ j, St b ≤ j ∧ j < i ∧ Ne j = v) → s1 68 v = (lo2 v : Int)) ∧ ((¬ ∃ j, St b ≤ j ∧ j < i ∧ Ne j = v) → s1 68 v = s 68 v)) ∧ (∀ v, v < n → R v → (¬ ∃ j, j < t ∧ q2 j = v) → (k : Int) + 1 ≤ s1 68 v)) (St b) (St (b + 1)) rfl rfl ?_ ?_ ?_ ?_ ?_ ?_ ?_
        · have e45 : s 64 b = St b := by rw [hP.1 _ _ (by decide) (by decide) (by decide)]; exact hSt b (by omega)
          simp only [wpS_skip, wpS_break, wpS_cont, wpS_retV, wpS_throw, wpS_seq, wpS_if, wpS_trunc, yS_let, yS_inc, kgK_i, kgK_r, kok_nil, kok_i0, kok_is, kok_r0, kok_rs, kok_n0, kok_ns, xS_put, xS_putOp, xS_ast0, xS_ast1, xS_astOp, wpS_E, wpS_call, wpS_callS, wpS_ret, kThen_N, kThen_B, kThen_C, kThen_R, kThen_T, kNext_N, kNext_C, kNext_B, kNext_R, wpE_K, wpE_KL, xE_I, xE_R, wpE_J, xE_bin, wpE_ladd, wpE_i2l, xE_get, xE_ald0, xE_ald1, wpE_if, xE_max, xE_min, wpE_len, wpA_nil, wpA_snoc, xE_call, xE_callS, xC_C, xC_L, xC_Z, wpC_and, wpC_or, wpC_not, wpC_if, kcmp_0, kcmp_1, kcmp_2, kcmp_3, kcmp_4, kcmp_5, rR_inj, kgO_some, kgO_add, kgO_sub, kgO_mul, kgO_div, kgO_rem, kgO_and, kvI_inl, kvJ_inl, kgI_0, kgI_s, kgR_0, kgR_s, kst_nil, kst_0, kst_s, kNLl_nil, kNLl_i, kNLl_r, kNLl_n, ktag_i, ktag_r, List.length_cons, List.length_nil, List.take_succ_cons, List.take_zero, List.take_nil, List.nil_append, List.cons_append, decide_eq_true_eq, Bool.not_eq_true, Bool.not_eq_true', decide_eq_false_iff_not, ne_eq, Decidable.not_not, true_and, and_true, Nat.reduceAdd, Nat.reduceLeDiff, Nat.reduceEqDiff, Nat.le_refl, not_true_eq_false, not_false_eq_true, reduceIte, eq_self, Int.reduceNeg, Int.reduceEq, Int.reduceLT, Int.reduceLE, Nat.zero_le, Nat.one_ne_zero, ev_anew, ev_anew_arr, Int.toNat_natCast, e45]
          omega
        · omega
        · exact ⟨t, q, rfl, hlt, fun _ _ => rfl, hP, fun v hv => ⟨fun ⟨j, h1, h2, _⟩ => by omega, fun _ => rfl⟩, hdn⟩
        · rintro i P s1 ⟨t, q2, rfl, -⟩; exact ⟨rfl, rfl⟩
        · rintro i P s1 - - ⟨t, q2, rfl, -, -, hP1, -⟩
          have e45 : s1 64 (b + 1) = St (b + 1) := by rw [hP1.1 _ _ (by decide) (by decide) (by decide)]; exact hSt (b + 1) (by omega)
          simp only [wpS_skip, wpS_break, wpS_cont, wpS_retV, wpS_throw, wpS_seq, wpS_if, wpS_trunc, yS_let, yS_inc, kgK_i, kgK_r, kok_nil, kok_i0, kok_is, kok_r0, kok_rs, kok_n0, kok_ns, xS_put, xS_putOp, xS_ast0, xS_ast1, xS_astOp, wpS_E, wpS_call, wpS_callS, wpS_ret, kThen_N, kThen_B, kThen_C, kThen_R, kThen_T, kNext_N, kNext_C, kNext_B, kNext_R, wpE_K, wpE_KL, xE_I, xE_R, wpE_J, xE_bin, wpE_ladd, wpE_i2l, xE_get, xE_ald0, xE_ald1, wpE_if, xE_max, xE_min, wpE_len, wpA_nil, wpA_snoc, xE_call, xE_callS, xC_C, xC_L, xC_Z, wpC_and, wpC_or, wpC_not, wpC_if, kcmp_0, kcmp_1, kcmp_2, kcmp_3, kcmp_4, kcmp_5, rR_inj, kgO_some, kgO_add, kgO_sub, kgO_mul, kgO_div, kgO_rem, kgO_and, kvI_inl, kvJ_inl, kgI_0, kgI_s, kgR_0, kgR_s, kst_nil, kst_0, kst_s, kNLl_nil, kNLl_i, kNLl_r, kNLl_n, ktag_i, ktag_r, List.length_cons, List.length_nil, List.take_succ_cons, List.take_zero, List.take_nil, List.nil_append, List.cons_append, decide_eq_true_eq, Bool.not_eq_true, Bool.not_eq_true', decide_eq_false_iff_not, ne_eq, Decidable.not_not, true_and, and_true, Nat.reduceAdd, Nat.reduceLeDiff, Nat.reduceEqDiff, Nat.le_refl, not_true_eq_false, not_false_eq_true, reduceIte, eq_self, Int.reduceNeg, Int.reduceEq, Int.reduceLT, Int.reduceLE, Nat.zero_le, Nat.one_ne_zero, ev_anew, ev_anew_arr, Int.toNat_natCast, t1, e45]
          omega
        · clear hP hO hdn htn hlt c2
          rintro i P s1 hi0 hi1 ⟨t, q2, rfl, hlt, hqq, hP1, hO1, hdn1⟩
          obtain ⟨u, hu⟩ : ∃ u, u = Ne i := ⟨_, rfl⟩
          obtain ⟨hNu, hun⟩ := hNr.2.2.1 b i hqn hi0 hi1
          rw [← hu] at hNu hun
          have e46 : s1 65 i = u := by rw [hP1.1 _ _ (by decide) (by decide) (by decide), hNe i (by omega), hu]
          have hNub : N u b := hNs _ _ hNu
          have hfresh : ¬ ∃ j, St b ≤ j ∧ j < i ∧ Ne j = u := fun ⟨j, j1, j2, j3⟩ => hNr.2.2.2.1 b j i hqn j1 j2 hi1 (by rw [j3, hu])
          have e49 : s1 68 u = (lo2 u : Int) + 1 := by rw [(hO1 u hun).2 hfresh]; exact drN u hun hNub
          have lu := lob u
          have htn := bl t q2 (fun j hj => (hP1.2.1 j hj).2.1) hP1.2.2.1
          rw [wpS_trunc]
          refine wpS_seq' (fun Q108 hQ108 => ?_)
          simp only [wpS_skip, wpS_break, wpS_cont, wpS_retV, wpS_throw, wpS_seq, wpS_if, wpS_trunc, yS_let, yS_inc, kgK_i, kgK_r, kok_nil, kok_i0, kok_is, kok_r0, kok_rs, kok_n0, kok_ns, xS_put, xS_putOp, xS_ast0, xS_ast1, xS_astOp, wpS_E, wpS_call, wpS_callS, wpS_ret, kThen_N, kThen_B, kThen_C, kThen_R, kThen_T, kNext_N, kNext_C, kNext_B, kNext_R, wpE_K, wpE_KL, xE_I, xE_R, wpE_J, xE_bin, wpE_ladd, wpE_i2l, xE_get, xE_ald0, xE_ald1, wpE_if, xE_max, xE_min, wpE_len, wpA_nil, wpA_snoc, xE_call, xE_callS, xC_C, xC_L, xC_Z, wpC_and, wpC_or, wpC_not, wpC_if, kcmp_0, kcmp_1, kcmp_2, kcmp_3, kcmp_4, kcmp_5, rR_inj, kgO_some, kgO_add, kgO_sub, kgO_mul, kgO_div, kgO_rem, kgO_and, kvI_inl, kvJ_inl, kgI_0, kgI_s, kgR_0, kgR_s, kst_nil, kst_0, kst_s, kNLl_nil, kNLl_i, kNLl_r, kNLl_n, ktag_i, ktag_r, List.length_cons, List.length_nil, List.take_succ_cons, List.take_zero, List.take_nil, List.nil_append, List.cons_append, decide_eq_true_eq, Bool.not_eq_true, Bool.not_eq_true', decide_eq_false_iff_not, ne_eq, Decidable.not_not, true_and, and_true, Nat.reduceAdd, Nat.reduceLeDiff, Nat.reduceEqDiff, Nat.le_refl, not_true_eq_false, not_false_eq_true, reduceIte, eq_self, Int.reduceNeg, Int.reduceEq, Int.reduceLT, Int.reduceLE, Nat.zero_le, Nat.one_ne_zero, ev_anew, ev_anew_arr, Int.toNat_natCast, e46]
          repeat refine And.intro (by omega) ?_
          rw [hQ108]
          clear hQ108 Q108
          refine kThen_N.mpr ?_
          have ez : (lo2 u : Int) + 1 - 1 = (lo2 u : Int) := by omega
          refine wpS_seq' (fun Q109 hQ109 => ?_)
          simp only [wpS_skip, wpS_break, wpS_cont, wpS_retV, wpS_throw, wpS_seq, wpS_if, wpS_trunc, yS_let, yS_inc, kgK_i, kgK_r, kok_nil, kok_i0, kok_is, kok_r0, kok_rs, kok_n0, kok_ns, xS_put, xS_putOp, xS_ast0, xS_ast1, xS_astOp, wpS_E, wpS_call, wpS_callS, wpS_ret, kThen_N, kThen_B, kThen_C, kThen_R, kThen_T, kNext_N, kNext_C, kNext_B, kNext_R, wpE_K, wpE_KL, xE_I, xE_R, wpE_J, xE_bin, wpE_ladd, wpE_i2l, xE_get, xE_ald0, xE_ald1, wpE_if, xE_max, xE_min, wpE_len, wpA_nil, wpA_snoc, xE_call, xE_callS, xC_C, xC_L, xC_Z, wpC_and, wpC_or, wpC_not, wpC_if, kcmp_0, kcmp_1, kcmp_2, kcmp_3, kcmp_4, kcmp_5, rR_inj, kgO_some, kgO_add, kgO_sub, kgO_mul, kgO_div, kgO_rem, kgO_and, kvI_inl, kvJ_inl, kgI_0, kgI_s, kgR_0, kgR_s, kst_nil, kst_0, kst_s, kNLl_nil, kNLl_i, kNLl_r, kNLl_n, ktag_i, ktag_r, List.length_cons, List.length_nil, List.take_succ_cons, List.take_zero, List.take_nil, List.nil_append, List.cons_append, decide_eq_true_eq, Bool.not_eq_true, Bool.not_eq_true', decide_eq_false_iff_not, ne_eq, Decidable.not_not, true_and, and_true, Nat.reduceAdd, Nat.reduceLeDiff, Nat.reduceEqDiff, Nat.le_refl, not_true_eq_false, not_false_eq_true, reduceIte, eq_self, Int.reduceNeg, Int.reduceEq, Int.reduceLT, Int.reduceLE, Nat.zero_le, Nat.one_ne_zero, ev_anew, ev_anew_arr, Int.toNat_natCast, e49, ez]
          repeat refine And.intro (by omega) ?_
          rw [hQ109]
          clear hQ109 Q109
          refine kThen_N.mpr ?_
          obtain ⟨s2, hs2⟩ : ∃ s2, s2 = kup s1 68 u (lo2 u : Int) := ⟨_, rfl⟩
          rw [← hs2]
          have m1 : ∀ o j, o ≠ 68 → s2 o j = s1 o j := by intro o j ho; rw [hs2, kup_ne ho]
          have m2 : ∀ w, s2 68 w = if w = u then (lo2 u : Int) else s1 68 w := by intro w; rw [hs2, kup_eq]
          have hP2 : plS σ s2 66 68 69 n N (k + 1) R G0 t q2 := by
            obtain ⟨p1, p2, p3, p4, p5⟩ := hP1
            exact ⟨fun o j o1 o2 o3 => by rw [m1 o j o2]; exact p1 o j o1 o2 o3, fun i hi => by rw [m1 _ _ (by decide)]; exact p2 i hi, p3, fun v hv => by rw [m1 _ _ (by decide)]; exact p4 v hv, p5⟩
          have hO2 : ∀ v, v < n → ((∃ j, St b ≤ j ∧ j < i + 1 ∧ Ne j = v) → s2 68 v = (lo2 v : Int)) ∧ ((¬ ∃ j, St b ≤ j ∧ j < i + 1 ∧ Ne j = v) → s2 68 v = s 68 v) := by
            intro v hv
            rw [m2]
            by_cases e : v = u
            · rw [if_pos e]
              exact ⟨fun _ => by rw [e], fun hn => absurd ⟨i, hi0, by omega, by rw [e, hu]⟩ hn⟩
            · rw [if_neg e]
              refine ⟨fun ⟨j, j1, j2, j3⟩ => (hO1 v hv).1 ⟨j, j1, ?_, j3⟩, fun hn => (hO1 v hv).2 (fun ⟨j, j1, j2, j3⟩ => hn ⟨j, j1, by omega, j3⟩)⟩
              rcases Nat.lt_trichotomy j i with w | w | w
              · exact w
              · exact absurd (by rw [← j3, w, hu]) e
              · omega
          have e47 : s2 66 u = s1 66 u := m1 _ _ (by decide)
          have e49' : s2 68 u = lo2 u := by rw [m2, if_pos rfl]
          refine wpS_gen (fun Q5 hQ5 => ?_)
          have skip : (s1 66 u = -1 → k + 1 ≤ lo2 u) → Q5 rN [some (.inr (.inl 13)), some (.inl ((k + 1 : Nat) : Int)), some (.inl (t : Int)), some (.inl (h : Int)), some (.inl (b : Int)), some (.inl (i : Int)), some (.inl (u : Int))] s2 := by
            intro hsk
            rw [hQ5]
            refine kStep_N rfl ⟨t, q2, rfl, hlt, hqq, hP2, hO2, fun v hv hRv hno => ?_⟩
            rw [m2]
            by_cases e : v = u
            · rw [if_pos e]
              have := hsk (by rw [← e]; exact (hP1.2.2.2.1 v hv).1 ⟨hRv, hno⟩)
              omega
            · rw [if_neg e]; exact hdn1 v hv hRv hno
          by_cases hc : s1 66 u = -1
          · by_cases hl : (lo2 u : Int) < ((k + 1 : Nat) : Int)
            · have hfew : ¬ kcr n N (k + 1) u := few (fun w => G w ∨ w = b) u hun G2k (by rw [hlo2] at hl; dsimp only at hl; omega)
              obtain ⟨⟨g1, g2, g3⟩, g4⟩ := push s2 t q2 u hP2 hun (by rw [e47]; exact hc) hfew
              simp only [wpS_skip, wpS_break, wpS_cont, wpS_retV, wpS_throw, wpS_seq, wpS_if, wpS_trunc, yS_let, yS_inc, kgK_i, kgK_r, kok_nil, kok_i0, kok_is, kok_r0, kok_rs, kok_n0, kok_ns, xS_put, xS_putOp, xS_ast0, xS_ast1, xS_astOp, wpS_E, wpS_call, wpS_callS, wpS_ret, kThen_N, kThen_B, kThen_C, kThen_R, kThen_T, kNext_N, kNext_C, kNext_B, kNext_R, wpE_K, wpE_KL, xE_I, xE_R, wpE_J, xE_bin, wpE_ladd, wpE_i2l, xE_get, xE_ald0, xE_ald1, wpE_if, xE_max, xE_min, wpE_len, wpA_nil, wpA_snoc, xE_call, xE_callS, xC_C, xC_L, xC_Z, wpC_and, wpC_or, wpC_not, wpC_if, kcmp_0, kcmp_1, kcmp_2, kcmp_3, kcmp_4, kcmp_5, rR_inj, kgO_some, kgO_add, kgO_sub, kgO_mul, kgO_div, kgO_rem, kgO_and, kvI_inl, kvJ_inl, kgI_0, kgI_s, kgR_0, kgR_s, kst_nil, kst_0, kst_s, kNLl_nil, kNLl_i, kNLl_r, kNLl_n, ktag_i, ktag_r, List.length_cons, List.length_nil, List.take_succ_cons, List.take_zero, List.take_nil, List.nil_append, List.cons_append, decide_eq_true_eq, Bool.not_eq_true, Bool.not_eq_true', decide_eq_false_iff_not, ne_eq, Decidable.not_not, true_and, and_true, Nat.reduceAdd, Nat.reduceLeDiff, Nat.reduceEqDiff, Nat.le_refl, not_true_eq_false, not_false_eq_true, reduceIte, eq_self, Int.reduceNeg, Int.reduceEq, Int.reduceLT, Int.reduceLE, Nat.zero_le, Nat.one_ne_zero, ev_anew, ev_anew_arr, Int.toNat_natCast, e47, hc, e49', hl, hz, decide_true, decide_false, Bool.false_eq_true, if_true, if_false, true_and, and_true, not_true_eq_false, not_false_eq_true]
              repeat refine And.intro (by omega) ?_
              rw [hQ5]
              refine kStep_N (P := [some (.inr (.inl 13)), some (.inl ((k + 1 : Nat) : Int)), some (.inl ((t : Int) + 1)), some (.inl (h : Int)), some (.inl (b : Int))]) rfl ⟨t + 1, fun i' => if i' = t then u else q2 i', rfl, by omega, fun j hj => by simp [show ¬ j = t by omega, hqq j hj], g4, fun v hv => by rw [kup_ne (by decide), kup_ne (by decide)]; exact hO2 v hv, fun v hv hRv hno => ?_⟩
              rw [kup_ne (by decide), kup_ne (by decide), m2]
              by_cases e : v = u
              · exact absurd ⟨t, by omega, by simp [e]⟩ hno
              · rw [if_neg e]
                exact hdn1 v hv hRv (fun ⟨j, j1, j2⟩ => hno ⟨j, by omega, by simp [show ¬ j = t by omega, j2]⟩)
            · simp only [wpS_skip, wpS_break, wpS_cont, wpS_retV, wpS_throw, wpS_seq, wpS_if, wpS_trunc, yS_let, yS_inc, kgK_i, kgK_r, kok_nil, kok_i0, kok_is, kok_r0, kok_rs, kok_n0, kok_ns, xS_put, xS_putOp, xS_ast0, xS_ast1, xS_astOp, wpS_E, wpS_call, wpS_callS, wpS_ret, kThen_N, kThen_B, kThen_C, kThen_R, kThen_T, kNext_N, kNext_C, kNext_B, kNext_R, wpE_K, wpE_KL, xE_I, xE_R, wpE_J, xE_bin, wpE_ladd, wpE_i2l, xE_get, xE_ald0, xE_ald1, wpE_if, xE_max, xE_min, wpE_len, wpA_nil, wpA_snoc, xE_call, xE_callS, xC_C, xC_L, xC_Z, wpC_and, wpC_or, wpC_not, wpC_if, kcmp_0, kcmp_1, kcmp_2, kcmp_3, kcmp_4, kcmp_5, rR_inj, kgO_some, kgO_add, kgO_sub, kgO_mul, kgO_div, kgO_rem, kgO_and, kvI_inl, kvJ_inl, kgI_0, kgI_s, kgR_0, kgR_s, kst_nil, kst_0, kst_s, kNLl_nil, kNLl_i, kNLl_r, kNLl_n, ktag_i, ktag_r, List.length_cons, List.length_nil, List.take_succ_cons, List.take_zero, List.take_nil, List.nil_append, List.cons_append, decide_eq_true_eq, Bool.not_eq_true, Bool.not_eq_true', decide_eq_false_iff_not, ne_eq, Decidable.not_not, true_and, and_true, Nat.reduceAdd, Nat.reduceLeDiff, Nat.reduceEqDiff, Nat.le_refl, not_true_eq_false, not_false_eq_true, reduceIte, eq_self, Int.reduceNeg, Int.reduceEq, Int.reduceLT, Int.reduceLE, Nat.zero_le, Nat.one_ne_zero, ev_anew, ev_anew_arr, Int.toNat_natCast, e47, hc, e49', hl, decide_true, decide_false, Bool.false_eq_true, if_true, if_false, true_and, and_true, not_true_eq_false, not_false_eq_true]
              repeat refine And.intro (by omega) ?_
              exact skip (fun _ => by omega)
          · simp only [wpS_skip, wpS_break, wpS_cont, wpS_retV, wpS_throw, wpS_seq, wpS_if, wpS_trunc, yS_let, yS_inc, kgK_i, kgK_r, kok_nil, kok_i0, kok_is, kok_r0, kok_rs, kok_n0, kok_ns, xS_put, xS_putOp, xS_ast0, xS_ast1, xS_astOp, wpS_E, wpS_call, wpS_callS, wpS_ret, kThen_N, kThen_B, kThen_C, kThen_R, kThen_T, kNext_N, kNext_C, kNext_B, kNext_R, wpE_K, wpE_KL, xE_I, xE_R, wpE_J, xE_bin, wpE_ladd, wpE_i2l, xE_get, xE_ald0, xE_ald1, wpE_if, xE_max, xE_min, wpE_len, wpA_nil, wpA_snoc, xE_call, xE_callS, xC_C, xC_L, xC_Z, wpC_and, wpC_or, wpC_not, wpC_if, kcmp_0, kcmp_1, kcmp_2, kcmp_3, kcmp_4, kcmp_5, rR_inj, kgO_some, kgO_add, kgO_sub, kgO_mul, kgO_div, kgO_rem, kgO_and, kvI_inl, kvJ_inl, kgI_0, kgI_s, kgR_0, kgR_s, kst_nil, kst_0, kst_s, kNLl_nil, kNLl_i, kNLl_r, kNLl_n, ktag_i, ktag_r, List.length_cons, List.length_nil, List.take_succ_cons, List.take_zero, List.take_nil, List.nil_append, List.cons_append, decide_eq_true_eq, Bool.not_eq_true, Bool.not_eq_true', decide_eq_false_iff_not, ne_eq, Decidable.not_not, true_and, and_true, Nat.reduceAdd, Nat.reduceLeDiff, Nat.reduceEqDiff, Nat.le_refl, not_true_eq_false, not_false_eq_true, reduceIte, eq_self, Int.reduceNeg, Int.reduceEq, Int.reduceLT, Int.reduceLE, Nat.zero_le, Nat.one_ne_zero, ev_anew, ev_anew_arr, Int.toNat_natCast, e47, hc, decide_true, decide_false, Bool.false_eq_true, if_true, if_false, true_and, and_true, not_true_eq_false, not_false_eq_true]
            repeat refine And.intro (by omega) ?_
            exact skip (fun h => absurd h hc)
        · rintro P s1 ⟨t', q2, rfl, hlt', hqq, hP1, hO1, hdn1⟩
          rw [hQ4]
          refine kStep_N (P := [some (.inr (.inl 13)), some (.inl ((k + 1 : Nat) : Int)), some (.inl (t' : Int))]) rfl ⟨t', q2, rfl, by omega, hP1, fun v hv => ?_, hdn1⟩
          have ef : cntP (fun w => N v w ∧ ¬ (G0 w ∨ ∃ i, i < h + 1 ∧ q2 i = w)) n = lo2 v := by
            rw [hlo2, hG]
            refine cntP_congr (fun w _ => ?_)
            have : (∃ i, i < h + 1 ∧ q2 i = w) ↔ ((∃ i, i < h ∧ q i = w) ∨ w = b) := by
              constructor
              · rintro ⟨i, i1, i2⟩
                rw [hqq i (by omega)] at i2
                by_cases e : i = h
                · right; rw [← i2, e, hb]
                · exact Or.inl ⟨i, by omega, i2⟩
              · rintro (⟨i, i1, i2⟩ | e)
                · exact ⟨i, by omega, by rw [hqq i (by omega)]; exact i2⟩
                · exact ⟨h, by omega, by rw [hqq h (Nat.le_refl _), e, hb]⟩
            rw [this]
            constructor
            · rintro ⟨a, b'⟩; exact ⟨a, fun z => b' (z.elim (fun z => z.elim Or.inl (fun z => Or.inr (Or.inl z))) (fun z => Or.inr (Or.inr z)))⟩
            · rintro ⟨a, b'⟩; exact ⟨a, fun z => b' (z.elim (fun z => Or.inl (Or.inl z)) (fun z => z.elim (fun z => Or.inl (Or.inr z)) Or.inr))⟩
          rw [ef]
          by_cases hx : N v b
          · obtain ⟨j, j1, j2, j3⟩ := hNr.2.2.2.2 b v hqn hv (hNs _ _ hx)
            exact (hO1 v hv).1 ⟨j, j1, j2, j3⟩
          · rw [(hO1 v hv).2 (fun ⟨j, j1, j2, j3⟩ => hx (hNs _ _ (by rw [← j3]; exact (hNr.2.2.1 b j hqn j1 j2).1)))]
            exact drn v hv hx
      · have e : h = t := by omega
        subst e
        have c2 : ¬ (h : Int) < (h : Int) := by omega
        -- what is left is the core of this height
        have left : ∀ v, v < n → (kcr n N (k + 1) v ↔ (R v ∧ ¬ ∃ j, j < h ∧ q j = v)) := by
          intro v hv
          constructor
          · intro hcr
            exact ⟨Classical.byContradiction fun hn => nR v hv hn hcr, fun ⟨j, j1, j2⟩ => (hP.2.1 j j1).2.2.2 (by rw [j2]; exact hcr)⟩
          · intro hv2
            refine ⟨fun u => u < n ∧ R u ∧ ¬ ∃ j, j < h ∧ q j = u, ⟨hv, hv2⟩, fun u hu => ⟨hu.1, ?_⟩⟩
            have h1 := hdn u hu.1 hu.2.1 hu.2.2
            have h2 := hO u hu.1
            have h3 : cntP (fun w => N u w ∧ ¬ (G0 w ∨ ∃ i, i < h ∧ q i = w)) n = cntP (fun w => N u w ∧ w < n ∧ R w ∧ ¬ ∃ j, j < h ∧ q j = w) n := cntP_congr (fun w hw => by
              rw [hG0]
              exact ⟨fun q => ⟨q.1, hw, Classical.byContradiction (fun z => q.2 (Or.inl z)), fun z => q.2 (Or.inr z)⟩, fun q => ⟨q.1, fun z => z.elim (fun z => z q.2.2.1) q.2.2.2⟩⟩)
            show _ ≤ cntP (fun w => N u w ∧ w < n ∧ R w ∧ ¬ ∃ j, j < h ∧ q j = w) n
            omega
        have fin : Q2 rN [some (.inr (.inl 13)), some (.inl ((k + 1 : Nat) : Int)), some (.inl (h : Int))] s := by
          rw [hQ2]
          refine kThen_N.mpr ?_
          refine wpS_gen (fun Q110 hQ110 => ?_)
          simp only [wpS_skip, wpS_break, wpS_cont, wpS_retV, wpS_throw, wpS_seq, wpS_if, wpS_trunc, yS_let, yS_inc, kgK_i, kgK_r, kok_nil, kok_i0, kok_is, kok_r0, kok_rs, kok_n0, kok_ns, xS_put, xS_putOp, xS_ast0, xS_ast1, xS_astOp, wpS_E, wpS_call, wpS_callS, wpS_ret, kThen_N, kThen_B, kThen_C, kThen_R, kThen_T, kNext_N, kNext_C, kNext_B, kNext_R, wpE_K, wpE_KL, xE_I, xE_R, wpE_J, xE_bin, wpE_ladd, wpE_i2l, xE_get, xE_ald0, xE_ald1, wpE_if, xE_max, xE_min, wpE_len, wpA_nil, wpA_snoc, xE_call, xE_callS, xC_C, xC_L, xC_Z, wpC_and, wpC_or, wpC_not, wpC_if, kcmp_0, kcmp_1, kcmp_2, kcmp_3, kcmp_4, kcmp_5, rR_inj, kgO_some, kgO_add, kgO_sub, kgO_mul, kgO_div, kgO_rem, kgO_and, kvI_inl, kvJ_inl, kgI_0, kgI_s, kgR_0, kgR_s, kst_nil, kst_0, kst_s, kNLl_nil, kNLl_i, kNLl_r, kNLl_n, ktag_i, ktag_r, List.length_cons, List.length_nil, List.take_succ_cons, List.take_zero, List.take_nil, List.nil_append, List.cons_append, decide_eq_true_eq, Bool.not_eq_true, Bool.not_eq_true', decide_eq_false_iff_not, ne_eq, Decidable.not_not, true_and, and_true, Nat.reduceAdd, Nat.reduceLeDiff, Nat.reduceEqDiff, Nat.le_refl, not_true_eq_false, not_false_eq_true, reduceIte, eq_self, Int.reduceNeg, Int.reduceEq, Int.reduceLT, Int.reduceLE, Nat.zero_le, Nat.one_ne_zero]
          repeat refine And.intro (by omega) ?_
          rw [hQ110]
          clear hQ110 Q110
          refine ⟨_, rfl, rfl, hP.1, fun v hv => ⟨fun hcr => (hP.2.2.2.1 v hv).1 ((left v hv).mp hcr), fun hcr => ?_, fun hn => ((hP.2.2.2.1 v hv).2.2 (by rw [hR]; exact hn)).1⟩, fun v hv => ?_, ?_⟩
          · have hex : ∃ i, i < h ∧ q i = v := Classical.byContradiction fun z => hcr.2 ((left v hv).mpr ⟨by rw [hR]; exact hcr.1, z⟩)
            have := (hP.2.2.2.1 v hv).2.1 hex
            omega
          · have ef : cntP (fun w => N v w ∧ ¬ (G0 w ∨ ∃ i, i < h ∧ q i = w)) n = cntP (fun w => N v w ∧ kcr n N (k + 1) w) n := cntP_congr (fun w hw => by
              rw [left w hw, hG0]
              exact ⟨fun q => ⟨q.1, Classical.byContradiction (fun z => q.2 (Or.inl z)), fun z => q.2 (Or.inr z)⟩, fun q => ⟨q.1, fun z => z.elim (fun z => z q.2.1) q.2.2⟩⟩)
            rw [hO v hv, ef]
          · rw [(cntP_row (P := fun v => kcr n N k v ∧ ¬ kcr n N (k + 1) v) (n := n) (q := q) (t := h) (fun i hi => ⟨(hP.2.1 i hi).2.1, by rw [← hR]; exact (hP.2.1 i hi).2.2⟩) hP.2.2.1).2 (fun v hv hp => Classical.byContradiction fun z => hp.2 ((left v hv).mpr ⟨by rw [hR]; exact hp.1, z⟩))]
        rcases Classical.em ((h : Int) < 300) with c1 | c1 <;> (refine wpC_gen (fun Q3 hQ3 => ?_); simp only [wpS_skip, wpS_break, wpS_cont, wpS_retV, wpS_throw, wpS_seq, wpS_if, wpS_trunc, yS_let, yS_inc, kgK_i, kgK_r, kok_nil, kok_i0, kok_is, kok_r0, kok_rs, kok_n0, kok_ns, xS_put, xS_putOp, xS_ast0, xS_ast1, xS_astOp, wpS_E, wpS_call, wpS_callS, wpS_ret, kThen_N, kThen_B, kThen_C, kThen_R, kThen_T, kNext_N, kNext_C, kNext_B, kNext_R, wpE_K, wpE_KL, xE_I, xE_R, wpE_J, xE_bin, wpE_ladd, wpE_i2l, xE_get, xE_ald0, xE_ald1, wpE_if, xE_max, xE_min, wpE_len, wpA_nil, wpA_snoc, xE_call, xE_callS, xC_C, xC_L, xC_Z, wpC_and, wpC_or, wpC_not, wpC_if, kcmp_0, kcmp_1, kcmp_2, kcmp_3, kcmp_4, kcmp_5, rR_inj, kgO_some, kgO_add, kgO_sub, kgO_mul, kgO_div, kgO_rem, kgO_and, kvI_inl, kvJ_inl, kgI_0, kgI_s, kgR_0, kgR_s, kst_nil, kst_0, kst_s, kNLl_nil, kNLl_i, kNLl_r, kNLl_n, ktag_i, ktag_r, List.length_cons, List.length_nil, List.take_succ_cons, List.take_zero, List.take_nil, List.nil_append, List.cons_append, decide_eq_true_eq, Bool.not_eq_true, Bool.not_eq_true', decide_eq_false_iff_not, ne_eq, Decidable.not_not, true_and, and_true, Nat.reduceAdd, Nat.reduceLeDiff, Nat.reduceEqDiff, Nat.le_refl, not_true_eq_false, not_false_eq_true, reduceIte, eq_self, Int.reduceNeg, Int.reduceEq, Int.reduceLT, Int.reduceLE, Nat.zero_le, Nat.one_ne_zero, c1, c2, decide_true, decide_false, Bool.false_eq_true, if_true, if_false, true_and, and_true, not_true_eq_false, not_false_eq_true]; rw [hQ3]; exact ⟨rfl, Or.inr ⟨rfl, fin⟩⟩)
end PC
