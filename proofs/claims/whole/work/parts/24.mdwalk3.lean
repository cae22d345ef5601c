/-! THE REFERENCE'S WALK 3: the outer loop -/
theorem bf_le {n fr h t : Nat} {al : Nat → List Nat} {tg q dp by' : Nat → Nat} (B : bf n al tg fr h t q dp by') : t ≤ n := by
  obtain ⟨-, -, -, -, b5, b6, -⟩ := B
  have := (cntP_row (P := fun _ => True) (n := n) (q := q) (t := t) (fun i hi => ⟨b5 i hi, trivial⟩) b6).1
  have := @cntP_bound (fun _ => True) n
  omega
theorem wk4_ok {σ s0 : kS} {n fr : Nat} {al : Nat → List Nat} {tg : Nat → Nat} {frv so le wi : Int} (hA : bfA σ n al tg) (hn3 : n ≤ 300) (hfr : fr < n)
    (hc : ∀ v, v < n → chn σ (σ 89 v) (al v)) (hK : bfK σ s0) (hB : ∃ q dp by', bf n al tg fr 0 1 q dp by' ∧ bfS s0 n fr 1 q dp by') :
    wpS l_Md_walk_4 [some (.inr (.inl 14)), some (.inl frv), some (.inl so), some (.inl le), some (.inl wi), some (.inl 0)] s0
      (fun r L s => r = rN ∧ L.take 5 = [some (.inr (.inl 14)), some (.inl frv), some (.inl so), some (.inl le), some (.inl wi)] ∧ bfK σ s ∧
        ∃ t q dp by', bf n al tg fr t t q dp by' ∧ bfS s n fr t q dp by') := by
  unfold l_Md_walk_4
  refine wpS_for (fun m L s => ∃ (h t : Nat) (q dp by' : Nat → Nat), m = n - h ∧ L = [some (.inr (.inl 14)), some (.inl frv), some (.inl so), some (.inl le), some (.inl wi), some (.inl (h : Int))] ∧ bfK σ s ∧ bf n al tg fr h t q dp by' ∧ bfS s n fr t q dp by') ?_ n _ _ (by
      obtain ⟨q, dp, by', g1, g2⟩ := hB
      exact ⟨0, 1, q, dp, by', by omega, rfl, hK, g1, g2⟩)
  rintro m L s ⟨h, t, q, dp, by', hm, rfl, hK, g3, g4⟩
  have htn := bf_le g3
  obtain ⟨f1, f2, f3, f4, f5⟩ := id g4
  have hht : h ≤ t := g3.2.1
  refine wpC_gen (fun Q1 hQ1 => ?_)
  simp only [wpS_skip, wpS_break, wpS_cont, wpS_retV, wpS_throw, wpS_seq, wpS_if, wpS_trunc, yS_let, yS_inc, kgK_i, kgK_r, kok_nil, kok_i0, kok_is, kok_r0, kok_rs, kok_n0, kok_ns, xS_put, xS_putOp, xS_ast0, xS_ast1, xS_astOp, wpS_E, wpS_call, wpS_callS, wpS_ret, kThen_N, kThen_B, kThen_C, kThen_R, kThen_T, kNext_N, kNext_C, kNext_B, kNext_R, wpE_K, wpE_KL, xE_I, xE_R, wpE_J, xE_bin, wpE_ladd, wpE_i2l, xE_get, xE_ald0, xE_ald1, wpE_if, xE_max, xE_min, wpE_len, wpA_nil, wpA_snoc, xE_call, xE_callS, xC_C, xC_L, xC_Z, wpC_and, wpC_or, wpC_not, wpC_if, kcmp_0, kcmp_1, kcmp_2, kcmp_3, kcmp_4, kcmp_5, rR_inj, kgO_some, kgO_add, kgO_sub, kgO_mul, kgO_div, kgO_rem, kgO_and, kvI_inl, kvJ_inl, kgI_0, kgI_s, kgR_0, kgR_s, kst_nil, kst_0, kst_s, kNLl_nil, kNLl_i, kNLl_r, kNLl_n, ktag_i, ktag_r, List.length_cons, List.length_nil, List.take_succ_cons, List.take_zero, List.take_nil, List.nil_append, List.cons_append, decide_eq_true_eq, Bool.not_eq_true, Bool.not_eq_true', decide_eq_false_iff_not, ne_eq, Decidable.not_not, true_and, and_true, Nat.reduceAdd, Nat.reduceLeDiff, Nat.reduceEqDiff, Nat.le_refl, not_true_eq_false, not_false_eq_true, reduceIte, eq_self, Int.reduceNeg, Int.reduceEq, Int.reduceLT, Int.reduceLE, Nat.zero_le, Nat.one_ne_zero, ev_model, ev_model_arr, f1]
  rw [hQ1]
  by_cases hh : h < t
  · have hh2 : (h : Int) < t := by omega
    simp only [hh2, decide_true, if_true]
    have hqn := g3.2.2.2.2.1 h hh
    have s86 : s 86 h = q h := (f2 h hh).1
    have s89 : s 89 = σ 89 := hK.1 89 (by decide) (by decide) (by decide) (by decide) (by decide)
    rw [wpS_trunc]
    refine wpS_seq' (fun Q2 hQ2 => ?_)
    simp only [wpS_skip, wpS_break, wpS_cont, wpS_retV, wpS_throw, wpS_seq, wpS_if, wpS_trunc, yS_let, yS_inc, kgK_i, kgK_r, kok_nil, kok_i0, kok_is, kok_r0, kok_rs, kok_n0, kok_ns, xS_put, xS_putOp, xS_ast0, xS_ast1, xS_astOp, wpS_E, wpS_call, wpS_callS, wpS_ret, kThen_N, kThen_B, kThen_C, kThen_R, kThen_T, kNext_N, kNext_C, kNext_B, kNext_R, wpE_K, wpE_KL, xE_I, xE_R, wpE_J, xE_bin, wpE_ladd, wpE_i2l, xE_get, xE_ald0, xE_ald1, wpE_if, xE_max, xE_min, wpE_len, wpA_nil, wpA_snoc, xE_call, xE_callS, xC_C, xC_L, xC_Z, wpC_and, wpC_or, wpC_not, wpC_if, kcmp_0, kcmp_1, kcmp_2, kcmp_3, kcmp_4, kcmp_5, rR_inj, kgO_some, kgO_add, kgO_sub, kgO_mul, kgO_div, kgO_rem, kgO_and, kvI_inl, kvJ_inl, kgI_0, kgI_s, kgR_0, kgR_s, kst_nil, kst_0, kst_s, kNLl_nil, kNLl_i, kNLl_r, kNLl_n, ktag_i, ktag_r, List.length_cons, List.length_nil, List.take_succ_cons, List.take_zero, List.take_nil, List.nil_append, List.cons_append, decide_eq_true_eq, Bool.not_eq_true, Bool.not_eq_true', decide_eq_false_iff_not, ne_eq, Decidable.not_not, true_and, and_true, Nat.reduceAdd, Nat.reduceLeDiff, Nat.reduceEqDiff, Nat.le_refl, not_true_eq_false, not_false_eq_true, reduceIte, eq_self, Int.reduceNeg, Int.reduceEq, Int.reduceLT, Int.reduceLE, Nat.zero_le, Nat.one_ne_zero, ev_model, ev_model_arr, Int.toNat_natCast, s86]
    refine ⟨by omega, ?_⟩
    rw [hQ2]
    refine kThen_N.mpr ?_
    rw [wpS_trunc]
    refine wpS_seq' (fun Q3 hQ3 => ?_)
    simp only [wpS_skip, wpS_break, wpS_cont, wpS_retV, wpS_throw, wpS_seq, wpS_if, wpS_trunc, yS_let, yS_inc, kgK_i, kgK_r, kok_nil, kok_i0, kok_is, kok_r0, kok_rs, kok_n0, kok_ns, xS_put, xS_putOp, xS_ast0, xS_ast1, xS_astOp, wpS_E, wpS_call, wpS_callS, wpS_ret, kThen_N, kThen_B, kThen_C, kThen_R, kThen_T, kNext_N, kNext_C, kNext_B, kNext_R, wpE_K, wpE_KL, xE_I, xE_R, wpE_J, xE_bin, wpE_ladd, wpE_i2l, xE_get, xE_ald0, xE_ald1, wpE_if, xE_max, xE_min, wpE_len, wpA_nil, wpA_snoc, xE_call, xE_callS, xC_C, xC_L, xC_Z, wpC_and, wpC_or, wpC_not, wpC_if, kcmp_0, kcmp_1, kcmp_2, kcmp_3, kcmp_4, kcmp_5, rR_inj, kgO_some, kgO_add, kgO_sub, kgO_mul, kgO_div, kgO_rem, kgO_and, kvI_inl, kvJ_inl, kgI_0, kgI_s, kgR_0, kgR_s, kst_nil, kst_0, kst_s, kNLl_nil, kNLl_i, kNLl_r, kNLl_n, ktag_i, ktag_r, List.length_cons, List.length_nil, List.take_succ_cons, List.take_zero, List.take_nil, List.nil_append, List.cons_append, decide_eq_true_eq, Bool.not_eq_true, Bool.not_eq_true', decide_eq_false_iff_not, ne_eq, Decidable.not_not, true_and, and_true, Nat.reduceAdd, Nat.reduceLeDiff, Nat.reduceEqDiff, Nat.le_refl, not_true_eq_false, not_false_eq_true, reduceIte, eq_self, Int.reduceNeg, Int.reduceEq, Int.reduceLT, Int.reduceLE, Nat.zero_le, Nat.one_ne_zero, ev_model, ev_model_arr, Int.toNat_natCast]
    refine ⟨by omega, ?_⟩
    rw [hQ3]
    refine kThen_N.mpr ((wk3_ok hA hn3 hqn hfr (by omega) (by rw [s89]; exact hc _ hqn) hK ⟨t, q, dp, by', hh, rfl, g3, g4⟩).mono ?_)
    rintro r L1 s1 ⟨rfl, hL, hK1, t1, q1, dp1, by1, c1, c2, c3, c4, c5⟩
    refine kNext_N.mpr ?_
    have hL2 : (L1.take 7).take 6 = [some (.inr (.inl 14)), some (.inl frv), some (.inl so), some (.inl le), some (.inl wi), some (.inl (h : Int))] := by
      rw [List.take_take, show min 6 7 = 6 by decide]; exact hL
    rw [hL2]
    have ht1 := bf_le c3
    refine wpS_gen (fun Q4 hQ4 => ?_)
    simp only [wpS_skip, wpS_break, wpS_cont, wpS_retV, wpS_throw, wpS_seq, wpS_if, wpS_trunc, yS_let, yS_inc, kgK_i, kgK_r, kok_nil, kok_i0, kok_is, kok_r0, kok_rs, kok_n0, kok_ns, xS_put, xS_putOp, xS_ast0, xS_ast1, xS_astOp, wpS_E, wpS_call, wpS_callS, wpS_ret, kThen_N, kThen_B, kThen_C, kThen_R, kThen_T, kNext_N, kNext_C, kNext_B, kNext_R, wpE_K, wpE_KL, xE_I, xE_R, wpE_J, xE_bin, wpE_ladd, wpE_i2l, xE_get, xE_ald0, xE_ald1, wpE_if, xE_max, xE_min, wpE_len, wpA_nil, wpA_snoc, xE_call, xE_callS, xC_C, xC_L, xC_Z, wpC_and, wpC_or, wpC_not, wpC_if, kcmp_0, kcmp_1, kcmp_2, kcmp_3, kcmp_4, kcmp_5, rR_inj, kgO_some, kgO_add, kgO_sub, kgO_mul, kgO_div, kgO_rem, kgO_and, kvI_inl, kvJ_inl, kgI_0, kgI_s, kgR_0, kgR_s, kst_nil, kst_0, kst_s, kNLl_nil, kNLl_i, kNLl_r, kNLl_n, ktag_i, ktag_r, List.length_cons, List.length_nil, List.take_succ_cons, List.take_zero, List.take_nil, List.nil_append, List.cons_append, decide_eq_true_eq, Bool.not_eq_true, Bool.not_eq_true', decide_eq_false_iff_not, ne_eq, Decidable.not_not, true_and, and_true, Nat.reduceAdd, Nat.reduceLeDiff, Nat.reduceEqDiff, Nat.le_refl, not_true_eq_false, not_false_eq_true, reduceIte, eq_self, Int.reduceNeg, Int.reduceEq, Int.reduceLT, Int.reduceLE, Nat.zero_le, Nat.one_ne_zero]
    refine ⟨by omega, ?_⟩
    rw [hQ4]
    exact ⟨rfl, n - (h + 1), by omega, h + 1, t1, q1, dp1, by1, rfl, rfl, hK1, bf_next c3 c1 (fun e he => c5 e (by rw [← c2]; exact he)), c4⟩
  · have hh2 : ¬ (h : Int) < t := by omega
    simp only [hh2, decide_false, if_false, Bool.false_eq_true]
    have : h = t := by omega
    subst this
    exact ⟨trivial, rfl, hK, h, q, dp, by', g3, g4⟩
