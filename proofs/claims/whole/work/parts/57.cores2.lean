/-! THE CLASS'S CORES, all -/
section FC
variable {σ : kS} {n c ar : Nat} {li fs sn : Nat → Nat}
theorem sidesFindCores_ok {N : Nat → Nat → Prop} {St Ne : Nat → Nat} (hn3 : n ≤ 300) (h1n : σ 1 3 = (n : Int)) (hS : Sr σ 45 46 n St Ne) (hNr : nrP n N n St Ne) (hNs : ∀ u v, N u v → N v u) (hNi : ∀ u, ¬ N u u) :
    wpF F_Sides_findCores [.inr (.inl 9)] σ (fun r s => r = none ∧ (∀ o j, o ≠ 47 → o ≠ 49 → o ≠ 50 → s o j = σ o j) ∧ ∀ v, v < n → ∃ k : Nat, s 47 v = (k : Int) ∧ k ≤ 300 ∧ coreIs n N v k) := by
  obtain ⟨hSt, hNe, h18⟩ := id hS
  have top : ∀ v, v < n → ¬ kcr n N n v := by
    intro v hv hcr
    have h1 := (kcr_clo v hcr).2
    have h2 : cntP (fun w => N v w ∧ kcr n N n w) n ≤ cntP (N v) n := cntP_le (fun w _ q => q.1)
    have h3 := cntP_insert (P := N v) hv (hNi v)
    have h4 := @cntP_bound (fun w => N v w ∨ w = v) n
    omega
  unfold F_Sides_findCores
  rw [wpF_kF]
  refine ⟨rfl, rfl, ?_⟩
  unfold s_Sides_findCores
  simp only [List.map_cons, List.map_nil]
  refine wpS_seq' (fun Q0 hQ0 => ?_)
  refine wpS_seq' (fun Q1 hQ1 => ?_)
  unfold l_Sides_findCores_1
  refine wpS_fp (fun i s => (∀ o j, o ≠ 47 → o ≠ 49 → s o j = σ o j) ∧ ∀ v, v < i → s 47 v = -1 ∧ s 49 v = (cntP (N v) n : Int)) 0 n rfl rfl ?_ ?_ ?_ ?_ ?_ ?_
  · simp only [wpS_skip, wpS_break, wpS_cont, wpS_retV, wpS_throw, wpS_seq, wpS_if, wpS_trunc, yS_let, yS_inc, kgK_i, kgK_r, kok_nil, kok_i0, kok_is, kok_r0, kok_rs, kok_n0, kok_ns, xS_put, xS_putOp, xS_ast0, xS_ast1, xS_astOp, wpS_E, wpS_call, wpS_callS, wpS_ret, kThen_N, kThen_B, kThen_C, kThen_R, kThen_T, kNext_N, kNext_C, kNext_B, kNext_R, wpE_K, wpE_KL, xE_I, xE_R, wpE_J, xE_bin, wpE_ladd, wpE_i2l, xE_get, xE_ald0, xE_ald1, wpE_if, xE_max, xE_min, wpE_len, wpA_nil, wpA_snoc, xE_call, xE_callS, xC_C, xC_L, xC_Z, wpC_and, wpC_or, wpC_not, wpC_if, kcmp_0, kcmp_1, kcmp_2, kcmp_3, kcmp_4, kcmp_5, rR_inj, kgO_some, kgO_add, kgO_sub, kgO_mul, kgO_div, kgO_rem, kgO_and, kvI_inl, kvJ_inl, kgI_0, kgI_s, kgR_0, kgR_s, kst_nil, kst_0, kst_s, kNLl_nil, kNLl_i, kNLl_r, kNLl_n, ktag_i, ktag_r, List.length_cons, List.length_nil, List.take_succ_cons, List.take_zero, List.take_nil, List.nil_append, List.cons_append, decide_eq_true_eq, Bool.not_eq_true, Bool.not_eq_true', decide_eq_false_iff_not, ne_eq, Decidable.not_not, true_and, and_true, Nat.reduceAdd, Nat.reduceLeDiff, Nat.reduceEqDiff, Nat.le_refl, not_true_eq_false, not_false_eq_true, reduceIte, eq_self, Int.reduceNeg, Int.reduceEq, Int.reduceLT, Int.reduceLE, Nat.zero_le, Nat.one_ne_zero]; trivial
  · omega
  · exact ⟨fun _ _ _ _ => rfl, fun v hv => by omega⟩
  · rintro i s - - ⟨S1, -⟩
    simp only [wpS_skip, wpS_break, wpS_cont, wpS_retV, wpS_throw, wpS_seq, wpS_if, wpS_trunc, yS_let, yS_inc, kgK_i, kgK_r, kok_nil, kok_i0, kok_is, kok_r0, kok_rs, kok_n0, kok_ns, xS_put, xS_putOp, xS_ast0, xS_ast1, xS_astOp, wpS_E, wpS_call, wpS_callS, wpS_ret, kThen_N, kThen_B, kThen_C, kThen_R, kThen_T, kNext_N, kNext_C, kNext_B, kNext_R, wpE_K, wpE_KL, xE_I, xE_R, wpE_J, xE_bin, wpE_ladd, wpE_i2l, xE_get, xE_ald0, xE_ald1, wpE_if, xE_max, xE_min, wpE_len, wpA_nil, wpA_snoc, xE_call, xE_callS, xC_C, xC_L, xC_Z, wpC_and, wpC_or, wpC_not, wpC_if, kcmp_0, kcmp_1, kcmp_2, kcmp_3, kcmp_4, kcmp_5, rR_inj, kgO_some, kgO_add, kgO_sub, kgO_mul, kgO_div, kgO_rem, kgO_and, kvI_inl, kvJ_inl, kgI_0, kgI_s, kgR_0, kgR_s, kst_nil, kst_0, kst_s, kNLl_nil, kNLl_i, kNLl_r, kNLl_n, ktag_i, ktag_r, List.length_cons, List.length_nil, List.take_succ_cons, List.take_zero, List.take_nil, List.nil_append, List.cons_append, decide_eq_true_eq, Bool.not_eq_true, Bool.not_eq_true', decide_eq_false_iff_not, ne_eq, Decidable.not_not, true_and, and_true, Nat.reduceAdd, Nat.reduceLeDiff, Nat.reduceEqDiff, Nat.le_refl, not_true_eq_false, not_false_eq_true, reduceIte, eq_self, Int.reduceNeg, Int.reduceEq, Int.reduceLT, Int.reduceLE, Nat.zero_le, Nat.one_ne_zero, ev_sides, ev_web, show s 1 3 = (n : Int) by rw [S1 _ _ (by decide) (by decide)]; exact h1n]
  · rintro i s - hi ⟨S1, S2⟩
    refine wpS_gen (fun Q2 hQ2 => ?_)
    have e1 : s 45 i = St i := by rw [S1 _ _ (by decide) (by decide)]; exact hSt i (by omega)
    have e2 : s 45 (i + 1) = St (i + 1) := by rw [S1 _ _ (by decide) (by decide)]; exact hSt (i + 1) (by omega)
    have t1 : ((i : Int) + 1).toNat = i + 1 := by omega
    have hd := hNr.deg hi
    have hb := @cntP_bound (N i) n
    have ez : (St (i + 1) : Int) - St i = (cntP (N i) n : Int) := by omega
    simp only [wpS_skip, wpS_break, wpS_cont, wpS_retV, wpS_throw, wpS_seq, wpS_if, wpS_trunc, yS_let, yS_inc, kgK_i, kgK_r, kok_nil, kok_i0, kok_is, kok_r0, kok_rs, kok_n0, kok_ns, xS_put, xS_putOp, xS_ast0, xS_ast1, xS_astOp, wpS_E, wpS_call, wpS_callS, wpS_ret, kThen_N, kThen_B, kThen_C, kThen_R, kThen_T, kNext_N, kNext_C, kNext_B, kNext_R, wpE_K, wpE_KL, xE_I, xE_R, wpE_J, xE_bin, wpE_ladd, wpE_i2l, xE_get, xE_ald0, xE_ald1, wpE_if, xE_max, xE_min, wpE_len, wpA_nil, wpA_snoc, xE_call, xE_callS, xC_C, xC_L, xC_Z, wpC_and, wpC_or, wpC_not, wpC_if, kcmp_0, kcmp_1, kcmp_2, kcmp_3, kcmp_4, kcmp_5, rR_inj, kgO_some, kgO_add, kgO_sub, kgO_mul, kgO_div, kgO_rem, kgO_and, kvI_inl, kvJ_inl, kgI_0, kgI_s, kgR_0, kgR_s, kst_nil, kst_0, kst_s, kNLl_nil, kNLl_i, kNLl_r, kNLl_n, ktag_i, ktag_r, List.length_cons, List.length_nil, List.take_succ_cons, List.take_zero, List.take_nil, List.nil_append, List.cons_append, decide_eq_true_eq, Bool.not_eq_true, Bool.not_eq_true', decide_eq_false_iff_not, ne_eq, Decidable.not_not, true_and, and_true, Nat.reduceAdd, Nat.reduceLeDiff, Nat.reduceEqDiff, Nat.le_refl, not_true_eq_false, not_false_eq_true, reduceIte, eq_self, Int.reduceNeg, Int.reduceEq, Int.reduceLT, Int.reduceLE, Nat.zero_le, Nat.one_ne_zero, ev_sides, ev_sides_arr, Int.toNat_natCast, t1, e1, e2, ez]
    repeat refine And.intro (by omega) ?_
    rw [hQ2]
    refine kStep_N rfl ⟨rfl, fun o j o1 o2 => by rw [kup_ne o1, kup_ne o2]; exact S1 o j o1 o2, fun v hv => ⟨?_, ?_⟩⟩
    · rw [kup_eq]
      split
      · rfl
      · rw [kup_ne (by decide)]; exact (S2 v (by omega)).1
    · rw [kup_ne (by decide), kup_eq]
      split
      · rename_i e; rw [e]
      · exact (S2 v (by omega)).2
  · rintro s1 ⟨S1, S2⟩
    rw [hQ1]
    refine kThen_N.mpr ?_
    refine wpS_seq' (fun Q101 hQ101 => ?_)
    simp only [wpS_skip, wpS_break, wpS_cont, wpS_retV, wpS_throw, wpS_seq, wpS_if, wpS_trunc, yS_let, yS_inc, kgK_i, kgK_r, kok_nil, kok_i0, kok_is, kok_r0, kok_rs, kok_n0, kok_ns, xS_put, xS_putOp, xS_ast0, xS_ast1, xS_astOp, wpS_E, wpS_call, wpS_callS, wpS_ret, kThen_N, kThen_B, kThen_C, kThen_R, kThen_T, kNext_N, kNext_C, kNext_B, kNext_R, wpE_K, wpE_KL, xE_I, xE_R, wpE_J, xE_bin, wpE_ladd, wpE_i2l, xE_get, xE_ald0, xE_ald1, wpE_if, xE_max, xE_min, wpE_len, wpA_nil, wpA_snoc, xE_call, xE_callS, xC_C, xC_L, xC_Z, wpC_and, wpC_or, wpC_not, wpC_if, kcmp_0, kcmp_1, kcmp_2, kcmp_3, kcmp_4, kcmp_5, rR_inj, kgO_some, kgO_add, kgO_sub, kgO_mul, kgO_div, kgO_rem, kgO_and, kvI_inl, kvJ_inl, kgI_0, kgI_s, kgR_0, kgR_s, kst_nil, kst_0, kst_s, kNLl_nil, kNLl_i, kNLl_r, kNLl_n, ktag_i, ktag_r, List.length_cons, List.length_nil, List.take_succ_cons, List.take_zero, List.take_nil, List.nil_append, List.cons_append, decide_eq_true_eq, Bool.not_eq_true, Bool.not_eq_true', decide_eq_false_iff_not, ne_eq, Decidable.not_not, true_and, and_true, Nat.reduceAdd, Nat.reduceLeDiff, Nat.reduceEqDiff, Nat.le_refl, not_true_eq_false, not_false_eq_true, reduceIte, eq_self, Int.reduceNeg, Int.reduceEq, Int.reduceLT, Int.reduceLE, Nat.zero_le, Nat.one_ne_zero]
    repeat refine And.intro (by omega) ?_
    rw [hQ101]
    clear hQ101 Q101
    refine kThen_N.mpr ?_
    refine wpS_gen (fun Q2 hQ2 => ?_)
    unfold l_Sides_findCores_2
    refine wpS_fortG (fun m P s => P = [some (.inr (.inl 9)), some (.inl (cntP (fun v => ¬ kcr n N m v) n : Int))] ∧ (∀ o j, o ≠ 47 → o ≠ 49 → o ≠ 50 → s o j = σ o j) ∧ (∀ v, v < n → (kcr n N m v → s 47 v = -1) ∧ (¬ kcr n N m v → ∃ k : Nat, s 47 v = (k : Int) ∧ coreIs n N v k)) ∧ (∀ v, v < n → s 49 v = (cntP (fun w => N v w ∧ kcr n N m w) n : Int))) (fun m => ((m + 1 : Nat) : Int)) 300 rfl rfl ?_ ?_ ?_ ?_
    · simp only [wpS_skip, wpS_break, wpS_cont, wpS_retV, wpS_throw, wpS_seq, wpS_if, wpS_trunc, yS_let, yS_inc, kgK_i, kgK_r, kok_nil, kok_i0, kok_is, kok_r0, kok_rs, kok_n0, kok_ns, xS_put, xS_putOp, xS_ast0, xS_ast1, xS_astOp, wpS_E, wpS_call, wpS_callS, wpS_ret, kThen_N, kThen_B, kThen_C, kThen_R, kThen_T, kNext_N, kNext_C, kNext_B, kNext_R, wpE_K, wpE_KL, xE_I, xE_R, wpE_J, xE_bin, wpE_ladd, wpE_i2l, xE_get, xE_ald0, xE_ald1, wpE_if, xE_max, xE_min, wpE_len, wpA_nil, wpA_snoc, xE_call, xE_callS, xC_C, xC_L, xC_Z, wpC_and, wpC_or, wpC_not, wpC_if, kcmp_0, kcmp_1, kcmp_2, kcmp_3, kcmp_4, kcmp_5, rR_inj, kgO_some, kgO_add, kgO_sub, kgO_mul, kgO_div, kgO_rem, kgO_and, kvI_inl, kvJ_inl, kgI_0, kgI_s, kgR_0, kgR_s, kst_nil, kst_0, kst_s, kNLl_nil, kNLl_i, kNLl_r, kNLl_n, ktag_i, ktag_r, List.length_cons, List.length_nil, List.take_succ_cons, List.take_zero, List.take_nil, List.nil_append, List.cons_append, decide_eq_true_eq, Bool.not_eq_true, Bool.not_eq_true', decide_eq_false_iff_not, ne_eq, Decidable.not_not, true_and, and_true, Nat.reduceAdd, Nat.reduceLeDiff, Nat.reduceEqDiff, Nat.le_refl, not_true_eq_false, not_false_eq_true, reduceIte, eq_self, Int.reduceNeg, Int.reduceEq, Int.reduceLT, Int.reduceLE, Nat.zero_le, Nat.one_ne_zero]; trivial
    · refine ⟨?_, fun o j o1 o2 _ => S1 o j o1 o2, fun v hv => ⟨fun _ => (S2 v hv).1, fun h => absurd (kcr_zero hv) h⟩, fun v hv => ?_⟩
      · rw [cntP_zero (fun v hv h => h (kcr_zero hv))]; rfl
      · have e : cntP (N v) n = cntP (fun w => N v w ∧ kcr n N 0 w) n := cntP_congr (fun w hw => ⟨fun q => ⟨q, kcr_zero hw⟩, fun q => q.1⟩)
        rw [(S2 v hv).2, e]
    · rintro m P s ⟨rfl, -⟩; exact ⟨rfl, rfl⟩
    · rintro m P s hm ⟨rfl, T1, T2, T3⟩
      obtain ⟨gn, hgn⟩ : ∃ gn, gn = cntP (fun v => ¬ kcr n N m v) n := ⟨_, rfl⟩
      have hgb := @cntP_bound (fun v => ¬ kcr n N m v) n
      rw [← hgn] at hgb ⊢
      have e13 : s 1 3 = n := by rw [T1 _ _ (by decide) (by decide) (by decide)]; exact h1n
      have fin : (∀ v, v < n → ¬ kcr n N m v) → Q2 rN [some (.inr (.inl 9)), some (.inl (gn : Int))] s := by
        intro hall
        rw [hQ2]
        rw [hQ0]
        refine kThen_N.mpr (wpS_retV.mpr ⟨none, rfl, rfl, ?_⟩)
        refine ⟨rfl, T1, fun v hv => ?_⟩
        obtain ⟨k, k1, k2⟩ := (T2 v hv).2 (hall v hv)
        refine ⟨k, k1, ?_, k2⟩
        rcases Nat.lt_or_ge n k with w | w
        · exact absurd (kcr_anti k2.1 (Nat.le_of_lt w)) (top v hv)
        · omega
      by_cases hc : m < 300 ∧ gn < n
      · have c1 : ((m + 1 : Nat) : Int) ≤ 300 := by omega
        have c2 : (gn : Int) < (n : Int) := by omega
        refine wpC_gen (fun Q3 hQ3 => ?_)
        simp only [wpS_skip, wpS_break, wpS_cont, wpS_retV, wpS_throw, wpS_seq, wpS_if, wpS_trunc, yS_let, yS_inc, kgK_i, kgK_r, kok_nil, kok_i0, kok_is, kok_r0, kok_rs, kok_n0, kok_ns, xS_put, xS_putOp, xS_ast0, xS_ast1, xS_astOp, wpS_E, wpS_call, wpS_callS, wpS_ret, kThen_N, kThen_B, kThen_C, kThen_R, kThen_T, kNext_N, kNext_C, kNext_B, kNext_R, wpE_K, wpE_KL, xE_I, xE_R, wpE_J, xE_bin, wpE_ladd, wpE_i2l, xE_get, xE_ald0, xE_ald1, wpE_if, xE_max, xE_min, wpE_len, wpA_nil, wpA_snoc, xE_call, xE_callS, xC_C, xC_L, xC_Z, wpC_and, wpC_or, wpC_not, wpC_if, kcmp_0, kcmp_1, kcmp_2, kcmp_3, kcmp_4, kcmp_5, rR_inj, kgO_some, kgO_add, kgO_sub, kgO_mul, kgO_div, kgO_rem, kgO_and, kvI_inl, kvJ_inl, kgI_0, kgI_s, kgR_0, kgR_s, kst_nil, kst_0, kst_s, kNLl_nil, kNLl_i, kNLl_r, kNLl_n, ktag_i, ktag_r, List.length_cons, List.length_nil, List.take_succ_cons, List.take_zero, List.take_nil, List.nil_append, List.cons_append, decide_eq_true_eq, Bool.not_eq_true, Bool.not_eq_true', decide_eq_false_iff_not, ne_eq, Decidable.not_not, true_and, and_true, Nat.reduceAdd, Nat.reduceLeDiff, Nat.reduceEqDiff, Nat.le_refl, not_true_eq_false, not_false_eq_true, reduceIte, eq_self, Int.reduceNeg, Int.reduceEq, Int.reduceLT, Int.reduceLE, Nat.zero_le, Nat.one_ne_zero, ev_sides, ev_web, e13, c1, c2, decide_true, decide_false, Bool.false_eq_true, if_true, if_false, true_and, and_true, not_true_eq_false, not_false_eq_true]
        rw [hQ3]
        refine ⟨rfl, Or.inl ⟨rfl, hc.1, by omega, by omega, by omega, ?_⟩⟩
        refine wpS_gen (fun Q4 hQ4 => ?_)
        simp only [wpS_skip, wpS_break, wpS_cont, wpS_retV, wpS_throw, wpS_seq, wpS_if, wpS_trunc, yS_let, yS_inc, kgK_i, kgK_r, kok_nil, kok_i0, kok_is, kok_r0, kok_rs, kok_n0, kok_ns, xS_put, xS_putOp, xS_ast0, xS_ast1, xS_astOp, wpS_E, wpS_call, wpS_callS, wpS_ret, kThen_N, kThen_B, kThen_C, kThen_R, kThen_T, kNext_N, kNext_C, kNext_B, kNext_R, wpE_K, wpE_KL, xE_I, xE_R, wpE_J, xE_bin, wpE_ladd, wpE_i2l, xE_get, xE_ald0, xE_ald1, wpE_if, xE_max, xE_min, wpE_len, wpA_nil, wpA_snoc, xE_call, xE_callS, xC_C, xC_L, xC_Z, wpC_and, wpC_or, wpC_not, wpC_if, kcmp_0, kcmp_1, kcmp_2, kcmp_3, kcmp_4, kcmp_5, rR_inj, kgO_some, kgO_add, kgO_sub, kgO_mul, kgO_div, kgO_rem, kgO_and, kvI_inl, kvJ_inl, kgI_0, kgI_s, kgR_0, kgR_s, kst_nil, kst_0, kst_s, kNLl_nil, kNLl_i, kNLl_r, kNLl_n, ktag_i, ktag_r, List.length_cons, List.length_nil, List.take_succ_cons, List.take_zero, List.take_nil, List.nil_append, List.cons_append, decide_eq_true_eq, Bool.not_eq_true, Bool.not_eq_true', decide_eq_false_iff_not, ne_eq, Decidable.not_not, true_and, and_true, Nat.reduceAdd, Nat.reduceLeDiff, Nat.reduceEqDiff, Nat.le_refl, not_true_eq_false, not_false_eq_true, reduceIte, eq_self, Int.reduceNeg, Int.reduceEq, Int.reduceLT, Int.reduceLE, Nat.zero_le, Nat.one_ne_zero, ev_sides]
        have hSs : Sr s 45 46 n St Ne := ⟨fun v hv => by rw [T1 _ _ (by decide) (by decide) (by decide)]; exact hSt v hv, fun i hi => by rw [T1 _ _ (by decide) (by decide) (by decide)]; exact hNe i hi, h18⟩
        refine (sidesPeel_ok (k := m) hn3 e13 hSs hNr hNs hNi hc.1 (fun v hv => ⟨(T2 v hv).1, fun h => by obtain ⟨k, k1, -⟩ := (T2 v hv).2 h; omega⟩) T3).mono ?_
        rintro r s2 ⟨U1, U2, U3, rfl⟩
        rw [kgO_some, kvI_inl]
        have hsum : gn + cntP (fun v => kcr n N m v ∧ ¬ kcr n N (m + 1) v) n = cntP (fun v => ¬ kcr n N (m + 1) v) n := by
          rw [hgn, ← cntP_sum (P := fun v => ¬ kcr n N m v) (Q := fun v => kcr n N m v ∧ ¬ kcr n N (m + 1) v) (fun v _ q => q.1 q.2.1)]
          exact cntP_congr (fun v _ => ⟨fun q => q.elim (fun q h => q (kcr_anti h (by omega))) (fun q => q.2), fun q => (Classical.em (kcr n N m v)).symm.imp id (fun h => ⟨h, q⟩)⟩)
        have hb2 := @cntP_bound (fun v => ¬ kcr n N (m + 1) v) n
        obtain ⟨dl, hdl⟩ : ∃ dl, dl = cntP (fun v => kcr n N m v ∧ ¬ kcr n N (m + 1) v) n := ⟨_, rfl⟩
        rw [← hdl] at hsum ⊢
        repeat refine And.intro (by omega) ?_
        rw [hQ4]
        refine kStep_N (P := [some (.inr (.inl 9)), some (.inl ((gn : Int) + dl))]) rfl ⟨?_, fun o j o1 o2 o3 => by rw [U1 o j o1 o2 o3]; exact T1 o j o1 o2 o3, fun v hv => ⟨(U2 v hv).1, fun h => ?_⟩, U3⟩
        · rw [← hsum]; rfl
        · by_cases h2 : kcr n N m v
          · exact ⟨m, (U2 v hv).2.1 ⟨h2, h⟩, h2, h⟩
          · rw [(U2 v hv).2.2 h2]; exact (T2 v hv).2 h2
      · have hall : ∀ v, v < n → ¬ kcr n N m v := by
          intro v hv h
          rcases Nat.lt_or_ge m 300 with w | w
          · have h1 := @cntP_not (fun v => ¬ kcr n N m v) n
            have h2 : 0 < cntP (fun v => ¬ ¬ kcr n N m v) n := Nat.lt_of_le_of_lt (Nat.zero_le _) (cntP_lt (P := fun v => ¬ ¬ kcr n N m v) hv (fun q => q h))
            omega
          · exact top v hv (kcr_anti h (by omega))
        by_cases h4 : m < 300
        · have c1 : ((m + 1 : Nat) : Int) ≤ 300 := by omega
          have c2 : ¬ (gn : Int) < (n : Int) := by omega
          refine wpC_gen (fun Q3 hQ3 => ?_)
          simp only [wpS_skip, wpS_break, wpS_cont, wpS_retV, wpS_throw, wpS_seq, wpS_if, wpS_trunc, yS_let, yS_inc, kgK_i, kgK_r, kok_nil, kok_i0, kok_is, kok_r0, kok_rs, kok_n0, kok_ns, xS_put, xS_putOp, xS_ast0, xS_ast1, xS_astOp, wpS_E, wpS_call, wpS_callS, wpS_ret, kThen_N, kThen_B, kThen_C, kThen_R, kThen_T, kNext_N, kNext_C, kNext_B, kNext_R, wpE_K, wpE_KL, xE_I, xE_R, wpE_J, xE_bin, wpE_ladd, wpE_i2l, xE_get, xE_ald0, xE_ald1, wpE_if, xE_max, xE_min, wpE_len, wpA_nil, wpA_snoc, xE_call, xE_callS, xC_C, xC_L, xC_Z, wpC_and, wpC_or, wpC_not, wpC_if, kcmp_0, kcmp_1, kcmp_2, kcmp_3, kcmp_4, kcmp_5, rR_inj, kgO_some, kgO_add, kgO_sub, kgO_mul, kgO_div, kgO_rem, kgO_and, kvI_inl, kvJ_inl, kgI_0, kgI_s, kgR_0, kgR_s, kst_nil, kst_0, kst_s, kNLl_nil, kNLl_i, kNLl_r, kNLl_n, ktag_i, ktag_r, List.length_cons, List.length_nil, List.take_succ_cons, List.take_zero, List.take_nil, List.nil_append, List.cons_append, decide_eq_true_eq, Bool.not_eq_true, Bool.not_eq_true', decide_eq_false_iff_not, ne_eq, Decidable.not_not, true_and, and_true, Nat.reduceAdd, Nat.reduceLeDiff, Nat.reduceEqDiff, Nat.le_refl, not_true_eq_false, not_false_eq_true, reduceIte, eq_self, Int.reduceNeg, Int.reduceEq, Int.reduceLT, Int.reduceLE, Nat.zero_le, Nat.one_ne_zero, ev_sides, ev_web, e13, c1, c2, decide_true, decide_false, Bool.false_eq_true, if_true, if_false, true_and, and_true, not_true_eq_false, not_false_eq_true]
          rw [hQ3]
          exact ⟨rfl, Or.inr ⟨rfl, fin hall⟩⟩
        · have c1 : ¬ ((m + 1 : Nat) : Int) ≤ 300 := by omega
          refine wpC_gen (fun Q3 hQ3 => ?_)
          simp only [wpS_skip, wpS_break, wpS_cont, wpS_retV, wpS_throw, wpS_seq, wpS_if, wpS_trunc, yS_let, yS_inc, kgK_i, kgK_r, kok_nil, kok_i0, kok_is, kok_r0, kok_rs, kok_n0, kok_ns, xS_put, xS_putOp, xS_ast0, xS_ast1, xS_astOp, wpS_E, wpS_call, wpS_callS, wpS_ret, kThen_N, kThen_B, kThen_C, kThen_R, kThen_T, kNext_N, kNext_C, kNext_B, kNext_R, wpE_K, wpE_KL, xE_I, xE_R, wpE_J, xE_bin, wpE_ladd, wpE_i2l, xE_get, xE_ald0, xE_ald1, wpE_if, xE_max, xE_min, wpE_len, wpA_nil, wpA_snoc, xE_call, xE_callS, xC_C, xC_L, xC_Z, wpC_and, wpC_or, wpC_not, wpC_if, kcmp_0, kcmp_1, kcmp_2, kcmp_3, kcmp_4, kcmp_5, rR_inj, kgO_some, kgO_add, kgO_sub, kgO_mul, kgO_div, kgO_rem, kgO_and, kvI_inl, kvJ_inl, kgI_0, kgI_s, kgR_0, kgR_s, kst_nil, kst_0, kst_s, kNLl_nil, kNLl_i, kNLl_r, kNLl_n, ktag_i, ktag_r, List.length_cons, List.length_nil, List.take_succ_cons, List.take_zero, List.take_nil, List.nil_append, List.cons_append, decide_eq_true_eq, Bool.not_eq_true, Bool.not_eq_true', decide_eq_false_iff_not, ne_eq, Decidable.not_not, true_and, and_true, Nat.reduceAdd, Nat.reduceLeDiff, Nat.reduceEqDiff, Nat.le_refl, not_true_eq_false, not_false_eq_true, reduceIte, eq_self, Int.reduceNeg, Int.reduceEq, Int.reduceLT, Int.reduceLE, Nat.zero_le, Nat.one_ne_zero, c1, decide_true, decide_false, Bool.false_eq_true, if_true, if_false, true_and, and_true, not_true_eq_false, not_false_eq_true]
          rw [hQ3]
          exact ⟨rfl, Or.inr ⟨rfl, fin hall⟩⟩
theorem anewFindCores_ok {N : Nat → Nat → Prop} {St Ne : Nat → Nat} (hn3 : n ≤ 300) (h1n : σ 1 3 = (n : Int)) (hS : Sr σ 64 65 n St Ne) (hNr : nrP n N n St Ne) (hNs : ∀ u v, N u v → N v u) (hNi : ∀ u, ¬ N u u) :
    wpF F_Sides_findCores [.inr (.inl 13)] σ (fun r s => r = none ∧ (∀ o j, o ≠ 66 → o ≠ 68 → o ≠ 69 → s o j = σ o j) ∧ ∀ v, v < n → ∃ k : Nat, s 66 v = (k : Int) ∧ k ≤ 300 ∧ coreIs n N v k) := by
  obtain ⟨hSt, hNe, h18⟩ := id hS
  have top : ∀ v, v < n → ¬ kcr n N n v := by
    intro v hv hcr
    have h1 := (kcr_clo v hcr).2
    have h2 : cntP (fun w => N v w ∧ kcr n N n w) n ≤ cntP (N v) n := cntP_le (fun w _ q => q.1)
    have h3 := cntP_insert (P := N v) hv (hNi v)
    have h4 := @cntP_bound (fun w => N v w ∨ w = v) n
    omega
  unfold F_Sides_findCores
  rw [wpF_kF]
  refine ⟨rfl, rfl, ?_⟩
  unfold s_Sides_findCores
  simp only [List.map_cons, List.map_nil]
  refine wpS_seq' (fun Q0 hQ0 => ?_)
  refine wpS_seq' (fun Q1 hQ1 => ?_)
  unfold l_Sides_findCores_1
  refine wpS_fp (fun i s => (∀ o j, o ≠ 66 → o ≠ 68 → s o j = σ o j) ∧ ∀ v, v < i → s 66 v = -1 ∧ s 68 v = (cntP (N v) n : Int)) 0 n rfl rfl ?_ ?_ ?_ ?_ ?_ ?_
  · simp only [wpS_skip, wpS_break, wpS_cont, wpS_retV, wpS_throw, wpS_seq, wpS_if, wpS_trunc, yS_let, yS_inc, kgK_i, kgK_r, kok_nil, kok_i0, kok_is, kok_r0, kok_rs, kok_n0, kok_ns, xS_put, xS_putOp, xS_ast0, xS_ast1, xS_astOp, wpS_E, wpS_call, wpS_callS, wpS_ret, kThen_N, kThen_B, kThen_C, kThen_R, kThen_T, kNext_N, kNext_C, kNext_B, kNext_R, wpE_K, wpE_KL, xE_I, xE_R, wpE_J, xE_bin, wpE_ladd, wpE_i2l, xE_get, xE_ald0, xE_ald1, wpE_if, xE_max, xE_min, wpE_len, wpA_nil, wpA_snoc, xE_call, xE_callS, xC_C, xC_L, xC_Z, wpC_and, wpC_or, wpC_not, wpC_if, kcmp_0, kcmp_1, kcmp_2, kcmp_3, kcmp_4, kcmp_5, rR_inj, kgO_some, kgO_add, kgO_sub, kgO_mul, kgO_div, kgO_rem, kgO_and, kvI_inl, kvJ_inl, kgI_0, kgI_s, kgR_0, kgR_s, kst_nil, kst_0, kst_s, kNLl_nil, kNLl_i, kNLl_r, kNLl_n, ktag_i, ktag_r, List.length_cons, List.length_nil, List.take_succ_cons, List.take_zero, List.take_nil, List.nil_append, List.cons_append, decide_eq_true_eq, Bool.not_eq_true, Bool.not_eq_true', decide_eq_false_iff_not, ne_eq, Decidable.not_not, true_and, and_true, Nat.reduceAdd, Nat.reduceLeDiff, Nat.reduceEqDiff, Nat.le_refl, not_true_eq_false, not_false_eq_true, reduceIte, eq_self, Int.reduceNeg, Int.reduceEq, Int.reduceLT, Int.reduceLE, Nat.zero_le, Nat.one_ne_zero]; trivial
  · omega
  · exact ⟨fun _ _ _ _ => rfl, fun v hv => by omega⟩
  · rintro i s - - ⟨S1, -⟩
    simp only [wpS_skip, wpS_break, wpS_cont, wpS_retV, wpS_throw, wpS_seq, wpS_if, wpS_trunc, yS_let, yS_inc, kgK_i, kgK_r, kok_nil, kok_i0, kok_is, kok_r0, kok_rs, kok_n0, kok_ns, xS_put, xS_putOp, xS_ast0, xS_ast1, xS_astOp, wpS_E, wpS_call, wpS_callS, wpS_ret, kThen_N, kThen_B, kThen_C, kThen_R, kThen_T, kNext_N, kNext_C, kNext_B, kNext_R, wpE_K, wpE_KL, xE_I, xE_R, wpE_J, xE_bin, wpE_ladd, wpE_i2l, xE_get, xE_ald0, xE_ald1, wpE_if, xE_max, xE_min, wpE_len, wpA_nil, wpA_snoc, xE_call, xE_callS, xC_C, xC_L, xC_Z, wpC_and, wpC_or, wpC_not, wpC_if, kcmp_0, kcmp_1, kcmp_2, kcmp_3, kcmp_4, kcmp_5, rR_inj, kgO_some, kgO_add, kgO_sub, kgO_mul, kgO_div, kgO_rem, kgO_and, kvI_inl, kvJ_inl, kgI_0, kgI_s, kgR_0, kgR_s, kst_nil, kst_0, kst_s, kNLl_nil, kNLl_i, kNLl_r, kNLl_n, ktag_i, ktag_r, List.length_cons, List.length_nil, List.take_succ_cons, List.take_zero, List.take_nil, List.nil_append, List.cons_append, decide_eq_true_eq, Bool.not_eq_true, Bool.not_eq_true', decide_eq_false_iff_not, ne_eq, Decidable.not_not, true_and, and_true, Nat.reduceAdd, Nat.reduceLeDiff, Nat.reduceEqDiff, Nat.le_refl, not_true_eq_false, not_false_eq_true, reduceIte, eq_self, Int.reduceNeg, Int.reduceEq, Int.reduceLT, Int.reduceLE, Nat.zero_le, Nat.one_ne_zero, ev_anew, ev_web, show s 1 3 = (n : Int) by rw [S1 _ _ (by decide) (by decide)]; exact h1n]
  · rintro i s - hi ⟨S1, S2⟩
    refine wpS_gen (fun Q2 hQ2 => ?_)
    have e1 : s 64 i = St i := by rw [S1 _ _ (by decide) (by decide)]; exact hSt i (by omega)
    have e2 : s 64 (i + 1) = St (i + 1) := by rw [S1 _ _ (by decide) (by decide)]; exact hSt (i + 1) (by omega)
    have t1 : ((i : Int) + 1).toNat = i + 1 := by omega
    have hd := hNr.deg hi
    have hb := @cntP_bound (N i) n
    have ez : (St (i + 1) : Int) - St i = (cntP (N i) n : Int) := by omega
    simp only [wpS_skip, wpS_break, wpS_cont, wpS_retV, wpS_throw, wpS_seq, wpS_if, wpS_trunc, yS_let, yS_inc, kgK_i, kgK_r, kok_nil, kok_i0, kok_is, kok_r0, kok_rs, kok_n0, kok_ns, xS_put, xS_putOp, xS_ast0, xS_ast1, xS_astOp, wpS_E, wpS_call, wpS_callS, wpS_ret, kThen_N, kThen_B, kThen_C, kThen_R, kThen_T, kNext_N, kNext_C, kNext_B, kNext_R, wpE_K, wpE_KL, xE_I, xE_R, wpE_J, xE_bin, wpE_ladd, wpE_i2l, xE_get, xE_ald0, xE_ald1, wpE_if, xE_max, xE_min, wpE_len, wpA_nil, wpA_snoc, xE_call, xE_callS, xC_C, xC_L, xC_Z, wpC_and, wpC_or, wpC_not, wpC_if, kcmp_0, kcmp_1, kcmp_2, kcmp_3, kcmp_4, kcmp_5, rR_inj, kgO_some, kgO_add, kgO_sub, kgO_mul, kgO_div, kgO_rem, kgO_and, kvI_inl, kvJ_inl, kgI_0, kgI_s, kgR_0, kgR_s, kst_nil, kst_0, kst_s, kNLl_nil, kNLl_i, kNLl_r, kNLl_n, ktag_i, ktag_r, List.length_cons, List.length_nil, List.take_succ_cons, List.take_zero, List.take_nil, List.nil_append, List.cons_append, decide_eq_true_eq, Bool.not_eq_true, Bool.not_eq_true', decide_eq_false_iff_not, ne_eq, Decidable.not_not, true_and, and_true, Nat.reduceAdd, Nat.reduceLeDiff, Nat.reduceEqDiff, Nat.le_refl, not_true_eq_false, not_false_eq_true, reduceIte, eq_self, Int.reduceNeg, Int.reduceEq, Int.reduceLT, Int.reduceLE, Nat.zero_le, Nat.one_ne_zero, ev_anew, ev_anew_arr, Int.toNat_natCast, t1, e1, e2, ez]
    repeat refine And.intro (by omega) ?_
    rw [hQ2]
    refine kStep_N rfl ⟨rfl, fun o j o1 o2 => by rw [kup_ne o1, kup_ne o2]; exact S1 o j o1 o2, fun v hv => ⟨?_, ?_⟩⟩
    · rw [kup_eq]
      split
      · rfl
      · rw [kup_ne (by decide)]; exact (S2 v (by omega)).1
    · rw [kup_ne (by decide), kup_eq]
      split
      · rename_i e; rw [e]
      · exact (S2 v (by omega)).2
  · rintro s1 ⟨S1, S2⟩
    rw [hQ1]
    refine kThen_N.mpr ?_
    refine wpS_seq' (fun Q102 hQ102 => ?_)
    simp only [wpS_skip, wpS_break, wpS_cont, wpS_retV, wpS_throw, wpS_seq, wpS_if, wpS_trunc, yS_let, yS_inc, kgK_i, kgK_r, kok_nil, kok_i0, kok_is, kok_r0, kok_rs, kok_n0, kok_ns, xS_put, xS_putOp, xS_ast0, xS_ast1, xS_astOp, wpS_E, wpS_call, wpS_callS, wpS_ret, kThen_N, kThen_B, kThen_C, kThen_R, kThen_T, kNext_N, kNext_C, kNext_B, kNext_R, wpE_K, wpE_KL, xE_I, xE_R, wpE_J, xE_bin, wpE_ladd, wpE_i2l, xE_get, xE_ald0, xE_ald1, wpE_if, xE_max, xE_min, wpE_len, wpA_nil, wpA_snoc, xE_call, xE_callS, xC_C, xC_L, xC_Z, wpC_and, wpC_or, wpC_not, wpC_if, kcmp_0, kcmp_1, kcmp_2, kcmp_3, kcmp_4, kcmp_5, rR_inj, kgO_some, kgO_add, kgO_sub, kgO_mul, kgO_div, kgO_rem, kgO_and, kvI_inl, kvJ_inl, kgI_0, kgI_s, kgR_0, kgR_s, kst_nil, kst_0, kst_s, kNLl_nil, kNLl_i, kNLl_r, kNLl_n, ktag_i, ktag_r, List.length_cons, List.length_nil, List.take_succ_cons, List.take_zero, List.take_nil, List.nil_append, List.cons_append, decide_eq_true_eq, Bool.not_eq_true, Bool.not_eq_true', decide_eq_false_iff_not, ne_eq, Decidable.not_not, true_and, and_true, Nat.reduceAdd, Nat.reduceLeDiff, Nat.reduceEqDiff, Nat.le_refl, not_true_eq_false, not_false_eq_true, reduceIte, eq_self, Int.reduceNeg, Int.reduceEq, Int.reduceLT, Int.reduceLE, Nat.zero_le, Nat.one_ne_zero]
    repeat refine And.intro (by omega) ?_
    rw [hQ102]
    clear hQ102 Q102
    refine kThen_N.mpr ?_
    refine wpS_gen (fun Q2 hQ2 => ?_)
    unfold l_Sides_findCores_2
    refine wpS_fortG (fun m P s => P = [some (.inr (.inl 13)), some (.inl (cntP (fun v => ¬ kcr n N m v) n : Int))] ∧ (∀ o j, o ≠ 66 → o ≠ 68 → o ≠ 69 → s o j = σ o j) ∧ (∀ v, v < n → (kcr n N m v → s 66 v = -1) ∧ (¬ kcr n N m v → ∃ k : Nat, s 66 v = (k : Int) ∧ coreIs n N v k)) ∧ (∀ v, v < n → s 68 v = (cntP (fun w => N v w ∧ kcr n N m w) n : Int))) (fun m => ((m + 1 : Nat) : Int)) 300 rfl rfl ?_ ?_ ?_ ?_
    · simp only [wpS_skip, wpS_break, wpS_cont, wpS_retV, wpS_throw, wpS_seq, wpS_if, wpS_trunc, yS_let, yS_inc, kgK_i, kgK_r, kok_nil, kok_i0, kok_is, kok_r0, kok_rs, kok_n0, kok_ns, xS_put, xS_putOp, xS_ast0, xS_ast1, xS_astOp, wpS_E, wpS_call, wpS_callS, wpS_ret, kThen_N, kThen_B, kThen_C, kThen_R, kThen_T, kNext_N, kNext_C, kNext_B, kNext_R, wpE_K, wpE_KL, xE_I, xE_R, wpE_J, xE_bin, wpE_ladd, wpE_i2l, xE_get, xE_ald0, xE_ald1, wpE_if, xE_max, xE_min, wpE_len, wpA_nil, wpA_snoc, xE_call, xE_callS, xC_C, xC_L, xC_Z, wpC_and, wpC_or, wpC_not, wpC_if, kcmp_0, kcmp_1, kcmp_2, kcmp_3, kcmp_4, kcmp_5, rR_inj, kgO_some, kgO_add, kgO_sub, kgO_mul, kgO_div, kgO_rem, kgO_and, kvI_inl, kvJ_inl, kgI_0, kgI_s, kgR_0, kgR_s, kst_nil, kst_0, kst_s, kNLl_nil, kNLl_i, kNLl_r, kNLl_n, ktag_i, ktag_r, List.length_cons, List.length_nil, List.take_succ_cons, List.take_zero, List.take_nil, List.nil_append, List.cons_append, decide_eq_true_eq, Bool.not_eq_true, Bool.not_eq_true', decide_eq_false_iff_not, ne_eq, Decidable.not_not, true_and, and_true, Nat.reduceAdd, Nat.reduceLeDiff, Nat.reduceEqDiff, Nat.le_refl, not_true_eq_false, not_false_eq_true, reduceIte, eq_self, Int.reduceNeg, Int.reduceEq, Int.reduceLT, Int.reduceLE, Nat.zero_le, Nat.one_ne_zero]; trivial
    · refine ⟨?_, fun o j o1 o2 _ => S1 o j o1 o2, fun v hv => ⟨fun _ => (S2 v hv).1, fun h => absurd (kcr_zero hv) h⟩, fun v hv => ?_⟩
      · rw [cntP_zero (fun v hv h => h (kcr_zero hv))]; rfl
      · have e : cntP (N v) n = cntP (fun w => N v w ∧ kcr n N 0 w) n := cntP_congr (fun w hw => ⟨fun q => ⟨q, kcr_zero hw⟩, fun q => q.1⟩)
        rw [(S2 v hv).2, e]
    · rintro m P s ⟨rfl, -⟩; exact ⟨rfl, rfl⟩
    · rintro m P s hm ⟨rfl, T1, T2, T3⟩
      obtain ⟨gn, hgn⟩ : ∃ gn, gn = cntP (fun v => ¬ kcr n N m v) n := ⟨_, rfl⟩
      have hgb := @cntP_bound (fun v => ¬ kcr n N m v) n
      rw [← hgn] at hgb ⊢
      have e13 : s 1 3 = n := by rw [T1 _ _ (by decide) (by decide) (by decide)]; exact h1n
      have fin : (∀ v, v < n → ¬ kcr n N m v) → Q2 rN [some (.inr (.inl 13)), some (.inl (gn : Int))] s := by
        intro hall
        rw [hQ2]
        rw [hQ0]
        refine kThen_N.mpr (wpS_retV.mpr ⟨none, rfl, rfl, ?_⟩)
        refine ⟨rfl, T1, fun v hv => ?_⟩
        obtain ⟨k, k1, k2⟩ := (T2 v hv).2 (hall v hv)
        refine ⟨k, k1, ?_, k2⟩
        rcases Nat.lt_or_ge n k with w | w
        · exact absurd (kcr_anti k2.1 (Nat.le_of_lt w)) (top v hv)
        · omega
      by_cases hc : m < 300 ∧ gn < n
      · have c1 : ((m + 1 : Nat) : Int) ≤ 300 := by omega
        have c2 : (gn : Int) < (n : Int) := by omega
        refine wpC_gen (fun Q3 hQ3 => ?_)
        simp only [wpS_skip, wpS_break, wpS_cont, wpS_retV, wpS_throw, wpS_seq, wpS_if, wpS_trunc, yS_let, yS_inc, kgK_i, kgK_r, kok_nil, kok_i0, kok_is, kok_r0, kok_rs, kok_n0, kok_ns, xS_put, xS_putOp, xS_ast0, xS_ast1, xS_astOp, wpS_E, wpS_call, wpS_callS, wpS_ret, kThen_N, kThen_B, kThen_C, kThen_R, kThen_T, kNext_N, kNext_C, kNext_B, kNext_R, wpE_K, wpE_KL, xE_I, xE_R, wpE_J, xE_bin, wpE_ladd, wpE_i2l, xE_get, xE_ald0, xE_ald1, wpE_if, xE_max, xE_min, wpE_len, wpA_nil, wpA_snoc, xE_call, xE_callS, xC_C, xC_L, xC_Z, wpC_and, wpC_or, wpC_not, wpC_if, kcmp_0, kcmp_1, kcmp_2, kcmp_3, kcmp_4, kcmp_5, rR_inj, kgO_some, kgO_add, kgO_sub, kgO_mul, kgO_div, kgO_rem, kgO_and, kvI_inl, kvJ_inl, kgI_0, kgI_s, kgR_0, kgR_s, kst_nil, kst_0, kst_s, kNLl_nil, kNLl_i, kNLl_r, kNLl_n, ktag_i, ktag_r, List.length_cons, List.length_nil, List.take_succ_cons, List.take_zero, List.take_nil, List.nil_append, List.cons_append, decide_eq_true_eq, Bool.not_eq_true, Bool.not_eq_true', decide_eq_false_iff_not, ne_eq, Decidable.not_not, true_and, and_true, Nat.reduceAdd, Nat.reduceLeDiff, Nat.reduceEqDiff, Nat.le_refl, not_true_eq_false, not_false_eq_true, reduceIte, eq_self, Int.reduceNeg, Int.reduceEq, Int.reduceLT, Int.reduceLE, Nat.zero_le, Nat.one_ne_zero, ev_anew, ev_web, e13, c1, c2, decide_true, decide_false, Bool.false_eq_true, if_true, if_false, true_and, and_true, not_true_eq_false, not_false_eq_true]
        rw [hQ3]
        refine ⟨rfl, Or.inl ⟨rfl, hc.1, by omega, by omega, by omega, ?_⟩⟩
        refine wpS_gen (fun Q4 hQ4 => ?_)
        simp only [wpS_skip, wpS_break, wpS_cont, wpS_retV, wpS_throw, wpS_seq, wpS_if, wpS_trunc, yS_let, yS_inc, kgK_i, kgK_r, kok_nil, kok_i0, kok_is, kok_r0, kok_rs, kok_n0, kok_ns, xS_put, xS_putOp, xS_ast0, xS_ast1, xS_astOp, wpS_E, wpS_call, wpS_callS, wpS_ret, kThen_N, kThen_B, kThen_C, kThen_R, kThen_T, kNext_N, kNext_C, kNext_B, kNext_R, wpE_K, wpE_KL, xE_I, xE_R, wpE_J, xE_bin, wpE_ladd, wpE_i2l, xE_get, xE_ald0, xE_ald1, wpE_if, xE_max, xE_min, wpE_len, wpA_nil, wpA_snoc, xE_call, xE_callS, xC_C, xC_L, xC_Z, wpC_and, wpC_or, wpC_not, wpC_if, kcmp_0, kcmp_1, kcmp_2, kcmp_3, kcmp_4, kcmp_5, rR_inj, kgO_some, kgO_add, kgO_sub, kgO_mul, kgO_div, kgO_rem, kgO_and, kvI_inl, kvJ_inl, kgI_0, kgI_s, kgR_0, kgR_s, kst_nil, kst_0, kst_s, kNLl_nil, kNLl_i, kNLl_r, kNLl_n, ktag_i, ktag_r, List.length_cons, List.length_nil, List.take_succ_cons, List.take_zero, List.take_nil, List.nil_append, List.cons_append, decide_eq_true_eq, Bool.not_eq_true, Bool.not_eq_true', decide_eq_false_iff_not, ne_eq, Decidable.not_not, true_and, and_true, Nat.reduceAdd, Nat.reduceLeDiff, Nat.reduceEqDiff, Nat.le_refl, not_true_eq_false, not_false_eq_true, reduceIte, eq_self, Int.reduceNeg, Int.reduceEq, Int.reduceLT, Int.reduceLE, Nat.zero_le, Nat.one_ne_zero, ev_anew]
        have hSs : Sr s 64 65 n St Ne := ⟨fun v hv => by rw [T1 _ _ (by decide) (by decide) (by decide)]; exact hSt v hv, fun i hi => by rw [T1 _ _ (by decide) (by decide) (by decide)]; exact hNe i hi, h18⟩
        refine (anewPeel_ok (k := m) hn3 e13 hSs hNr hNs hNi hc.1 (fun v hv => ⟨(T2 v hv).1, fun h => by obtain ⟨k, k1, -⟩ := (T2 v hv).2 h; omega⟩) T3).mono ?_
        rintro r s2 ⟨U1, U2, U3, rfl⟩
        rw [kgO_some, kvI_inl]
        have hsum : gn + cntP (fun v => kcr n N m v ∧ ¬ kcr n N (m + 1) v) n = cntP (fun v => ¬ kcr n N (m + 1) v) n := by
          rw [hgn, ← cntP_sum (P := fun v => ¬ kcr n N m v) (Q := fun v => kcr n N m v ∧ ¬ kcr n N (m + 1) v) (fun v _ q => q.1 q.2.1)]
          exact cntP_congr (fun v _ => ⟨fun q => q.elim (fun q h => q (kcr_anti h (by omega))) (fun q => q.2), fun q => (Classical.em (kcr n N m v)).symm.imp id (fun h => ⟨h, q⟩)⟩)
        have hb2 := @cntP_bound (fun v => ¬ kcr n N (m + 1) v) n
        obtain ⟨dl, hdl⟩ : ∃ dl, dl = cntP (fun v => kcr n N m v ∧ ¬ kcr n N (m + 1) v) n := ⟨_, rfl⟩
        rw [← hdl] at hsum ⊢
        repeat refine And.intro (by omega) ?_
        rw [hQ4]
        refine kStep_N (P := [some (.inr (.inl 13)), some (.inl ((gn : Int) + dl))]) rfl ⟨?_, fun o j o1 o2 o3 => by rw [U1 o j o1 o2 o3]; exact T1 o j o1 o2 o3, fun v hv => ⟨(U2 v hv).1, fun h => ?_⟩, U3⟩
        · rw [← hsum]; rfl
        · by_cases h2 : kcr n N m v
          · exact ⟨m, (U2 v hv).2.1 ⟨h2, h⟩, h2, h⟩
          · rw [(U2 v hv).2.2 h2]; exact (T2 v hv).2 h2
      · have hall : ∀ v, v < n → ¬ kcr n N m v := by
          intro v hv h
          rcases Nat.lt_or_ge m 300 with w | w
          · have h1 := @cntP_not (fun v => ¬ kcr n N m v) n
            have h2 : 0 < cntP (fun v => ¬ ¬ kcr n N m v) n := Nat.lt_of_le_of_lt (Nat.zero_le _) (cntP_lt (P := fun v => ¬ ¬ kcr n N m v) hv (fun q => q h))
            omega
          · exact top v hv (kcr_anti h (by omega))
        by_cases h4 : m < 300
        · have c1 : ((m + 1 : Nat) : Int) ≤ 300 := by omega
          have c2 : ¬ (gn : Int) < (n : Int) := by omega
          refine wpC_gen (fun Q3 hQ3 => ?_)
          simp only [wpS_skip, wpS_break, wpS_cont, wpS_retV, wpS_throw, wpS_seq, wpS_if, wpS_trunc, yS_let, yS_inc, kgK_i, kgK_r, kok_nil, kok_i0, kok_is, kok_r0, kok_rs, kok_n0, kok_ns, xS_put, xS_putOp, xS_ast0, xS_ast1, xS_astOp, wpS_E, wpS_call, wpS_callS, wpS_ret, kThen_N, kThen_B, kThen_C, kThen_R, kThen_T, kNext_N, kNext_C, kNext_B, kNext_R, wpE_K, wpE_KL, xE_I, xE_R, wpE_J, xE_bin, wpE_ladd, wpE_i2l, xE_get, xE_ald0, xE_ald1, wpE_if, xE_max, xE_min, wpE_len, wpA_nil, wpA_snoc, xE_call, xE_callS, xC_C, xC_L, xC_Z, wpC_and, wpC_or, wpC_not, wpC_if, kcmp_0, kcmp_1, kcmp_2, kcmp_3, kcmp_4, kcmp_5, rR_inj, kgO_some, kgO_add, kgO_sub, kgO_mul, kgO_div, kgO_rem, kgO_and, kvI_inl, kvJ_inl, kgI_0, kgI_s, kgR_0, kgR_s, kst_nil, kst_0, kst_s, kNLl_nil, kNLl_i, kNLl_r, kNLl_n, ktag_i, ktag_r, List.length_cons, List.length_nil, List.take_succ_cons, List.take_zero, List.take_nil, List.nil_append, List.cons_append, decide_eq_true_eq, Bool.not_eq_true, Bool.not_eq_true', decide_eq_false_iff_not, ne_eq, Decidable.not_not, true_and, and_true, Nat.reduceAdd, Nat.reduceLeDiff, Nat.reduceEqDiff, Nat.le_refl, not_true_eq_false, not_false_eq_true, reduceIte, eq_self, Int.reduceNeg, Int.reduceEq, Int.reduceLT, Int.reduceLE, Nat.zero_le, Nat.one_ne_zero, ev_anew, ev_web, e13, c1, c2, decide_true, decide_false, Bool.false_eq_true, if_true, if_false, true_and, and_true, not_true_eq_false, not_false_eq_true]
          rw [hQ3]
          exact ⟨rfl, Or.inr ⟨rfl, fin hall⟩⟩
        · have c1 : ¬ ((m + 1 : Nat) : Int) ≤ 300 := by omega
          refine wpC_gen (fun Q3 hQ3 => ?_)
          simp only [wpS_skip, wpS_break, wpS_cont, wpS_retV, wpS_throw, wpS_seq, wpS_if, wpS_trunc, yS_let, yS_inc, kgK_i, kgK_r, kok_nil, kok_i0, kok_is, kok_r0, kok_rs, kok_n0, kok_ns, xS_put, xS_putOp, xS_ast0, xS_ast1, xS_astOp, wpS_E, wpS_call, wpS_callS, wpS_ret, kThen_N, kThen_B, kThen_C, kThen_R, kThen_T, kNext_N, kNext_C, kNext_B, kNext_R, wpE_K, wpE_KL, xE_I, xE_R, wpE_J, xE_bin, wpE_ladd, wpE_i2l, xE_get, xE_ald0, xE_ald1, wpE_if, xE_max, xE_min, wpE_len, wpA_nil, wpA_snoc, xE_call, xE_callS, xC_C, xC_L, xC_Z, wpC_and, wpC_or, wpC_not, wpC_if, kcmp_0, kcmp_1, kcmp_2, kcmp_3, kcmp_4, kcmp_5, rR_inj, kgO_some, kgO_add, kgO_sub, kgO_mul, kgO_div, kgO_rem, kgO_and, kvI_inl, kvJ_inl, kgI_0, kgI_s, kgR_0, kgR_s, kst_nil, kst_0, kst_s, kNLl_nil, kNLl_i, kNLl_r, kNLl_n, ktag_i, ktag_r, List.length_cons, List.length_nil, List.take_succ_cons, List.take_zero, List.take_nil, List.nil_append, List.cons_append, decide_eq_true_eq, Bool.not_eq_true, Bool.not_eq_true', decide_eq_false_iff_not, ne_eq, Decidable.not_not, true_and, and_true, Nat.reduceAdd, Nat.reduceLeDiff, Nat.reduceEqDiff, Nat.le_refl, not_true_eq_false, not_false_eq_true, reduceIte, eq_self, Int.reduceNeg, Int.reduceEq, Int.reduceLT, Int.reduceLE, Nat.zero_le, Nat.one_ne_zero, c1, decide_true, decide_false, Bool.false_eq_true, if_true, if_false, true_and, and_true, not_true_eq_false, not_false_eq_true]
          rw [hQ3]
          exact ⟨rfl, Or.inr ⟨rfl, fin hall⟩⟩
end FC
/-! SUMS -/
def sumR (f : Nat → Nat) : Nat → Nat
  | 0 => 0
  | n + 1 => sumR f n + f n
theorem sumR_congr {f g : Nat → Nat} {n : Nat} (h : ∀ i, i < n → f i = g i) : sumR f n = sumR g n := by
  induction n with
  | zero => rfl
  | succ n ih => show sumR f n + f n = sumR g n + g n; rw [ih (fun i hi => h i (by omega)), h n (by omega)]
theorem sumR_zero {f : Nat → Nat} {n : Nat} (h : ∀ i, i < n → f i = 0) : sumR f n = 0 := by
  induction n with
  | zero => rfl
  | succ n ih => show sumR f n + f n = 0; rw [ih (fun i hi => h i (by omega)), h n (by omega)]
theorem sumR_le {f : Nat → Nat} {n b : Nat} (h : ∀ i, i < n → f i ≤ b) : sumR f n ≤ n * b := by
  induction n with
  | zero => exact Nat.zero_le _
  | succ n ih =>
    have := ih (fun i hi => h i (by omega))
    have := h n (by omega)
    show sumR f n + f n ≤ (n + 1) * b
    rw [Nat.succ_mul]; omega
noncomputable def iteP (P : Prop) (x : Nat) : Nat := @ite _ P (Classical.propDecidable _) x 0
theorem iteP_pos {P : Prop} {x : Nat} (h : P) : iteP P x = x := by unfold iteP; rw [if_pos h]
theorem iteP_neg {P : Prop} {x : Nat} (h : ¬ P) : iteP P x = 0 := by unfold iteP; rw [if_neg h]
theorem iteP_congr {P Q : Prop} {x : Nat} (h : P ↔ Q) : iteP P x = iteP Q x := by rw [propext h]
theorem sumR_drop {P : Nat → Prop} {f : Nat → Nat} {n a : Nat} (ha : a < n) (hp : P a) : sumR (fun v => iteP (P v) (f v)) n = sumR (fun v => iteP (P v ∧ v ≠ a) (f v)) n + f a := by
  induction n with
  | zero => omega
  | succ n ih =>
    show sumR (fun v => iteP (P v) (f v)) n + iteP (P n) (f n) = sumR (fun v => iteP (P v ∧ v ≠ a) (f v)) n + iteP (P n ∧ n ≠ a) (f n) + f a
    by_cases e : a = n
    · subst e
      rw [iteP_pos hp, iteP_neg (fun q => q.2 rfl), sumR_congr (g := fun v => iteP (P v ∧ v ≠ a) (f v)) (fun i hi => iteP_congr ⟨fun q => ⟨q, by omega⟩, fun q => q.1⟩)]
      omega
    · have h1 := ih (by omega)
      rw [h1, iteP_congr (P := P n) (Q := P n ∧ n ≠ a) ⟨fun q => ⟨q, fun z => e z.symm⟩, fun q => q.1⟩]
      omega
theorem sumR_row {P : Nat → Prop} {f : Nat → Nat} {n : Nat} {q : Nat → Nat} : ∀ {t : Nat}, (∀ i, i < t → q i < n ∧ P (q i)) → (∀ i j, i < t → j < t → q i = q j → i = j) → (∀ v, v < n → P v → ∃ i, i < t ∧ q i = v) → sumR (fun i => f (q i)) t = sumR (fun v => iteP (P v) (f v)) n := by
  intro t
  induction t generalizing P with
  | zero =>
    intro h1 h2 h3
    rw [sumR_zero (f := fun v => iteP (P v) (f v)) (fun v hv => iteP_neg (fun p => by obtain ⟨i, hi, -⟩ := h3 v hv p; omega))]
    rfl
  | succ t ih =>
    intro h1 h2 h3
    rw [sumR_drop (h1 t (by omega)).1 (h1 t (by omega)).2]
    show sumR (fun i => f (q i)) t + f (q t) = _
    rw [ih (P := fun v => P v ∧ v ≠ q t) (fun i hi => ⟨(h1 i (by omega)).1, (h1 i (by omega)).2, fun e => by have := h2 i t (by omega) (by omega) e; omega⟩) (fun i j hi hj e => h2 i j (by omega) (by omega) e) (fun v hv hp => by
      obtain ⟨i, hi, hq⟩ := h3 v hv hp.1
      refine ⟨i, ?_, hq⟩
      rcases Nat.lt_or_ge i t with h | h
      · exact h
      · have : i = t := by omega
        subst this
        exact absurd hq.symm hp.2)]
theorem cntP_sumR {P : Nat → Prop} {n : Nat} : cntP P n = sumR (fun v => iteP (P v) 1) n := by
  induction n with
  | zero => rfl
  | succ n ih => show cntP P n + _ = sumR _ n + iteP (P n) 1; rw [ih]; rfl
/-- counting along a row that has all of a set -/
theorem cntP_rowP {P G : Nat → Prop} {n t : Nat} {q : Nat → Nat} (h1 : ∀ i, i < t → q i < n ∧ P (q i)) (h2 : ∀ i j, i < t → j < t → q i = q j → i = j) (h3 : ∀ v, v < n → P v → ∃ i, i < t ∧ q i = v) : cntP (fun i => G (q i)) t = cntP (fun v => P v ∧ G v) n := by
  rw [cntP_sumR, cntP_sumR, sumR_row (f := fun v => iteP (G v) 1) h1 h2 h3]
  refine sumR_congr (fun v _ => ?_)
  by_cases p : P v
  · rw [iteP_pos p]; exact iteP_congr ⟨fun g => ⟨p, g⟩, fun g => g.2⟩
  · rw [iteP_neg p, iteP_neg (fun g => p g.1)]
/-- how many triangles there are -/
noncomputable def tri (n : Nat) (N : Nat → Nat → Prop) : Nat := sumR (fun a => sumR (fun b => iteP (a < b ∧ N a b) (cntP (fun c => b < c ∧ N a c ∧ N b c) n)) n) n
