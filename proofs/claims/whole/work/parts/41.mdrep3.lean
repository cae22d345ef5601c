/-! THE REFERENCE'S replace, whole -/
theorem mdReplace_ok {σ : kS} {n c ar x0 : Nat} {li fs sn lv : Nat → Nat} {tr lo : Nat → Int} (hG : gOk n c ar li fs sn) (hM : RM σ n c ar li fs sn lv tr lo) (hb : ∀ x, th c li x → lv x ≤ 5000) (hb0 : lv x0 ≤ 5000) (hx0 : x0 < 5000) (ha : fs x0 < n) (hb1 : sn x0 < n)
    (hS : Sg n (th c li) fs sn lv tr (fs x0) (sn x0) (lv x0 + 1)) :
    wpF F_Md_replace [.inr (.inl 14), .inl (x0 : Int)] σ (fun r s => r = none ∧ (∀ o k, o ≠ 73 → o ≠ 74 → ¬ mSd o k → s o k = σ o k) ∧ (∀ x, s 73 x = ((mnd n c li fs sn (fs x0) (sn x0) (lv x0 + 1) lv tr).1 x : Int)) ∧ (∀ x, s 74 x = (mnd n c li fs sn (fs x0) (sn x0) (lv x0 + 1) lv tr).2 x)) := by
  have hn3 := hG.1
  obtain ⟨w1, w2, w3, w4, w5, w6, w7, w8, w9, w10⟩ := id hM
  obtain ⟨res, hres⟩ : ∃ res, res = mnd n c li fs sn (fs x0) (sn x0) (lv x0 + 1) lv tr := ⟨_, rfl⟩
  rw [← hres]
  have e73 := w7 x0
  unfold F_Md_replace
  rw [wpF_kF]
  refine ⟨rfl, rfl, ?_⟩
  unfold s_Md_replace
  simp only [List.map_cons, List.map_nil]
  refine wpS_seq' (fun Q0 hQ0 => ?_)
  refine wpS_gen (fun Q1 hQ1 => ?_)
  unfold l_Md_replace_5
  refine wpS_fortG (fun m P s => ∃ (lm : Nat → Nat), P = [some (.inr (.inl 14)), some (.inl (x0 : Int))] ∧ (∀ o k, o ≠ 73 → ¬ mSd o k → s o k = σ o k) ∧ (∀ x, s 73 x = (lm x : Int)) ∧ (∀ x, lm x ≤ lv x + m) ∧
    Sg n (th c li) fs sn lm tr (fs x0) (sn x0) (lv x0 + 1 - m) ∧ mnd n c li fs sn (fs x0) (sn x0) (lv x0 + 1 - m) lm tr = res) (fun m => (lv x0 : Int) - m) (lv x0 + 1) rfl rfl ?_ ?_ ?_ ?_
  · simp only [wpS_skip, wpS_break, wpS_cont, wpS_retV, wpS_throw, wpS_seq, wpS_if, wpS_trunc, yS_let, yS_inc, kgK_i, kgK_r, kok_nil, kok_i0, kok_is, kok_r0, kok_rs, kok_n0, kok_ns, xS_put, xS_putOp, xS_ast0, xS_ast1, xS_astOp, wpS_E, wpS_call, wpS_callS, wpS_ret, kThen_N, kThen_B, kThen_C, kThen_R, kThen_T, kNext_N, kNext_C, kNext_B, kNext_R, wpE_K, wpE_KL, xE_I, xE_R, wpE_J, xE_bin, wpE_ladd, wpE_i2l, xE_get, xE_ald0, xE_ald1, wpE_if, xE_max, xE_min, wpE_len, wpA_nil, wpA_snoc, xE_call, xE_callS, xC_C, xC_L, xC_Z, wpC_and, wpC_or, wpC_not, wpC_if, kcmp_0, kcmp_1, kcmp_2, kcmp_3, kcmp_4, kcmp_5, rR_inj, kgO_some, kgO_add, kgO_sub, kgO_mul, kgO_div, kgO_rem, kgO_and, kvI_inl, kvJ_inl, kgI_0, kgI_s, kgR_0, kgR_s, kst_nil, kst_0, kst_s, kNLl_nil, kNLl_i, kNLl_r, kNLl_n, ktag_i, ktag_r, List.length_cons, List.length_nil, List.take_succ_cons, List.take_zero, List.take_nil, List.nil_append, List.cons_append, decide_eq_true_eq, Bool.not_eq_true, Bool.not_eq_true', decide_eq_false_iff_not, ne_eq, Decidable.not_not, true_and, and_true, Nat.reduceAdd, Nat.reduceLeDiff, Nat.reduceEqDiff, Nat.le_refl, not_true_eq_false, not_false_eq_true, reduceIte, eq_self, Int.reduceNeg, Int.reduceEq, Int.reduceLT, Int.reduceLE, Nat.zero_le, Nat.one_ne_zero, ev_model, ev_model_arr, Int.toNat_natCast, e73]
    refine ⟨by omega, ?_⟩
    simp
  · exact ⟨lv, rfl, fun _ _ _ _ => rfl, w7, fun x => Nat.le_refl _, hS, hres.symm⟩
  · rintro m P s ⟨lm, rfl, -⟩; exact ⟨rfl, rfl⟩
  · rintro m P s hm ⟨lm, rfl, S1, S2, S3, hSg, hmn⟩
    rcases Nat.lt_or_ge m (lv x0 + 1) with hlt | hlt
    · have c1 : (0 : Int) ≤ (lv x0 : Int) - m := by omega
      refine wpC_gen (fun Q2 hQ2 => ?_)
      simp only [wpS_skip, wpS_break, wpS_cont, wpS_retV, wpS_throw, wpS_seq, wpS_if, wpS_trunc, yS_let, yS_inc, kgK_i, kgK_r, kok_nil, kok_i0, kok_is, kok_r0, kok_rs, kok_n0, kok_ns, xS_put, xS_putOp, xS_ast0, xS_ast1, xS_astOp, wpS_E, wpS_call, wpS_callS, wpS_ret, kThen_N, kThen_B, kThen_C, kThen_R, kThen_T, kNext_N, kNext_C, kNext_B, kNext_R, wpE_K, wpE_KL, xE_I, xE_R, wpE_J, xE_bin, wpE_ladd, wpE_i2l, xE_get, xE_ald0, xE_ald1, wpE_if, xE_max, xE_min, wpE_len, wpA_nil, wpA_snoc, xE_call, xE_callS, xC_C, xC_L, xC_Z, wpC_and, wpC_or, wpC_not, wpC_if, kcmp_0, kcmp_1, kcmp_2, kcmp_3, kcmp_4, kcmp_5, rR_inj, kgO_some, kgO_add, kgO_sub, kgO_mul, kgO_div, kgO_rem, kgO_and, kvI_inl, kvJ_inl, kgI_0, kgI_s, kgR_0, kgR_s, kst_nil, kst_0, kst_s, kNLl_nil, kNLl_i, kNLl_r, kNLl_n, ktag_i, ktag_r, List.length_cons, List.length_nil, List.take_succ_cons, List.take_zero, List.take_nil, List.nil_append, List.cons_append, decide_eq_true_eq, Bool.not_eq_true, Bool.not_eq_true', decide_eq_false_iff_not, ne_eq, Decidable.not_not, true_and, and_true, Nat.reduceAdd, Nat.reduceLeDiff, Nat.reduceEqDiff, Nat.le_refl, not_true_eq_false, not_false_eq_true, reduceIte, eq_self, Int.reduceNeg, Int.reduceEq, Int.reduceLT, Int.reduceLE, Nat.zero_le, Nat.one_ne_zero, c1, decide_true, decide_false, Bool.false_eq_true, if_true, if_false, true_and, and_true, not_true_eq_false, not_false_eq_true]
      rw [hQ2]
      refine ⟨rfl, Or.inl ⟨by simp, by omega, by omega, by omega, by omega, ?_⟩⟩
      obtain ⟨i, hi⟩ : ∃ i, lv x0 + 1 - m = i + 1 := ⟨lv x0 - m, by omega⟩
      have hiz : (lv x0 : Int) - m = (i : Int) := by omega
      have hi2 : lv x0 + 1 - (m + 1) = i := by omega
      rw [hi] at hSg hmn
      rw [hiz, hi2]
      have hcut := hSg.2.1
      have hMs : RM s n c ar li fs sn lm tr lo := by
        have : ∀ o k, o ≠ 73 → (71 ≤ o ∧ o ≤ 77) ∨ (o = 14 ∧ k < 16) → s o k = σ o k := fun o k h1 h2 => S1 o k h1 (by unfold mSd; omega)
        exact ⟨by rw [this _ _ (by decide) (by omega)]; exact w1, by rw [this _ _ (by decide) (by omega)]; exact w2, by rw [this _ _ (by decide) (by omega)]; exact w3, fun k hk => by rw [this _ _ (by decide) (by omega)]; exact w4 k hk, fun x => by rw [this _ _ (by decide) (by omega)]; exact w5 x, fun x => by rw [this _ _ (by decide) (by omega)]; exact w6 x, S2, fun x => by rw [this _ _ (by decide) (by omega)]; exact w8 x, fun x => by rw [this _ _ (by decide) (by omega)]; exact w9 x, fun x hx => by rw [this _ _ (by decide) (by omega)]; exact w10 x hx⟩
      rw [wpS_trunc]
      -- the first side
      have f71 := hMs.2.2.2.2.1 x0
      refine wpS_seq' (fun Q101 hQ101 => ?_)
      simp only [wpS_skip, wpS_break, wpS_cont, wpS_retV, wpS_throw, wpS_seq, wpS_if, wpS_trunc, yS_let, yS_inc, kgK_i, kgK_r, kok_nil, kok_i0, kok_is, kok_r0, kok_rs, kok_n0, kok_ns, xS_put, xS_putOp, xS_ast0, xS_ast1, xS_astOp, wpS_E, wpS_call, wpS_callS, wpS_ret, kThen_N, kThen_B, kThen_C, kThen_R, kThen_T, kNext_N, kNext_C, kNext_B, kNext_R, wpE_K, wpE_KL, xE_I, xE_R, wpE_J, xE_bin, wpE_ladd, wpE_i2l, xE_get, xE_ald0, xE_ald1, wpE_if, xE_max, xE_min, wpE_len, wpA_nil, wpA_snoc, xE_call, xE_callS, xC_C, xC_L, xC_Z, wpC_and, wpC_or, wpC_not, wpC_if, kcmp_0, kcmp_1, kcmp_2, kcmp_3, kcmp_4, kcmp_5, rR_inj, kgO_some, kgO_add, kgO_sub, kgO_mul, kgO_div, kgO_rem, kgO_and, kvI_inl, kvJ_inl, kgI_0, kgI_s, kgR_0, kgR_s, kst_nil, kst_0, kst_s, kNLl_nil, kNLl_i, kNLl_r, kNLl_n, ktag_i, ktag_r, List.length_cons, List.length_nil, List.take_succ_cons, List.take_zero, List.take_nil, List.nil_append, List.cons_append, decide_eq_true_eq, Bool.not_eq_true, Bool.not_eq_true', decide_eq_false_iff_not, ne_eq, Decidable.not_not, true_and, and_true, Nat.reduceAdd, Nat.reduceLeDiff, Nat.reduceEqDiff, Nat.le_refl, not_true_eq_false, not_false_eq_true, reduceIte, eq_self, Int.reduceNeg, Int.reduceEq, Int.reduceLT, Int.reduceLE, Nat.zero_le, Nat.one_ne_zero, ev_model, ev_model_arr, Int.toNat_natCast, f71]
      refine ⟨by omega, ?_⟩
      refine (walkSee_ok hG (hMs.Mg hG) ha (mE_tree hMs)).mono ?_
      rintro r s1 ⟨rfl, k1, ⟨a1, a2, -, a4⟩, -⟩
      refine ⟨rfl, ?_⟩
      rw [hQ101]
      clear hQ101
      refine kThen_N.mpr ?_
      have K1 := k1.sJ
      refine wpS_seq' (fun Q102 hQ102 => ?_)
      simp only [wpS_skip, wpS_break, wpS_cont, wpS_retV, wpS_throw, wpS_seq, wpS_if, wpS_trunc, yS_let, yS_inc, kgK_i, kgK_r, kok_nil, kok_i0, kok_is, kok_r0, kok_rs, kok_n0, kok_ns, xS_put, xS_putOp, xS_ast0, xS_ast1, xS_astOp, wpS_E, wpS_call, wpS_callS, wpS_ret, kThen_N, kThen_B, kThen_C, kThen_R, kThen_T, kNext_N, kNext_C, kNext_B, kNext_R, wpE_K, wpE_KL, xE_I, xE_R, wpE_J, xE_bin, wpE_ladd, wpE_i2l, xE_get, xE_ald0, xE_ald1, wpE_if, xE_max, xE_min, wpE_len, wpA_nil, wpA_snoc, xE_call, xE_callS, xC_C, xC_L, xC_Z, wpC_and, wpC_or, wpC_not, wpC_if, kcmp_0, kcmp_1, kcmp_2, kcmp_3, kcmp_4, kcmp_5, rR_inj, kgO_some, kgO_add, kgO_sub, kgO_mul, kgO_div, kgO_rem, kgO_and, kvI_inl, kvJ_inl, kgI_0, kgI_s, kgR_0, kgR_s, kst_nil, kst_0, kst_s, kNLl_nil, kNLl_i, kNLl_r, kNLl_n, ktag_i, ktag_r, List.length_cons, List.length_nil, List.take_succ_cons, List.take_zero, List.take_nil, List.nil_append, List.cons_append, decide_eq_true_eq, Bool.not_eq_true, Bool.not_eq_true', decide_eq_false_iff_not, ne_eq, Decidable.not_not, true_and, and_true, Nat.reduceAdd, Nat.reduceLeDiff, Nat.reduceEqDiff, Nat.le_refl, not_true_eq_false, not_false_eq_true, reduceIte, eq_self, Int.reduceNeg, Int.reduceEq, Int.reduceLT, Int.reduceLE, Nat.zero_le, Nat.one_ne_zero, ev_model, a2]
      repeat refine And.intro (by omega) ?_
      rw [hQ102]
      clear hQ102 Q102
      refine kThen_N.mpr ?_
      refine wpS_seq' (fun Q3 hQ3 => ?_)
      have M1 := hMs.keep K1.sK
      unfold l_Md_replace_1
      refine wpS_fp (fun j s2 => (∀ o k, o ≠ 94 → s2 o k = s1 o k) ∧ ∀ v, v < j → s2 94 v = s1 85 v) 0 n rfl rfl ?_ ?_ ?_ ?_ ?_ ?_
      · simp only [wpS_skip, wpS_break, wpS_cont, wpS_retV, wpS_throw, wpS_seq, wpS_if, wpS_trunc, yS_let, yS_inc, kgK_i, kgK_r, kok_nil, kok_i0, kok_is, kok_r0, kok_rs, kok_n0, kok_ns, xS_put, xS_putOp, xS_ast0, xS_ast1, xS_astOp, wpS_E, wpS_call, wpS_callS, wpS_ret, kThen_N, kThen_B, kThen_C, kThen_R, kThen_T, kNext_N, kNext_C, kNext_B, kNext_R, wpE_K, wpE_KL, xE_I, xE_R, wpE_J, xE_bin, wpE_ladd, wpE_i2l, xE_get, xE_ald0, xE_ald1, wpE_if, xE_max, xE_min, wpE_len, wpA_nil, wpA_snoc, xE_call, xE_callS, xC_C, xC_L, xC_Z, wpC_and, wpC_or, wpC_not, wpC_if, kcmp_0, kcmp_1, kcmp_2, kcmp_3, kcmp_4, kcmp_5, rR_inj, kgO_some, kgO_add, kgO_sub, kgO_mul, kgO_div, kgO_rem, kgO_and, kvI_inl, kvJ_inl, kgI_0, kgI_s, kgR_0, kgR_s, kst_nil, kst_0, kst_s, kNLl_nil, kNLl_i, kNLl_r, kNLl_n, ktag_i, ktag_r, List.length_cons, List.length_nil, List.take_succ_cons, List.take_zero, List.take_nil, List.nil_append, List.cons_append, decide_eq_true_eq, Bool.not_eq_true, Bool.not_eq_true', decide_eq_false_iff_not, ne_eq, Decidable.not_not, true_and, and_true, Nat.reduceAdd, Nat.reduceLeDiff, Nat.reduceEqDiff, Nat.le_refl, not_true_eq_false, not_false_eq_true, reduceIte, eq_self, Int.reduceNeg, Int.reduceEq, Int.reduceLT, Int.reduceLE, Nat.zero_le, Nat.one_ne_zero]; trivial
      · omega
      · exact ⟨fun _ _ _ => rfl, fun v hv => by omega⟩
      · rintro j s2 h0 h1 ⟨q1, q2⟩
        simp only [wpS_skip, wpS_break, wpS_cont, wpS_retV, wpS_throw, wpS_seq, wpS_if, wpS_trunc, yS_let, yS_inc, kgK_i, kgK_r, kok_nil, kok_i0, kok_is, kok_r0, kok_rs, kok_n0, kok_ns, xS_put, xS_putOp, xS_ast0, xS_ast1, xS_astOp, wpS_E, wpS_call, wpS_callS, wpS_ret, kThen_N, kThen_B, kThen_C, kThen_R, kThen_T, kNext_N, kNext_C, kNext_B, kNext_R, wpE_K, wpE_KL, xE_I, xE_R, wpE_J, xE_bin, wpE_ladd, wpE_i2l, xE_get, xE_ald0, xE_ald1, wpE_if, xE_max, xE_min, wpE_len, wpA_nil, wpA_snoc, xE_call, xE_callS, xC_C, xC_L, xC_Z, wpC_and, wpC_or, wpC_not, wpC_if, kcmp_0, kcmp_1, kcmp_2, kcmp_3, kcmp_4, kcmp_5, rR_inj, kgO_some, kgO_add, kgO_sub, kgO_mul, kgO_div, kgO_rem, kgO_and, kvI_inl, kvJ_inl, kgI_0, kgI_s, kgR_0, kgR_s, kst_nil, kst_0, kst_s, kNLl_nil, kNLl_i, kNLl_r, kNLl_n, ktag_i, ktag_r, List.length_cons, List.length_nil, List.take_succ_cons, List.take_zero, List.take_nil, List.nil_append, List.cons_append, decide_eq_true_eq, Bool.not_eq_true, Bool.not_eq_true', decide_eq_false_iff_not, ne_eq, Decidable.not_not, true_and, and_true, Nat.reduceAdd, Nat.reduceLeDiff, Nat.reduceEqDiff, Nat.le_refl, not_true_eq_false, not_false_eq_true, reduceIte, eq_self, Int.reduceNeg, Int.reduceEq, Int.reduceLT, Int.reduceLE, Nat.zero_le, Nat.one_ne_zero, ev_model, show s2 14 1 = (n : Int) by rw [q1 _ _ (by decide)]; exact M1.1]
      · rintro j s2 h0 h1 ⟨q1, q2⟩
        refine wpS_gen (fun Q4 hQ4 => ?_)
        have e85 : s2 85 j = s1 85 j := q1 _ _ (by decide)
        have z85 := (a1 j h1).1
        simp only [wpS_skip, wpS_break, wpS_cont, wpS_retV, wpS_throw, wpS_seq, wpS_if, wpS_trunc, yS_let, yS_inc, kgK_i, kgK_r, kok_nil, kok_i0, kok_is, kok_r0, kok_rs, kok_n0, kok_ns, xS_put, xS_putOp, xS_ast0, xS_ast1, xS_astOp, wpS_E, wpS_call, wpS_callS, wpS_ret, kThen_N, kThen_B, kThen_C, kThen_R, kThen_T, kNext_N, kNext_C, kNext_B, kNext_R, wpE_K, wpE_KL, xE_I, xE_R, wpE_J, xE_bin, wpE_ladd, wpE_i2l, xE_get, xE_ald0, xE_ald1, wpE_if, xE_max, xE_min, wpE_len, wpA_nil, wpA_snoc, xE_call, xE_callS, xC_C, xC_L, xC_Z, wpC_and, wpC_or, wpC_not, wpC_if, kcmp_0, kcmp_1, kcmp_2, kcmp_3, kcmp_4, kcmp_5, rR_inj, kgO_some, kgO_add, kgO_sub, kgO_mul, kgO_div, kgO_rem, kgO_and, kvI_inl, kvJ_inl, kgI_0, kgI_s, kgR_0, kgR_s, kst_nil, kst_0, kst_s, kNLl_nil, kNLl_i, kNLl_r, kNLl_n, ktag_i, ktag_r, List.length_cons, List.length_nil, List.take_succ_cons, List.take_zero, List.take_nil, List.nil_append, List.cons_append, decide_eq_true_eq, Bool.not_eq_true, Bool.not_eq_true', decide_eq_false_iff_not, ne_eq, Decidable.not_not, true_and, and_true, Nat.reduceAdd, Nat.reduceLeDiff, Nat.reduceEqDiff, Nat.le_refl, not_true_eq_false, not_false_eq_true, reduceIte, eq_self, Int.reduceNeg, Int.reduceEq, Int.reduceLT, Int.reduceLE, Nat.zero_le, Nat.one_ne_zero, ev_model, ev_model_arr, Int.toNat_natCast, e85]
        repeat refine And.intro (by omega) ?_
        rw [hQ4]
        refine kStep_N rfl ⟨rfl, fun o k ho => by rw [kup_ne ho]; exact q1 o k ho, fun v hv => ?_⟩
        rw [kup_eq]
        split
        · rename_i e; rw [e]
        · exact q2 v (by omega)
      · rintro s2 ⟨q1, q2⟩
        rw [hQ3]
        refine kThen_N.mpr ?_
        have K2 : sJ s s2 := K1.trans (fun o k ho => q1 o k (by unfold mSd at ho; omega))
        have M2 := hMs.keep K2.sK
        have f72 := M2.2.2.2.2.2.1 x0
        refine wpS_seq' (fun Q103 hQ103 => ?_)
        simp only [wpS_skip, wpS_break, wpS_cont, wpS_retV, wpS_throw, wpS_seq, wpS_if, wpS_trunc, yS_let, yS_inc, kgK_i, kgK_r, kok_nil, kok_i0, kok_is, kok_r0, kok_rs, kok_n0, kok_ns, xS_put, xS_putOp, xS_ast0, xS_ast1, xS_astOp, wpS_E, wpS_call, wpS_callS, wpS_ret, kThen_N, kThen_B, kThen_C, kThen_R, kThen_T, kNext_N, kNext_C, kNext_B, kNext_R, wpE_K, wpE_KL, xE_I, xE_R, wpE_J, xE_bin, wpE_ladd, wpE_i2l, xE_get, xE_ald0, xE_ald1, wpE_if, xE_max, xE_min, wpE_len, wpA_nil, wpA_snoc, xE_call, xE_callS, xC_C, xC_L, xC_Z, wpC_and, wpC_or, wpC_not, wpC_if, kcmp_0, kcmp_1, kcmp_2, kcmp_3, kcmp_4, kcmp_5, rR_inj, kgO_some, kgO_add, kgO_sub, kgO_mul, kgO_div, kgO_rem, kgO_and, kvI_inl, kvJ_inl, kgI_0, kgI_s, kgR_0, kgR_s, kst_nil, kst_0, kst_s, kNLl_nil, kNLl_i, kNLl_r, kNLl_n, ktag_i, ktag_r, List.length_cons, List.length_nil, List.take_succ_cons, List.take_zero, List.take_nil, List.nil_append, List.cons_append, decide_eq_true_eq, Bool.not_eq_true, Bool.not_eq_true', decide_eq_false_iff_not, ne_eq, Decidable.not_not, true_and, and_true, Nat.reduceAdd, Nat.reduceLeDiff, Nat.reduceEqDiff, Nat.le_refl, not_true_eq_false, not_false_eq_true, reduceIte, eq_self, Int.reduceNeg, Int.reduceEq, Int.reduceLT, Int.reduceLE, Nat.zero_le, Nat.one_ne_zero, ev_model, ev_model_arr, Int.toNat_natCast, f72]
        refine ⟨by omega, ?_⟩
        refine (walkSee_ok hG (M2.Mg hG) hb1 (mE_tree M2)).mono ?_
        rintro r s3 ⟨rfl, k3, ⟨b1, b2, -, b4⟩, -⟩
        refine ⟨rfl, ?_⟩
        rw [hQ103]
        clear hQ103
        refine kThen_N.mpr ?_
        have K3 := K2.trans k3.sJ
        have M3 := hMs.keep K3.sK
        have e94 : ∀ v, v < n → s3 94 v = s1 85 v := fun v hv => by rw [k3.1 94 (by omega) (by decide)]; exact q2 v hv
        obtain ⟨cA, hcA⟩ : ∃ cA, cA = cntP (rch (uE (fun x => th c li x ∧ tA lm tr (i : Int) x) fs sn) (fs x0)) n := ⟨_, rfl⟩
        obtain ⟨cB, hcB⟩ : ∃ cB, cB = cntP (rch (uE (fun x => th c li x ∧ tA lm tr (i : Int) x) fs sn) (sn x0)) n := ⟨_, rfl⟩
        rw [← hcA]
        rw [← hcB] at b2
        obtain ⟨L, hL⟩ : ∃ L, L = sd (th c li) fs sn lm tr i (lesS n (th c li) fs sn lm tr (fs x0) (sn x0) i) := ⟨_, rfl⟩
        obtain ⟨R, hR⟩ : ∃ R, R = sd (th c li) fs sn lm tr i (othS n (th c li) fs sn lm tr (fs x0) (sn x0) i) := ⟨_, rfl⟩
        -- which side is the lesser one
        obtain ⟨sec, hsec, hsec2, hLs, hRs⟩ : ∃ sec : Int, (sec = 0 ∨ sec = 1) ∧ (sec = if (cB : Int) < (cA : Int) then 1 else 0) ∧ (∀ v, v < n → (L v ↔ (if sec = 0 then s1 85 v else s3 85 v) ≠ 0)) ∧ (∀ v, v < n → (R v ↔ (if sec = 0 then s3 85 v else s1 85 v) ≠ 0)) := by
          have xa : ∀ v, v < n → (s1 85 v ≠ 0 ↔ sd (th c li) fs sn lm tr i (fs x0) v) := fun v hv => by
            obtain ⟨c1, c2⟩ := a1 v hv
            exact ⟨fun q => c2.mp (by omega), fun q => by have := c2.mpr q; omega⟩
          have xb : ∀ v, v < n → (s3 85 v ≠ 0 ↔ sd (th c li) fs sn lm tr i (sn x0) v) := fun v hv => by
            obtain ⟨c1, c2⟩ := b1 v hv
            exact ⟨fun q => c2.mp (by omega), fun q => by have := c2.mpr q; omega⟩
          by_cases q : cA ≤ cB
          · have q' : cntP (sd (th c li) fs sn lm tr i (fs x0)) n ≤ cntP (sd (th c li) fs sn lm tr i (sn x0)) n := by rw [hcA, hcB] at q; exact q
            refine ⟨0, Or.inl rfl, by rw [if_neg (by omega)], fun v hv => ?_, fun v hv => ?_⟩
            · rw [hL, if_pos rfl]; unfold lesS; rw [if_pos q']; exact (xa v hv).symm
            · rw [hR, if_pos rfl]; unfold othS; rw [if_pos q']; exact (xb v hv).symm
          · have q' : ¬ cntP (sd (th c li) fs sn lm tr i (fs x0)) n ≤ cntP (sd (th c li) fs sn lm tr i (sn x0)) n := by rw [hcA, hcB] at q; exact q
            refine ⟨1, Or.inr rfl, by rw [if_pos (by omega)], fun v hv => ?_, fun v hv => ?_⟩
            · rw [hL, if_neg (by decide)]; unfold lesS; rw [if_neg q']; exact (xb v hv).symm
            · rw [hR, if_neg (by decide)]; unfold othS; rw [if_neg q']; exact (xa v hv).symm
        refine wpS_seq' (fun Q5 hQ5 => ?_)
        have step5 : Q5 rN [some (.inr (.inl 14)), some (.inl (x0 : Int)), some (.inl (i : Int)), some (.inl (cA : Int)), some (.inl sec)] s3 := by
          rw [hQ5]
          refine kThen_N.mpr ?_
          refine wpS_seq' (fun Q6 hQ6 => ?_)
          unfold l_Md_replace_2
          refine wpS_fp (fun j s4 => (∀ o k, o ≠ 95 → o ≠ 96 → s4 o k = s3 o k) ∧ ∀ v, v < j → s4 95 v = (if sec = 0 then s1 85 v else s3 85 v) ∧ s4 96 v = (if sec = 0 then s3 85 v else s1 85 v)) 0 n rfl rfl ?_ ?_ ?_ ?_ ?_ ?_
          · simp only [wpS_skip, wpS_break, wpS_cont, wpS_retV, wpS_throw, wpS_seq, wpS_if, wpS_trunc, yS_let, yS_inc, kgK_i, kgK_r, kok_nil, kok_i0, kok_is, kok_r0, kok_rs, kok_n0, kok_ns, xS_put, xS_putOp, xS_ast0, xS_ast1, xS_astOp, wpS_E, wpS_call, wpS_callS, wpS_ret, kThen_N, kThen_B, kThen_C, kThen_R, kThen_T, kNext_N, kNext_C, kNext_B, kNext_R, wpE_K, wpE_KL, xE_I, xE_R, wpE_J, xE_bin, wpE_ladd, wpE_i2l, xE_get, xE_ald0, xE_ald1, wpE_if, xE_max, xE_min, wpE_len, wpA_nil, wpA_snoc, xE_call, xE_callS, xC_C, xC_L, xC_Z, wpC_and, wpC_or, wpC_not, wpC_if, kcmp_0, kcmp_1, kcmp_2, kcmp_3, kcmp_4, kcmp_5, rR_inj, kgO_some, kgO_add, kgO_sub, kgO_mul, kgO_div, kgO_rem, kgO_and, kvI_inl, kvJ_inl, kgI_0, kgI_s, kgR_0, kgR_s, kst_nil, kst_0, kst_s, kNLl_nil, kNLl_i, kNLl_r, kNLl_n, ktag_i, ktag_r, List.length_cons, List.length_nil, List.take_succ_cons, List.take_zero, List.take_nil, List.nil_append, List.cons_append, decide_eq_true_eq, Bool.not_eq_true, Bool.not_eq_true', decide_eq_false_iff_not, ne_eq, Decidable.not_not, true_and, and_true, Nat.reduceAdd, Nat.reduceLeDiff, Nat.reduceEqDiff, Nat.le_refl, not_true_eq_false, not_false_eq_true, reduceIte, eq_self, Int.reduceNeg, Int.reduceEq, Int.reduceLT, Int.reduceLE, Nat.zero_le, Nat.one_ne_zero]; trivial
          · omega
          · exact ⟨fun _ _ _ _ => rfl, fun v hv => by omega⟩
          · rintro j s4 h0 h1 ⟨q1, q2⟩
            simp only [wpS_skip, wpS_break, wpS_cont, wpS_retV, wpS_throw, wpS_seq, wpS_if, wpS_trunc, yS_let, yS_inc, kgK_i, kgK_r, kok_nil, kok_i0, kok_is, kok_r0, kok_rs, kok_n0, kok_ns, xS_put, xS_putOp, xS_ast0, xS_ast1, xS_astOp, wpS_E, wpS_call, wpS_callS, wpS_ret, kThen_N, kThen_B, kThen_C, kThen_R, kThen_T, kNext_N, kNext_C, kNext_B, kNext_R, wpE_K, wpE_KL, xE_I, xE_R, wpE_J, xE_bin, wpE_ladd, wpE_i2l, xE_get, xE_ald0, xE_ald1, wpE_if, xE_max, xE_min, wpE_len, wpA_nil, wpA_snoc, xE_call, xE_callS, xC_C, xC_L, xC_Z, wpC_and, wpC_or, wpC_not, wpC_if, kcmp_0, kcmp_1, kcmp_2, kcmp_3, kcmp_4, kcmp_5, rR_inj, kgO_some, kgO_add, kgO_sub, kgO_mul, kgO_div, kgO_rem, kgO_and, kvI_inl, kvJ_inl, kgI_0, kgI_s, kgR_0, kgR_s, kst_nil, kst_0, kst_s, kNLl_nil, kNLl_i, kNLl_r, kNLl_n, ktag_i, ktag_r, List.length_cons, List.length_nil, List.take_succ_cons, List.take_zero, List.take_nil, List.nil_append, List.cons_append, decide_eq_true_eq, Bool.not_eq_true, Bool.not_eq_true', decide_eq_false_iff_not, ne_eq, Decidable.not_not, true_and, and_true, Nat.reduceAdd, Nat.reduceLeDiff, Nat.reduceEqDiff, Nat.le_refl, not_true_eq_false, not_false_eq_true, reduceIte, eq_self, Int.reduceNeg, Int.reduceEq, Int.reduceLT, Int.reduceLE, Nat.zero_le, Nat.one_ne_zero, ev_model, show s4 14 1 = (n : Int) by rw [q1 _ _ (by decide) (by decide)]; exact M3.1]
          · rintro j s4 h0 h1 ⟨q1, q2⟩
            refine wpS_gen (fun Q7 hQ7 => ?_)
            have d85 : s4 85 j = s3 85 j := q1 _ _ (by decide) (by decide)
            have d94 : s4 94 j = s1 85 j := by rw [q1 _ _ (by decide) (by decide)]; exact e94 j h1
            have z85 := (a1 j h1).1
            have z85' := (b1 j h1).1
            have fin : ∀ s', s' = kup (kup s4 95 j (if sec = 0 then s1 85 j else s3 85 j)) 96 j (if sec = 0 then s3 85 j else s1 85 j) → Q7 rN [some (.inr (.inl 14)), some (.inl (x0 : Int)), some (.inl (i : Int)), some (.inl (cA : Int)), some (.inl sec), some (.inl (j : Int))] s' := by
              rintro s' rfl
              rw [hQ7]
              refine kStep_N rfl ⟨rfl, fun o k o1 o2 => by rw [kup_ne o2, kup_ne o1]; exact q1 o k o1 o2, fun v hv => ⟨?_, ?_⟩⟩
              · rw [kup_ne (by decide), kup_eq]
                by_cases e : v = j
                · rw [if_pos e, e]
                · rw [if_neg e]; exact (q2 v (by omega)).1
              · rw [kup_eq]
                by_cases e : v = j
                · rw [if_pos e, e]
                · rw [if_neg e, kup_ne (by decide)]; exact (q2 v (by omega)).2
            rcases hsec with rfl | rfl
            · simp only [wpS_skip, wpS_break, wpS_cont, wpS_retV, wpS_throw, wpS_seq, wpS_if, wpS_trunc, yS_let, yS_inc, kgK_i, kgK_r, kok_nil, kok_i0, kok_is, kok_r0, kok_rs, kok_n0, kok_ns, xS_put, xS_putOp, xS_ast0, xS_ast1, xS_astOp, wpS_E, wpS_call, wpS_callS, wpS_ret, kThen_N, kThen_B, kThen_C, kThen_R, kThen_T, kNext_N, kNext_C, kNext_B, kNext_R, wpE_K, wpE_KL, xE_I, xE_R, wpE_J, xE_bin, wpE_ladd, wpE_i2l, xE_get, xE_ald0, xE_ald1, wpE_if, xE_max, xE_min, wpE_len, wpA_nil, wpA_snoc, xE_call, xE_callS, xC_C, xC_L, xC_Z, wpC_and, wpC_or, wpC_not, wpC_if, kcmp_0, kcmp_1, kcmp_2, kcmp_3, kcmp_4, kcmp_5, rR_inj, kgO_some, kgO_add, kgO_sub, kgO_mul, kgO_div, kgO_rem, kgO_and, kvI_inl, kvJ_inl, kgI_0, kgI_s, kgR_0, kgR_s, kst_nil, kst_0, kst_s, kNLl_nil, kNLl_i, kNLl_r, kNLl_n, ktag_i, ktag_r, List.length_cons, List.length_nil, List.take_succ_cons, List.take_zero, List.take_nil, List.nil_append, List.cons_append, decide_eq_true_eq, Bool.not_eq_true, Bool.not_eq_true', decide_eq_false_iff_not, ne_eq, Decidable.not_not, true_and, and_true, Nat.reduceAdd, Nat.reduceLeDiff, Nat.reduceEqDiff, Nat.le_refl, not_true_eq_false, not_false_eq_true, reduceIte, eq_self, Int.reduceNeg, Int.reduceEq, Int.reduceLT, Int.reduceLE, Nat.zero_le, Nat.one_ne_zero, ev_model, ev_model_arr, Int.toNat_natCast, d85, d94, kup_ne, ne_eq, Nat.reduceEqDiff, not_false_eq_true, not_true_eq_false, decide_true, decide_false, Bool.false_eq_true, if_true, if_false, true_and, and_true, not_true_eq_false, not_false_eq_true]
              repeat refine And.intro (by omega) ?_
              exact fin _ rfl
            · simp only [wpS_skip, wpS_break, wpS_cont, wpS_retV, wpS_throw, wpS_seq, wpS_if, wpS_trunc, yS_let, yS_inc, kgK_i, kgK_r, kok_nil, kok_i0, kok_is, kok_r0, kok_rs, kok_n0, kok_ns, xS_put, xS_putOp, xS_ast0, xS_ast1, xS_astOp, wpS_E, wpS_call, wpS_callS, wpS_ret, kThen_N, kThen_B, kThen_C, kThen_R, kThen_T, kNext_N, kNext_C, kNext_B, kNext_R, wpE_K, wpE_KL, xE_I, xE_R, wpE_J, xE_bin, wpE_ladd, wpE_i2l, xE_get, xE_ald0, xE_ald1, wpE_if, xE_max, xE_min, wpE_len, wpA_nil, wpA_snoc, xE_call, xE_callS, xC_C, xC_L, xC_Z, wpC_and, wpC_or, wpC_not, wpC_if, kcmp_0, kcmp_1, kcmp_2, kcmp_3, kcmp_4, kcmp_5, rR_inj, kgO_some, kgO_add, kgO_sub, kgO_mul, kgO_div, kgO_rem, kgO_and, kvI_inl, kvJ_inl, kgI_0, kgI_s, kgR_0, kgR_s, kst_nil, kst_0, kst_s, kNLl_nil, kNLl_i, kNLl_r, kNLl_n, ktag_i, ktag_r, List.length_cons, List.length_nil, List.take_succ_cons, List.take_zero, List.take_nil, List.nil_append, List.cons_append, decide_eq_true_eq, Bool.not_eq_true, Bool.not_eq_true', decide_eq_false_iff_not, ne_eq, Decidable.not_not, true_and, and_true, Nat.reduceAdd, Nat.reduceLeDiff, Nat.reduceEqDiff, Nat.le_refl, not_true_eq_false, not_false_eq_true, reduceIte, eq_self, Int.reduceNeg, Int.reduceEq, Int.reduceLT, Int.reduceLE, Nat.zero_le, Nat.one_ne_zero, ev_model, ev_model_arr, Int.toNat_natCast, d85, d94, kup_ne, ne_eq, Nat.reduceEqDiff, not_false_eq_true, not_true_eq_false, decide_true, decide_false, Bool.false_eq_true, if_true, if_false, true_and, and_true, not_true_eq_false, not_false_eq_true]
              repeat refine And.intro (by omega) ?_
              exact fin _ rfl
          · rintro s4 ⟨q3, q4⟩
            rw [hQ6]
            refine kThen_N.mpr ?_
            have K4 : sJ s s4 := K3.trans (fun o k ho => q3 o k (by unfold mSd at ho; omega) (by unfold mSd at ho; omega))
            have M4 := hMs.keep K4.sK
            have hlmb : ∀ x, th c li x → lm x ≤ 100000 := fun x hx => by have := S3 x; have := hb x hx; omega
            refine wpS_seq' (fun Q8 hQ8 => ?_)
            refine mdRaise_ok (L := L) hG M4 hlmb (fun v hv => by rw [(q4 v hv).1]; exact hLs v hv) (fun s5 u1 u2 => ?_)
            rw [hQ8]
            refine kThen_N.mpr ?_
            have M5 : RM s5 n c ar li fs sn (rse (th c li) fs sn lm tr L i) tr lo := by
              obtain ⟨y1, y2, y3, y4, y5, y6, y7, y8, y9, y10⟩ := M4
              exact ⟨by rw [u1 _ _ (by decide)]; exact y1, by rw [u1 _ _ (by decide)]; exact y2, by rw [u1 _ _ (by decide)]; exact y3, fun k hk => by rw [u1 _ _ (by decide)]; exact y4 k hk, fun x => by rw [u1 _ _ (by decide)]; exact y5 x, fun x => by rw [u1 _ _ (by decide)]; exact y6 x, u2, fun x => by rw [u1 _ _ (by decide)]; exact y8 x, fun x => by rw [u1 _ _ (by decide)]; exact y9 x, fun x hx => by rw [u1 _ _ (by decide)]; exact y10 x hx⟩
            have hb5 : ∀ x, th c li x → rse (th c li) fs sn lm tr L i x ≤ 100000 := by
              intro x hx
              have := S3 x; have := hb x hx
              unfold rse
              split <;> omega
            have hlw : ∀ x, rs2 c li fs sn (rse (th c li) fs sn lm tr L i) tr L R i c x ≤ lv x + (m + 1) := by
              intro x
              have := S3 x
              have := @rise_once n c i li fs sn lm tr L R (th c li) x
              omega
            obtain ⟨ms1, ms2⟩ := @mnd_succ n c (fs x0) (sn x0) i li fs sn lm tr L R hL hR
            have hSt := Sg_stage (fun _ => Iff.rfl) hSg les_oth.1 les_oth.2 hL hR rfl
            have Kx : ∀ s6 : kS, (∀ o k, o ≠ 73 → o ≠ 74 → s6 o k = s5 o k) → ∀ o k, o ≠ 73 → o ≠ 74 → ¬ mSd o k → s6 o k = σ o k := by
              intro s6 h o k o1 o2 o3
              rw [h o k o1 o2, u1 o k o1, K4 o k o3]
              exact S1 o k o1 o3
            refine wpS_gen (fun Q9 hQ9 => ?_)
            refine mdScan_ok (L := L) (R := R) hG M5 hb5 (fun v hv => by rw [u1 _ _ (by decide), (q4 v hv).1]; exact hLs v hv) (fun v hv => by rw [u1 _ _ (by decide), (q4 v hv).2]; exact hRs v hv) (fun s6 v1 v2 v3 => ?_) (fun s6 v1 v2 v3 v4 => ?_)
            · rw [hQ9]
              refine kStep_N rfl ⟨_, rfl, fun o k o1 o2 => ?_, v2, hlw, hSt.1 (fun k q => v3 ⟨k, q⟩), by rw [← (ms2 v3).1]; exact hmn⟩
              rw [v1 o k o1, u1 o k o1, K4 o k o2]
              exact S1 o k o1 o2
            · rw [hQ9]
              refine kStep_R ?_
              rw [hQ1, hQ0]
              refine kThen_R.mpr ⟨none, rfl, rfl, rfl, Kx s6 v1, fun x => ?_, fun x => ?_⟩
              · rw [v2, ← hmn, ms1 v4]
              · rw [v3, ← hmn, ms1 v4]
        by_cases q : (cB : Int) < (cA : Int)
        · rw [if_pos q] at hsec2
          rw [hsec2] at step5
          simp only [wpS_skip, wpS_break, wpS_cont, wpS_retV, wpS_throw, wpS_seq, wpS_if, wpS_trunc, yS_let, yS_inc, kgK_i, kgK_r, kok_nil, kok_i0, kok_is, kok_r0, kok_rs, kok_n0, kok_ns, xS_put, xS_putOp, xS_ast0, xS_ast1, xS_astOp, wpS_E, wpS_call, wpS_callS, wpS_ret, kThen_N, kThen_B, kThen_C, kThen_R, kThen_T, kNext_N, kNext_C, kNext_B, kNext_R, wpE_K, wpE_KL, xE_I, xE_R, wpE_J, xE_bin, wpE_ladd, wpE_i2l, xE_get, xE_ald0, xE_ald1, wpE_if, xE_max, xE_min, wpE_len, wpA_nil, wpA_snoc, xE_call, xE_callS, xC_C, xC_L, xC_Z, wpC_and, wpC_or, wpC_not, wpC_if, kcmp_0, kcmp_1, kcmp_2, kcmp_3, kcmp_4, kcmp_5, rR_inj, kgO_some, kgO_add, kgO_sub, kgO_mul, kgO_div, kgO_rem, kgO_and, kvI_inl, kvJ_inl, kgI_0, kgI_s, kgR_0, kgR_s, kst_nil, kst_0, kst_s, kNLl_nil, kNLl_i, kNLl_r, kNLl_n, ktag_i, ktag_r, List.length_cons, List.length_nil, List.take_succ_cons, List.take_zero, List.take_nil, List.nil_append, List.cons_append, decide_eq_true_eq, Bool.not_eq_true, Bool.not_eq_true', decide_eq_false_iff_not, ne_eq, Decidable.not_not, true_and, and_true, Nat.reduceAdd, Nat.reduceLeDiff, Nat.reduceEqDiff, Nat.le_refl, not_true_eq_false, not_false_eq_true, reduceIte, eq_self, Int.reduceNeg, Int.reduceEq, Int.reduceLT, Int.reduceLE, Nat.zero_le, Nat.one_ne_zero, ev_model, b2, q, decide_true, decide_false, Bool.false_eq_true, if_true, if_false, true_and, and_true, not_true_eq_false, not_false_eq_true]
          exact step5
        · rw [if_neg q] at hsec2
          rw [hsec2] at step5
          simp only [wpS_skip, wpS_break, wpS_cont, wpS_retV, wpS_throw, wpS_seq, wpS_if, wpS_trunc, yS_let, yS_inc, kgK_i, kgK_r, kok_nil, kok_i0, kok_is, kok_r0, kok_rs, kok_n0, kok_ns, xS_put, xS_putOp, xS_ast0, xS_ast1, xS_astOp, wpS_E, wpS_call, wpS_callS, wpS_ret, kThen_N, kThen_B, kThen_C, kThen_R, kThen_T, kNext_N, kNext_C, kNext_B, kNext_R, wpE_K, wpE_KL, xE_I, xE_R, wpE_J, xE_bin, wpE_ladd, wpE_i2l, xE_get, xE_ald0, xE_ald1, wpE_if, xE_max, xE_min, wpE_len, wpA_nil, wpA_snoc, xE_call, xE_callS, xC_C, xC_L, xC_Z, wpC_and, wpC_or, wpC_not, wpC_if, kcmp_0, kcmp_1, kcmp_2, kcmp_3, kcmp_4, kcmp_5, rR_inj, kgO_some, kgO_add, kgO_sub, kgO_mul, kgO_div, kgO_rem, kgO_and, kvI_inl, kvJ_inl, kgI_0, kgI_s, kgR_0, kgR_s, kst_nil, kst_0, kst_s, kNLl_nil, kNLl_i, kNLl_r, kNLl_n, ktag_i, ktag_r, List.length_cons, List.length_nil, List.take_succ_cons, List.take_zero, List.take_nil, List.nil_append, List.cons_append, decide_eq_true_eq, Bool.not_eq_true, Bool.not_eq_true', decide_eq_false_iff_not, ne_eq, Decidable.not_not, true_and, and_true, Nat.reduceAdd, Nat.reduceLeDiff, Nat.reduceEqDiff, Nat.le_refl, not_true_eq_false, not_false_eq_true, reduceIte, eq_self, Int.reduceNeg, Int.reduceEq, Int.reduceLT, Int.reduceLE, Nat.zero_le, Nat.one_ne_zero, ev_model, b2, q, decide_true, decide_false, Bool.false_eq_true, if_true, if_false, true_and, and_true, not_true_eq_false, not_false_eq_true]
          exact step5
    · have e : lv x0 + 1 - m = 0 := by omega
      have c1 : ¬ (0 : Int) ≤ (lv x0 : Int) - m := by omega
      refine wpC_gen (fun Q2 hQ2 => ?_)
      simp only [wpS_skip, wpS_break, wpS_cont, wpS_retV, wpS_throw, wpS_seq, wpS_if, wpS_trunc, yS_let, yS_inc, kgK_i, kgK_r, kok_nil, kok_i0, kok_is, kok_r0, kok_rs, kok_n0, kok_ns, xS_put, xS_putOp, xS_ast0, xS_ast1, xS_astOp, wpS_E, wpS_call, wpS_callS, wpS_ret, kThen_N, kThen_B, kThen_C, kThen_R, kThen_T, kNext_N, kNext_C, kNext_B, kNext_R, wpE_K, wpE_KL, xE_I, xE_R, wpE_J, xE_bin, wpE_ladd, wpE_i2l, xE_get, xE_ald0, xE_ald1, wpE_if, xE_max, xE_min, wpE_len, wpA_nil, wpA_snoc, xE_call, xE_callS, xC_C, xC_L, xC_Z, wpC_and, wpC_or, wpC_not, wpC_if, kcmp_0, kcmp_1, kcmp_2, kcmp_3, kcmp_4, kcmp_5, rR_inj, kgO_some, kgO_add, kgO_sub, kgO_mul, kgO_div, kgO_rem, kgO_and, kvI_inl, kvJ_inl, kgI_0, kgI_s, kgR_0, kgR_s, kst_nil, kst_0, kst_s, kNLl_nil, kNLl_i, kNLl_r, kNLl_n, ktag_i, ktag_r, List.length_cons, List.length_nil, List.take_succ_cons, List.take_zero, List.take_nil, List.nil_append, List.cons_append, decide_eq_true_eq, Bool.not_eq_true, Bool.not_eq_true', decide_eq_false_iff_not, ne_eq, Decidable.not_not, true_and, and_true, Nat.reduceAdd, Nat.reduceLeDiff, Nat.reduceEqDiff, Nat.le_refl, not_true_eq_false, not_false_eq_true, reduceIte, eq_self, Int.reduceNeg, Int.reduceEq, Int.reduceLT, Int.reduceLE, Nat.zero_le, Nat.one_ne_zero, c1, decide_true, decide_false, Bool.false_eq_true, if_true, if_false, true_and, and_true, not_true_eq_false, not_false_eq_true]
      rw [hQ2]
      rw [e] at hmn
      refine ⟨rfl, Or.inr ⟨by simp, ?_⟩⟩
      rw [hQ1, hQ0]
      refine kThen_N.mpr (wpS_retV.mpr ⟨none, rfl, rfl, rfl, fun o k o1 o2 o3 => S1 o k o1 o3, fun x => ?_, fun x => ?_⟩)
      · rw [S2, ← hmn]; rfl
      · rw [← hmn]
        show s 74 x = tr x
        by_cases h74 : mSd 74 x
        · unfold mSd at h74; omega
        · rw [S1 74 x (by decide) h74]; exact w8 x
