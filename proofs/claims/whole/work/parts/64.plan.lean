/-! THE CLASS'S PLAN -/
def tkn (sp tk : Nat → Int) (x : Int) (m : Nat) : Prop := ∃ k, k < m ∧ sp k = 0 ∧ tk k = x
def PlS (s : kS) (st : Nat) (sp tk : Nat → Int) (sf ss : Nat → Nat) : Prop := s 12 0 = (st : Int) ∧
  (∀ k, k < st → s 59 k = sp k ∧ (sp k = 1 → s 60 k = (sf k : Int) ∧ s 61 k = (ss k : Int)) ∧ (sp k = 0 → s 58 k = tk k)) ∧
  (∀ x : Nat, x < 5000 → (∀ k, k < st → sp k = 0 → tk k = (x : Int) → s 62 x = (k : Int)) ∧ (¬ tkn sp tk x st → s 62 x = -1)) ∧
  (∀ j : Nat, j < 60 → (∀ k, k < st → sp k = 0 → tk k = -1 - (j : Int) → s 63 j = (k : Int)) ∧ (¬ tkn sp tk (-1 - (j : Int)) st → s 63 j = -1))
/-- the steps are such as may be planned -/
def plOk (n c st : Nat) (li : Nat → Nat) (sp tk : Nat → Int) (sf ss : Nat → Nat) : Prop := st ≤ 60 ∧ (∀ k, k < st → (sp k = 1 ∧ sf k < n ∧ ss k < n) ∨ (sp k = 0 ∧ ((0 ≤ tk k ∧ th c li (tk k).toNat) ∨ ∃ j, j < k ∧ tk k = -1 - (j : Int) ∧ sp j = 1))) ∧ (∀ j k, j < k → k < st → sp j = 0 → sp k = 0 → tk j ≠ tk k)
section PL
variable {σ : kS} {n c ar st : Nat} {li fs sn : Nat → Nat} {sp tk : Nat → Int} {sf ss : Nat → Nat}
theorem isFull_ok (h : σ 12 0 = (st : Int)) : wpF F_Plan_isFull [.inr (.inl 12)] σ (fun r s => s = σ ∧ r = some (.inl (if 60 ≤ st then 1 else 0))) := by
  unfold F_Plan_isFull
  rw [wpF_kF]
  refine ⟨rfl, rfl, ?_⟩
  unfold s_Plan_isFull
  simp only [List.map_cons, List.map_nil]
  refine wpS_gen (fun Q1 hQ1 => ?_)
  by_cases h1 : (60 : Int) ≤ (st : Int)
  · simp only [wpS_skip, wpS_break, wpS_cont, wpS_retV, wpS_throw, wpS_seq, wpS_if, wpS_trunc, yS_let, yS_inc, kgK_i, kgK_r, kok_nil, kok_i0, kok_is, kok_r0, kok_rs, kok_n0, kok_ns, xS_put, xS_putOp, xS_ast0, xS_ast1, xS_astOp, wpS_E, wpS_call, wpS_callS, wpS_ret, kThen_N, kThen_B, kThen_C, kThen_R, kThen_T, kNext_N, kNext_C, kNext_B, kNext_R, wpE_K, wpE_KL, xE_I, xE_R, wpE_J, xE_bin, wpE_ladd, wpE_i2l, xE_get, xE_ald0, xE_ald1, wpE_if, xE_max, xE_min, wpE_len, wpA_nil, wpA_snoc, xE_call, xE_callS, xC_C, xC_L, xC_Z, wpC_and, wpC_or, wpC_not, wpC_if, kcmp_0, kcmp_1, kcmp_2, kcmp_3, kcmp_4, kcmp_5, rR_inj, kgO_some, kgO_add, kgO_sub, kgO_mul, kgO_div, kgO_rem, kgO_and, kvI_inl, kvJ_inl, kgI_0, kgI_s, kgR_0, kgR_s, kst_nil, kst_0, kst_s, kNLl_nil, kNLl_i, kNLl_r, kNLl_n, ktag_i, ktag_r, List.length_cons, List.length_nil, List.take_succ_cons, List.take_zero, List.take_nil, List.nil_append, List.cons_append, decide_eq_true_eq, Bool.not_eq_true, Bool.not_eq_true', decide_eq_false_iff_not, ne_eq, Decidable.not_not, true_and, and_true, Nat.reduceAdd, Nat.reduceLeDiff, Nat.reduceEqDiff, Nat.le_refl, not_true_eq_false, not_false_eq_true, reduceIte, eq_self, Int.reduceNeg, Int.reduceEq, Int.reduceLT, Int.reduceLE, Nat.zero_le, Nat.one_ne_zero, ev_plan, h, h1, decide_true, decide_false, Bool.false_eq_true, if_true, if_false, true_and, and_true, not_true_eq_false, not_false_eq_true]
    rw [hQ1]
    exact ⟨_, rfl, rfl, rfl, by rw [if_pos (by omega)]⟩
  · simp only [wpS_skip, wpS_break, wpS_cont, wpS_retV, wpS_throw, wpS_seq, wpS_if, wpS_trunc, yS_let, yS_inc, kgK_i, kgK_r, kok_nil, kok_i0, kok_is, kok_r0, kok_rs, kok_n0, kok_ns, xS_put, xS_putOp, xS_ast0, xS_ast1, xS_astOp, wpS_E, wpS_call, wpS_callS, wpS_ret, kThen_N, kThen_B, kThen_C, kThen_R, kThen_T, kNext_N, kNext_C, kNext_B, kNext_R, wpE_K, wpE_KL, xE_I, xE_R, wpE_J, xE_bin, wpE_ladd, wpE_i2l, xE_get, xE_ald0, xE_ald1, wpE_if, xE_max, xE_min, wpE_len, wpA_nil, wpA_snoc, xE_call, xE_callS, xC_C, xC_L, xC_Z, wpC_and, wpC_or, wpC_not, wpC_if, kcmp_0, kcmp_1, kcmp_2, kcmp_3, kcmp_4, kcmp_5, rR_inj, kgO_some, kgO_add, kgO_sub, kgO_mul, kgO_div, kgO_rem, kgO_and, kvI_inl, kvJ_inl, kgI_0, kgI_s, kgR_0, kgR_s, kst_nil, kst_0, kst_s, kNLl_nil, kNLl_i, kNLl_r, kNLl_n, ktag_i, ktag_r, List.length_cons, List.length_nil, List.take_succ_cons, List.take_zero, List.take_nil, List.nil_append, List.cons_append, decide_eq_true_eq, Bool.not_eq_true, Bool.not_eq_true', decide_eq_false_iff_not, ne_eq, Decidable.not_not, true_and, and_true, Nat.reduceAdd, Nat.reduceLeDiff, Nat.reduceEqDiff, Nat.le_refl, not_true_eq_false, not_false_eq_true, reduceIte, eq_self, Int.reduceNeg, Int.reduceEq, Int.reduceLT, Int.reduceLE, Nat.zero_le, Nat.one_ne_zero, ev_plan, h, h1, decide_true, decide_false, Bool.false_eq_true, if_true, if_false, true_and, and_true, not_true_eq_false, not_false_eq_true]
    rw [hQ1]
    exact ⟨_, rfl, rfl, rfl, by rw [if_neg (by omega)]⟩
theorem puts_ok {z : Int} (hP : PlS σ st sp tk sf ss) (hO : plOk n c st li sp tk sf ss) : wpF F_Plan_puts [.inr (.inl 12), .inl z] σ (fun r s => s = σ ∧ (((0 ≤ z ∧ z < (st : Int) ∧ sp z.toNat = 1) ∧ r = some (.inl 1)) ∨ (¬ (0 ≤ z ∧ z < (st : Int) ∧ sp z.toNat = 1) ∧ r = some (.inl 0)))) := by
  obtain ⟨p1, p2, -, -⟩ := hP
  have h60 := hO.1
  unfold F_Plan_puts
  rw [wpF_kF]
  refine ⟨rfl, rfl, ?_⟩
  unfold s_Plan_puts
  simp only [List.map_cons, List.map_nil]
  refine wpS_gen (fun Q1 hQ1 => ?_)
  by_cases h1 : 0 ≤ z
  · by_cases h2 : z < (st : Int)
    · have e59 := (p2 z.toNat (by omega)).1
      have h01 : sp z.toNat = 1 ∨ sp z.toNat = 0 := (hO.2.1 z.toNat (by omega)).imp (fun q => q.1) (fun q => q.1)
      by_cases h3 : sp z.toNat = 0
      · simp only [wpS_skip, wpS_break, wpS_cont, wpS_retV, wpS_throw, wpS_seq, wpS_if, wpS_trunc, yS_let, yS_inc, kgK_i, kgK_r, kok_nil, kok_i0, kok_is, kok_r0, kok_rs, kok_n0, kok_ns, xS_put, xS_putOp, xS_ast0, xS_ast1, xS_astOp, wpS_E, wpS_call, wpS_callS, wpS_ret, kThen_N, kThen_B, kThen_C, kThen_R, kThen_T, kNext_N, kNext_C, kNext_B, kNext_R, wpE_K, wpE_KL, xE_I, xE_R, wpE_J, xE_bin, wpE_ladd, wpE_i2l, xE_get, xE_ald0, xE_ald1, wpE_if, xE_max, xE_min, wpE_len, wpA_nil, wpA_snoc, xE_call, xE_callS, xC_C, xC_L, xC_Z, wpC_and, wpC_or, wpC_not, wpC_if, kcmp_0, kcmp_1, kcmp_2, kcmp_3, kcmp_4, kcmp_5, rR_inj, kgO_some, kgO_add, kgO_sub, kgO_mul, kgO_div, kgO_rem, kgO_and, kvI_inl, kvJ_inl, kgI_0, kgI_s, kgR_0, kgR_s, kst_nil, kst_0, kst_s, kNLl_nil, kNLl_i, kNLl_r, kNLl_n, ktag_i, ktag_r, List.length_cons, List.length_nil, List.take_succ_cons, List.take_zero, List.take_nil, List.nil_append, List.cons_append, decide_eq_true_eq, Bool.not_eq_true, Bool.not_eq_true', decide_eq_false_iff_not, ne_eq, Decidable.not_not, true_and, and_true, Nat.reduceAdd, Nat.reduceLeDiff, Nat.reduceEqDiff, Nat.le_refl, not_true_eq_false, not_false_eq_true, reduceIte, eq_self, Int.reduceNeg, Int.reduceEq, Int.reduceLT, Int.reduceLE, Nat.zero_le, Nat.one_ne_zero, ev_plan, ev_plan_arr, p1, e59, h1, h2, h3, decide_true, decide_false, Bool.false_eq_true, if_true, if_false, true_and, and_true, not_true_eq_false, not_false_eq_true]
        refine ⟨by omega, ?_⟩
        rw [hQ1]
        exact ⟨_, rfl, rfl, rfl, Or.inr ⟨fun q => by omega, rfl⟩⟩
      · simp only [wpS_skip, wpS_break, wpS_cont, wpS_retV, wpS_throw, wpS_seq, wpS_if, wpS_trunc, yS_let, yS_inc, kgK_i, kgK_r, kok_nil, kok_i0, kok_is, kok_r0, kok_rs, kok_n0, kok_ns, xS_put, xS_putOp, xS_ast0, xS_ast1, xS_astOp, wpS_E, wpS_call, wpS_callS, wpS_ret, kThen_N, kThen_B, kThen_C, kThen_R, kThen_T, kNext_N, kNext_C, kNext_B, kNext_R, wpE_K, wpE_KL, xE_I, xE_R, wpE_J, xE_bin, wpE_ladd, wpE_i2l, xE_get, xE_ald0, xE_ald1, wpE_if, xE_max, xE_min, wpE_len, wpA_nil, wpA_snoc, xE_call, xE_callS, xC_C, xC_L, xC_Z, wpC_and, wpC_or, wpC_not, wpC_if, kcmp_0, kcmp_1, kcmp_2, kcmp_3, kcmp_4, kcmp_5, rR_inj, kgO_some, kgO_add, kgO_sub, kgO_mul, kgO_div, kgO_rem, kgO_and, kvI_inl, kvJ_inl, kgI_0, kgI_s, kgR_0, kgR_s, kst_nil, kst_0, kst_s, kNLl_nil, kNLl_i, kNLl_r, kNLl_n, ktag_i, ktag_r, List.length_cons, List.length_nil, List.take_succ_cons, List.take_zero, List.take_nil, List.nil_append, List.cons_append, decide_eq_true_eq, Bool.not_eq_true, Bool.not_eq_true', decide_eq_false_iff_not, ne_eq, Decidable.not_not, true_and, and_true, Nat.reduceAdd, Nat.reduceLeDiff, Nat.reduceEqDiff, Nat.le_refl, not_true_eq_false, not_false_eq_true, reduceIte, eq_self, Int.reduceNeg, Int.reduceEq, Int.reduceLT, Int.reduceLE, Nat.zero_le, Nat.one_ne_zero, ev_plan, ev_plan_arr, p1, e59, h1, h2, h3, decide_true, decide_false, Bool.false_eq_true, if_true, if_false, true_and, and_true, not_true_eq_false, not_false_eq_true]
        refine ⟨by omega, ?_⟩
        rw [hQ1]
        exact ⟨_, rfl, rfl, rfl, Or.inl ⟨⟨h1, h2, by omega⟩, rfl⟩⟩
    · simp only [wpS_skip, wpS_break, wpS_cont, wpS_retV, wpS_throw, wpS_seq, wpS_if, wpS_trunc, yS_let, yS_inc, kgK_i, kgK_r, kok_nil, kok_i0, kok_is, kok_r0, kok_rs, kok_n0, kok_ns, xS_put, xS_putOp, xS_ast0, xS_ast1, xS_astOp, wpS_E, wpS_call, wpS_callS, wpS_ret, kThen_N, kThen_B, kThen_C, kThen_R, kThen_T, kNext_N, kNext_C, kNext_B, kNext_R, wpE_K, wpE_KL, xE_I, xE_R, wpE_J, xE_bin, wpE_ladd, wpE_i2l, xE_get, xE_ald0, xE_ald1, wpE_if, xE_max, xE_min, wpE_len, wpA_nil, wpA_snoc, xE_call, xE_callS, xC_C, xC_L, xC_Z, wpC_and, wpC_or, wpC_not, wpC_if, kcmp_0, kcmp_1, kcmp_2, kcmp_3, kcmp_4, kcmp_5, rR_inj, kgO_some, kgO_add, kgO_sub, kgO_mul, kgO_div, kgO_rem, kgO_and, kvI_inl, kvJ_inl, kgI_0, kgI_s, kgR_0, kgR_s, kst_nil, kst_0, kst_s, kNLl_nil, kNLl_i, kNLl_r, kNLl_n, ktag_i, ktag_r, List.length_cons, List.length_nil, List.take_succ_cons, List.take_zero, List.take_nil, List.nil_append, List.cons_append, decide_eq_true_eq, Bool.not_eq_true, Bool.not_eq_true', decide_eq_false_iff_not, ne_eq, Decidable.not_not, true_and, and_true, Nat.reduceAdd, Nat.reduceLeDiff, Nat.reduceEqDiff, Nat.le_refl, not_true_eq_false, not_false_eq_true, reduceIte, eq_self, Int.reduceNeg, Int.reduceEq, Int.reduceLT, Int.reduceLE, Nat.zero_le, Nat.one_ne_zero, ev_plan, ev_plan_arr, p1, h1, h2, decide_true, decide_false, Bool.false_eq_true, if_true, if_false, true_and, and_true, not_true_eq_false, not_false_eq_true]
      rw [hQ1]
      exact ⟨_, rfl, rfl, rfl, Or.inr ⟨fun q => h2 q.2.1, rfl⟩⟩
  · simp only [wpS_skip, wpS_break, wpS_cont, wpS_retV, wpS_throw, wpS_seq, wpS_if, wpS_trunc, yS_let, yS_inc, kgK_i, kgK_r, kok_nil, kok_i0, kok_is, kok_r0, kok_rs, kok_n0, kok_ns, xS_put, xS_putOp, xS_ast0, xS_ast1, xS_astOp, wpS_E, wpS_call, wpS_callS, wpS_ret, kThen_N, kThen_B, kThen_C, kThen_R, kThen_T, kNext_N, kNext_C, kNext_B, kNext_R, wpE_K, wpE_KL, xE_I, xE_R, wpE_J, xE_bin, wpE_ladd, wpE_i2l, xE_get, xE_ald0, xE_ald1, wpE_if, xE_max, xE_min, wpE_len, wpA_nil, wpA_snoc, xE_call, xE_callS, xC_C, xC_L, xC_Z, wpC_and, wpC_or, wpC_not, wpC_if, kcmp_0, kcmp_1, kcmp_2, kcmp_3, kcmp_4, kcmp_5, rR_inj, kgO_some, kgO_add, kgO_sub, kgO_mul, kgO_div, kgO_rem, kgO_and, kvI_inl, kvJ_inl, kgI_0, kgI_s, kgR_0, kgR_s, kst_nil, kst_0, kst_s, kNLl_nil, kNLl_i, kNLl_r, kNLl_n, ktag_i, ktag_r, List.length_cons, List.length_nil, List.take_succ_cons, List.take_zero, List.take_nil, List.nil_append, List.cons_append, decide_eq_true_eq, Bool.not_eq_true, Bool.not_eq_true', decide_eq_false_iff_not, ne_eq, Decidable.not_not, true_and, and_true, Nat.reduceAdd, Nat.reduceLeDiff, Nat.reduceEqDiff, Nat.le_refl, not_true_eq_false, not_false_eq_true, reduceIte, eq_self, Int.reduceNeg, Int.reduceEq, Int.reduceLT, Int.reduceLE, Nat.zero_le, Nat.one_ne_zero, h1, decide_true, decide_false, Bool.false_eq_true, if_true, if_false, true_and, and_true, not_true_eq_false, not_false_eq_true]
    rw [hQ1]
    exact ⟨_, rfl, rfl, rfl, Or.inr ⟨fun q => h1 q.1, rfl⟩⟩
theorem takes_ok {x : Int} (hP : PlS σ st sp tk sf ss) (hx : (0 ≤ x ∧ x < 5000) ∨ (x < 0 ∧ -61 < x)) : wpF F_Plan_takes [.inr (.inl 12), .inl x] σ (fun r s => s = σ ∧ ((tkn sp tk x st ∧ r = some (.inl 1)) ∨ (¬ tkn sp tk x st ∧ r = some (.inl 0)))) := by
  obtain ⟨p1, p2, p3, p4⟩ := hP
  unfold F_Plan_takes
  rw [wpF_kF]
  refine ⟨rfl, rfl, ?_⟩
  unfold s_Plan_takes
  simp only [List.map_cons, List.map_nil]
  refine wpS_gen (fun Q1 hQ1 => ?_)
  rcases hx with ⟨h1, h2⟩ | ⟨h1, h2⟩
  · obtain ⟨q1, q2⟩ := p3 x.toNat (by omega)
    have ex : ((x.toNat : Nat) : Int) = x := by omega
    rw [ex] at q1 q2
    by_cases ht : tkn sp tk x st
    · obtain ⟨k, k1, k2, k3⟩ := id ht
      have e62 := q1 k k1 k2 k3
      have hne : ¬ (k : Int) = -1 := by omega
      simp only [wpS_skip, wpS_break, wpS_cont, wpS_retV, wpS_throw, wpS_seq, wpS_if, wpS_trunc, yS_let, yS_inc, kgK_i, kgK_r, kok_nil, kok_i0, kok_is, kok_r0, kok_rs, kok_n0, kok_ns, xS_put, xS_putOp, xS_ast0, xS_ast1, xS_astOp, wpS_E, wpS_call, wpS_callS, wpS_ret, kThen_N, kThen_B, kThen_C, kThen_R, kThen_T, kNext_N, kNext_C, kNext_B, kNext_R, wpE_K, wpE_KL, xE_I, xE_R, wpE_J, xE_bin, wpE_ladd, wpE_i2l, xE_get, xE_ald0, xE_ald1, wpE_if, xE_max, xE_min, wpE_len, wpA_nil, wpA_snoc, xE_call, xE_callS, xC_C, xC_L, xC_Z, wpC_and, wpC_or, wpC_not, wpC_if, kcmp_0, kcmp_1, kcmp_2, kcmp_3, kcmp_4, kcmp_5, rR_inj, kgO_some, kgO_add, kgO_sub, kgO_mul, kgO_div, kgO_rem, kgO_and, kvI_inl, kvJ_inl, kgI_0, kgI_s, kgR_0, kgR_s, kst_nil, kst_0, kst_s, kNLl_nil, kNLl_i, kNLl_r, kNLl_n, ktag_i, ktag_r, List.length_cons, List.length_nil, List.take_succ_cons, List.take_zero, List.take_nil, List.nil_append, List.cons_append, decide_eq_true_eq, Bool.not_eq_true, Bool.not_eq_true', decide_eq_false_iff_not, ne_eq, Decidable.not_not, true_and, and_true, Nat.reduceAdd, Nat.reduceLeDiff, Nat.reduceEqDiff, Nat.le_refl, not_true_eq_false, not_false_eq_true, reduceIte, eq_self, Int.reduceNeg, Int.reduceEq, Int.reduceLT, Int.reduceLE, Nat.zero_le, Nat.one_ne_zero, ev_plan, ev_plan_arr, h1, e62, hne, decide_true, decide_false, Bool.false_eq_true, if_true, if_false, true_and, and_true, not_true_eq_false, not_false_eq_true]
      refine ⟨by omega, ?_⟩
      rw [hQ1]
      exact ⟨_, rfl, rfl, rfl, Or.inl ⟨ht, rfl⟩⟩
    · have e62 := q2 ht
      simp only [wpS_skip, wpS_break, wpS_cont, wpS_retV, wpS_throw, wpS_seq, wpS_if, wpS_trunc, yS_let, yS_inc, kgK_i, kgK_r, kok_nil, kok_i0, kok_is, kok_r0, kok_rs, kok_n0, kok_ns, xS_put, xS_putOp, xS_ast0, xS_ast1, xS_astOp, wpS_E, wpS_call, wpS_callS, wpS_ret, kThen_N, kThen_B, kThen_C, kThen_R, kThen_T, kNext_N, kNext_C, kNext_B, kNext_R, wpE_K, wpE_KL, xE_I, xE_R, wpE_J, xE_bin, wpE_ladd, wpE_i2l, xE_get, xE_ald0, xE_ald1, wpE_if, xE_max, xE_min, wpE_len, wpA_nil, wpA_snoc, xE_call, xE_callS, xC_C, xC_L, xC_Z, wpC_and, wpC_or, wpC_not, wpC_if, kcmp_0, kcmp_1, kcmp_2, kcmp_3, kcmp_4, kcmp_5, rR_inj, kgO_some, kgO_add, kgO_sub, kgO_mul, kgO_div, kgO_rem, kgO_and, kvI_inl, kvJ_inl, kgI_0, kgI_s, kgR_0, kgR_s, kst_nil, kst_0, kst_s, kNLl_nil, kNLl_i, kNLl_r, kNLl_n, ktag_i, ktag_r, List.length_cons, List.length_nil, List.take_succ_cons, List.take_zero, List.take_nil, List.nil_append, List.cons_append, decide_eq_true_eq, Bool.not_eq_true, Bool.not_eq_true', decide_eq_false_iff_not, ne_eq, Decidable.not_not, true_and, and_true, Nat.reduceAdd, Nat.reduceLeDiff, Nat.reduceEqDiff, Nat.le_refl, not_true_eq_false, not_false_eq_true, reduceIte, eq_self, Int.reduceNeg, Int.reduceEq, Int.reduceLT, Int.reduceLE, Nat.zero_le, Nat.one_ne_zero, ev_plan, ev_plan_arr, h1, e62, decide_true, decide_false, Bool.false_eq_true, if_true, if_false, true_and, and_true, not_true_eq_false, not_false_eq_true]
      refine ⟨by omega, ?_⟩
      rw [hQ1]
      exact ⟨_, rfl, rfl, rfl, Or.inr ⟨ht, rfl⟩⟩
  · have h1' : ¬ 0 ≤ x := by omega
    obtain ⟨j, hj⟩ : ∃ j : Nat, x = -1 - (j : Int) := ⟨(-1 - x).toNat, by omega⟩
    obtain ⟨q1, q2⟩ := p4 j (by omega)
    have t1 : (-1 - x).toNat = j := by omega
    rw [← hj] at q1 q2
    by_cases ht : tkn sp tk x st
    · obtain ⟨k, k1, k2, k3⟩ := id ht
      have e62 := q1 k k1 k2 k3
      have hne : ¬ (k : Int) = -1 := by omega
      simp only [wpS_skip, wpS_break, wpS_cont, wpS_retV, wpS_throw, wpS_seq, wpS_if, wpS_trunc, yS_let, yS_inc, kgK_i, kgK_r, kok_nil, kok_i0, kok_is, kok_r0, kok_rs, kok_n0, kok_ns, xS_put, xS_putOp, xS_ast0, xS_ast1, xS_astOp, wpS_E, wpS_call, wpS_callS, wpS_ret, kThen_N, kThen_B, kThen_C, kThen_R, kThen_T, kNext_N, kNext_C, kNext_B, kNext_R, wpE_K, wpE_KL, xE_I, xE_R, wpE_J, xE_bin, wpE_ladd, wpE_i2l, xE_get, xE_ald0, xE_ald1, wpE_if, xE_max, xE_min, wpE_len, wpA_nil, wpA_snoc, xE_call, xE_callS, xC_C, xC_L, xC_Z, wpC_and, wpC_or, wpC_not, wpC_if, kcmp_0, kcmp_1, kcmp_2, kcmp_3, kcmp_4, kcmp_5, rR_inj, kgO_some, kgO_add, kgO_sub, kgO_mul, kgO_div, kgO_rem, kgO_and, kvI_inl, kvJ_inl, kgI_0, kgI_s, kgR_0, kgR_s, kst_nil, kst_0, kst_s, kNLl_nil, kNLl_i, kNLl_r, kNLl_n, ktag_i, ktag_r, List.length_cons, List.length_nil, List.take_succ_cons, List.take_zero, List.take_nil, List.nil_append, List.cons_append, decide_eq_true_eq, Bool.not_eq_true, Bool.not_eq_true', decide_eq_false_iff_not, ne_eq, Decidable.not_not, true_and, and_true, Nat.reduceAdd, Nat.reduceLeDiff, Nat.reduceEqDiff, Nat.le_refl, not_true_eq_false, not_false_eq_true, reduceIte, eq_self, Int.reduceNeg, Int.reduceEq, Int.reduceLT, Int.reduceLE, Nat.zero_le, Nat.one_ne_zero, ev_plan, ev_plan_arr, h1', t1, e62, hne, decide_true, decide_false, Bool.false_eq_true, if_true, if_false, true_and, and_true, not_true_eq_false, not_false_eq_true]
      repeat refine And.intro (by omega) ?_
      rw [hQ1]
      exact ⟨_, rfl, rfl, rfl, Or.inl ⟨ht, rfl⟩⟩
    · have e62 := q2 ht
      simp only [wpS_skip, wpS_break, wpS_cont, wpS_retV, wpS_throw, wpS_seq, wpS_if, wpS_trunc, yS_let, yS_inc, kgK_i, kgK_r, kok_nil, kok_i0, kok_is, kok_r0, kok_rs, kok_n0, kok_ns, xS_put, xS_putOp, xS_ast0, xS_ast1, xS_astOp, wpS_E, wpS_call, wpS_callS, wpS_ret, kThen_N, kThen_B, kThen_C, kThen_R, kThen_T, kNext_N, kNext_C, kNext_B, kNext_R, wpE_K, wpE_KL, xE_I, xE_R, wpE_J, xE_bin, wpE_ladd, wpE_i2l, xE_get, xE_ald0, xE_ald1, wpE_if, xE_max, xE_min, wpE_len, wpA_nil, wpA_snoc, xE_call, xE_callS, xC_C, xC_L, xC_Z, wpC_and, wpC_or, wpC_not, wpC_if, kcmp_0, kcmp_1, kcmp_2, kcmp_3, kcmp_4, kcmp_5, rR_inj, kgO_some, kgO_add, kgO_sub, kgO_mul, kgO_div, kgO_rem, kgO_and, kvI_inl, kvJ_inl, kgI_0, kgI_s, kgR_0, kgR_s, kst_nil, kst_0, kst_s, kNLl_nil, kNLl_i, kNLl_r, kNLl_n, ktag_i, ktag_r, List.length_cons, List.length_nil, List.take_succ_cons, List.take_zero, List.take_nil, List.nil_append, List.cons_append, decide_eq_true_eq, Bool.not_eq_true, Bool.not_eq_true', decide_eq_false_iff_not, ne_eq, Decidable.not_not, true_and, and_true, Nat.reduceAdd, Nat.reduceLeDiff, Nat.reduceEqDiff, Nat.le_refl, not_true_eq_false, not_false_eq_true, reduceIte, eq_self, Int.reduceNeg, Int.reduceEq, Int.reduceLT, Int.reduceLE, Nat.zero_le, Nat.one_ne_zero, ev_plan, ev_plan_arr, h1', t1, e62, decide_true, decide_false, Bool.false_eq_true, if_true, if_false, true_and, and_true, not_true_eq_false, not_false_eq_true]
      repeat refine And.intro (by omega) ?_
      rw [hQ1]
      exact ⟨_, rfl, rfl, rfl, Or.inr ⟨ht, rfl⟩⟩
theorem setTaker_ok {x v : Int} (hx : (0 ≤ x ∧ x < 5000) ∨ (x < 0 ∧ -61 < x)) : wpF F_Plan_setTaker [.inr (.inl 12), .inl x, .inl v] σ (fun r s => r = none ∧ s = if 0 ≤ x then kup σ 62 x.toNat v else kup σ 63 (-1 - x).toNat v) := by
  unfold F_Plan_setTaker
  rw [wpF_kF]
  refine ⟨rfl, rfl, ?_⟩
  unfold s_Plan_setTaker
  simp only [List.map_cons, List.map_nil]
  refine wpS_seq' (fun Q0 hQ0 => ?_)
  refine wpS_gen (fun Q1 hQ1 => ?_)
  by_cases h1 : 0 ≤ x
  · simp only [wpS_skip, wpS_break, wpS_cont, wpS_retV, wpS_throw, wpS_seq, wpS_if, wpS_trunc, yS_let, yS_inc, kgK_i, kgK_r, kok_nil, kok_i0, kok_is, kok_r0, kok_rs, kok_n0, kok_ns, xS_put, xS_putOp, xS_ast0, xS_ast1, xS_astOp, wpS_E, wpS_call, wpS_callS, wpS_ret, kThen_N, kThen_B, kThen_C, kThen_R, kThen_T, kNext_N, kNext_C, kNext_B, kNext_R, wpE_K, wpE_KL, xE_I, xE_R, wpE_J, xE_bin, wpE_ladd, wpE_i2l, xE_get, xE_ald0, xE_ald1, wpE_if, xE_max, xE_min, wpE_len, wpA_nil, wpA_snoc, xE_call, xE_callS, xC_C, xC_L, xC_Z, wpC_and, wpC_or, wpC_not, wpC_if, kcmp_0, kcmp_1, kcmp_2, kcmp_3, kcmp_4, kcmp_5, rR_inj, kgO_some, kgO_add, kgO_sub, kgO_mul, kgO_div, kgO_rem, kgO_and, kvI_inl, kvJ_inl, kgI_0, kgI_s, kgR_0, kgR_s, kst_nil, kst_0, kst_s, kNLl_nil, kNLl_i, kNLl_r, kNLl_n, ktag_i, ktag_r, List.length_cons, List.length_nil, List.take_succ_cons, List.take_zero, List.take_nil, List.nil_append, List.cons_append, decide_eq_true_eq, Bool.not_eq_true, Bool.not_eq_true', decide_eq_false_iff_not, ne_eq, Decidable.not_not, true_and, and_true, Nat.reduceAdd, Nat.reduceLeDiff, Nat.reduceEqDiff, Nat.le_refl, not_true_eq_false, not_false_eq_true, reduceIte, eq_self, Int.reduceNeg, Int.reduceEq, Int.reduceLT, Int.reduceLE, Nat.zero_le, Nat.one_ne_zero, ev_plan, ev_plan_arr, h1, decide_true, decide_false, Bool.false_eq_true, if_true, if_false, true_and, and_true, not_true_eq_false, not_false_eq_true]
    refine ⟨by omega, ?_⟩
    rw [hQ1]
    rw [hQ0]
    refine kThen_N.mpr (wpS_retV.mpr ⟨none, rfl, rfl, ?_⟩)
    exact ⟨rfl, (if_pos h1).symm⟩
  · simp only [wpS_skip, wpS_break, wpS_cont, wpS_retV, wpS_throw, wpS_seq, wpS_if, wpS_trunc, yS_let, yS_inc, kgK_i, kgK_r, kok_nil, kok_i0, kok_is, kok_r0, kok_rs, kok_n0, kok_ns, xS_put, xS_putOp, xS_ast0, xS_ast1, xS_astOp, wpS_E, wpS_call, wpS_callS, wpS_ret, kThen_N, kThen_B, kThen_C, kThen_R, kThen_T, kNext_N, kNext_C, kNext_B, kNext_R, wpE_K, wpE_KL, xE_I, xE_R, wpE_J, xE_bin, wpE_ladd, wpE_i2l, xE_get, xE_ald0, xE_ald1, wpE_if, xE_max, xE_min, wpE_len, wpA_nil, wpA_snoc, xE_call, xE_callS, xC_C, xC_L, xC_Z, wpC_and, wpC_or, wpC_not, wpC_if, kcmp_0, kcmp_1, kcmp_2, kcmp_3, kcmp_4, kcmp_5, rR_inj, kgO_some, kgO_add, kgO_sub, kgO_mul, kgO_div, kgO_rem, kgO_and, kvI_inl, kvJ_inl, kgI_0, kgI_s, kgR_0, kgR_s, kst_nil, kst_0, kst_s, kNLl_nil, kNLl_i, kNLl_r, kNLl_n, ktag_i, ktag_r, List.length_cons, List.length_nil, List.take_succ_cons, List.take_zero, List.take_nil, List.nil_append, List.cons_append, decide_eq_true_eq, Bool.not_eq_true, Bool.not_eq_true', decide_eq_false_iff_not, ne_eq, Decidable.not_not, true_and, and_true, Nat.reduceAdd, Nat.reduceLeDiff, Nat.reduceEqDiff, Nat.le_refl, not_true_eq_false, not_false_eq_true, reduceIte, eq_self, Int.reduceNeg, Int.reduceEq, Int.reduceLT, Int.reduceLE, Nat.zero_le, Nat.one_ne_zero, ev_plan, ev_plan_arr, h1, decide_true, decide_false, Bool.false_eq_true, if_true, if_false, true_and, and_true, not_true_eq_false, not_false_eq_true]
    repeat refine And.intro (by omega) ?_
    rw [hQ1]
    rw [hQ0]
    refine kThen_N.mpr (wpS_retV.mpr ⟨none, rfl, rfl, ?_⟩)
    exact ⟨rfl, (if_neg h1).symm⟩
theorem addPut_ok {a b : Nat} (hP : PlS σ st sp tk sf ss) (hst : st < 60) :
    wpF F_Plan_addPut [.inr (.inl 12), .inl (a : Int), .inl (b : Int)] σ (fun r s => r = some (.inl (st : Int)) ∧ (∀ o k, o ≠ 12 → ¬ (58 ≤ o ∧ o ≤ 63) → s o k = σ o k) ∧
      PlS s (st + 1) (fun k => if k = st then 1 else sp k) tk (fun k => if k = st then a else sf k) (fun k => if k = st then b else ss k)) := by
  obtain ⟨p1, p2, p3, p4⟩ := hP
  have ht : ∀ x, tkn (fun k => if k = st then 1 else sp k) tk x (st + 1) ↔ tkn sp tk x st := by
    intro x
    constructor
    · rintro ⟨k, k1, k2, k3⟩
      dsimp only at k2
      by_cases e : k = st
      · rw [if_pos e] at k2; omega
      · rw [if_neg e] at k2; exact ⟨k, by omega, k2, k3⟩
    · rintro ⟨k, k1, k2, k3⟩
      exact ⟨k, by omega, by dsimp only; rw [if_neg (by omega)]; exact k2, k3⟩
  unfold F_Plan_addPut
  rw [wpF_kF]
  refine ⟨rfl, rfl, ?_⟩
  unfold s_Plan_addPut
  simp only [List.map_cons, List.map_nil]
  refine wpS_seq' (fun Q101 hQ101 => ?_)
  simp only [wpS_skip, wpS_break, wpS_cont, wpS_retV, wpS_throw, wpS_seq, wpS_if, wpS_trunc, yS_let, yS_inc, kgK_i, kgK_r, kok_nil, kok_i0, kok_is, kok_r0, kok_rs, kok_n0, kok_ns, xS_put, xS_putOp, xS_ast0, xS_ast1, xS_astOp, wpS_E, wpS_call, wpS_callS, wpS_ret, kThen_N, kThen_B, kThen_C, kThen_R, kThen_T, kNext_N, kNext_C, kNext_B, kNext_R, wpE_K, wpE_KL, xE_I, xE_R, wpE_J, xE_bin, wpE_ladd, wpE_i2l, xE_get, xE_ald0, xE_ald1, wpE_if, xE_max, xE_min, wpE_len, wpA_nil, wpA_snoc, xE_call, xE_callS, xC_C, xC_L, xC_Z, wpC_and, wpC_or, wpC_not, wpC_if, kcmp_0, kcmp_1, kcmp_2, kcmp_3, kcmp_4, kcmp_5, rR_inj, kgO_some, kgO_add, kgO_sub, kgO_mul, kgO_div, kgO_rem, kgO_and, kvI_inl, kvJ_inl, kgI_0, kgI_s, kgR_0, kgR_s, kst_nil, kst_0, kst_s, kNLl_nil, kNLl_i, kNLl_r, kNLl_n, ktag_i, ktag_r, List.length_cons, List.length_nil, List.take_succ_cons, List.take_zero, List.take_nil, List.nil_append, List.cons_append, decide_eq_true_eq, Bool.not_eq_true, Bool.not_eq_true', decide_eq_false_iff_not, ne_eq, Decidable.not_not, true_and, and_true, Nat.reduceAdd, Nat.reduceLeDiff, Nat.reduceEqDiff, Nat.le_refl, not_true_eq_false, not_false_eq_true, reduceIte, eq_self, Int.reduceNeg, Int.reduceEq, Int.reduceLT, Int.reduceLE, Nat.zero_le, Nat.one_ne_zero, ev_plan, p1]
  repeat refine And.intro (by omega) ?_
  rw [hQ101]
  clear hQ101 Q101
  refine kThen_N.mpr ?_
  refine wpS_seq' (fun Q102 hQ102 => ?_)
  simp only [wpS_skip, wpS_break, wpS_cont, wpS_retV, wpS_throw, wpS_seq, wpS_if, wpS_trunc, yS_let, yS_inc, kgK_i, kgK_r, kok_nil, kok_i0, kok_is, kok_r0, kok_rs, kok_n0, kok_ns, xS_put, xS_putOp, xS_ast0, xS_ast1, xS_astOp, wpS_E, wpS_call, wpS_callS, wpS_ret, kThen_N, kThen_B, kThen_C, kThen_R, kThen_T, kNext_N, kNext_C, kNext_B, kNext_R, wpE_K, wpE_KL, xE_I, xE_R, wpE_J, xE_bin, wpE_ladd, wpE_i2l, xE_get, xE_ald0, xE_ald1, wpE_if, xE_max, xE_min, wpE_len, wpA_nil, wpA_snoc, xE_call, xE_callS, xC_C, xC_L, xC_Z, wpC_and, wpC_or, wpC_not, wpC_if, kcmp_0, kcmp_1, kcmp_2, kcmp_3, kcmp_4, kcmp_5, rR_inj, kgO_some, kgO_add, kgO_sub, kgO_mul, kgO_div, kgO_rem, kgO_and, kvI_inl, kvJ_inl, kgI_0, kgI_s, kgR_0, kgR_s, kst_nil, kst_0, kst_s, kNLl_nil, kNLl_i, kNLl_r, kNLl_n, ktag_i, ktag_r, List.length_cons, List.length_nil, List.take_succ_cons, List.take_zero, List.take_nil, List.nil_append, List.cons_append, decide_eq_true_eq, Bool.not_eq_true, Bool.not_eq_true', decide_eq_false_iff_not, ne_eq, Decidable.not_not, true_and, and_true, Nat.reduceAdd, Nat.reduceLeDiff, Nat.reduceEqDiff, Nat.le_refl, not_true_eq_false, not_false_eq_true, reduceIte, eq_self, Int.reduceNeg, Int.reduceEq, Int.reduceLT, Int.reduceLE, Nat.zero_le, Nat.one_ne_zero, ev_plan, ev_plan_arr, Int.toNat_natCast, or_true]
  repeat refine And.intro (by omega) ?_
  rw [hQ102]
  clear hQ102 Q102
  refine kThen_N.mpr ?_
  refine wpS_seq' (fun Q103 hQ103 => ?_)
  simp only [wpS_skip, wpS_break, wpS_cont, wpS_retV, wpS_throw, wpS_seq, wpS_if, wpS_trunc, yS_let, yS_inc, kgK_i, kgK_r, kok_nil, kok_i0, kok_is, kok_r0, kok_rs, kok_n0, kok_ns, xS_put, xS_putOp, xS_ast0, xS_ast1, xS_astOp, wpS_E, wpS_call, wpS_callS, wpS_ret, kThen_N, kThen_B, kThen_C, kThen_R, kThen_T, kNext_N, kNext_C, kNext_B, kNext_R, wpE_K, wpE_KL, xE_I, xE_R, wpE_J, xE_bin, wpE_ladd, wpE_i2l, xE_get, xE_ald0, xE_ald1, wpE_if, xE_max, xE_min, wpE_len, wpA_nil, wpA_snoc, xE_call, xE_callS, xC_C, xC_L, xC_Z, wpC_and, wpC_or, wpC_not, wpC_if, kcmp_0, kcmp_1, kcmp_2, kcmp_3, kcmp_4, kcmp_5, rR_inj, kgO_some, kgO_add, kgO_sub, kgO_mul, kgO_div, kgO_rem, kgO_and, kvI_inl, kvJ_inl, kgI_0, kgI_s, kgR_0, kgR_s, kst_nil, kst_0, kst_s, kNLl_nil, kNLl_i, kNLl_r, kNLl_n, ktag_i, ktag_r, List.length_cons, List.length_nil, List.take_succ_cons, List.take_zero, List.take_nil, List.nil_append, List.cons_append, decide_eq_true_eq, Bool.not_eq_true, Bool.not_eq_true', decide_eq_false_iff_not, ne_eq, Decidable.not_not, true_and, and_true, Nat.reduceAdd, Nat.reduceLeDiff, Nat.reduceEqDiff, Nat.le_refl, not_true_eq_false, not_false_eq_true, reduceIte, eq_self, Int.reduceNeg, Int.reduceEq, Int.reduceLT, Int.reduceLE, Nat.zero_le, Nat.one_ne_zero, ev_plan, ev_plan_arr, Int.toNat_natCast]
  repeat refine And.intro (by omega) ?_
  rw [hQ103]
  clear hQ103 Q103
  refine kThen_N.mpr ?_
  refine wpS_seq' (fun Q104 hQ104 => ?_)
  simp only [wpS_skip, wpS_break, wpS_cont, wpS_retV, wpS_throw, wpS_seq, wpS_if, wpS_trunc, yS_let, yS_inc, kgK_i, kgK_r, kok_nil, kok_i0, kok_is, kok_r0, kok_rs, kok_n0, kok_ns, xS_put, xS_putOp, xS_ast0, xS_ast1, xS_astOp, wpS_E, wpS_call, wpS_callS, wpS_ret, kThen_N, kThen_B, kThen_C, kThen_R, kThen_T, kNext_N, kNext_C, kNext_B, kNext_R, wpE_K, wpE_KL, xE_I, xE_R, wpE_J, xE_bin, wpE_ladd, wpE_i2l, xE_get, xE_ald0, xE_ald1, wpE_if, xE_max, xE_min, wpE_len, wpA_nil, wpA_snoc, xE_call, xE_callS, xC_C, xC_L, xC_Z, wpC_and, wpC_or, wpC_not, wpC_if, kcmp_0, kcmp_1, kcmp_2, kcmp_3, kcmp_4, kcmp_5, rR_inj, kgO_some, kgO_add, kgO_sub, kgO_mul, kgO_div, kgO_rem, kgO_and, kvI_inl, kvJ_inl, kgI_0, kgI_s, kgR_0, kgR_s, kst_nil, kst_0, kst_s, kNLl_nil, kNLl_i, kNLl_r, kNLl_n, ktag_i, ktag_r, List.length_cons, List.length_nil, List.take_succ_cons, List.take_zero, List.take_nil, List.nil_append, List.cons_append, decide_eq_true_eq, Bool.not_eq_true, Bool.not_eq_true', decide_eq_false_iff_not, ne_eq, Decidable.not_not, true_and, and_true, Nat.reduceAdd, Nat.reduceLeDiff, Nat.reduceEqDiff, Nat.le_refl, not_true_eq_false, not_false_eq_true, reduceIte, eq_self, Int.reduceNeg, Int.reduceEq, Int.reduceLT, Int.reduceLE, Nat.zero_le, Nat.one_ne_zero, ev_plan, ev_plan_arr, Int.toNat_natCast]
  repeat refine And.intro (by omega) ?_
  rw [hQ104]
  clear hQ104 Q104
  refine kThen_N.mpr ?_
  have g : kup (kup (kup σ 59 st 1) 60 st (a : Int)) 61 st (b : Int) 12 0 = st := by rw [kup_ne (by decide), kup_ne (by decide), kup_ne (by decide)]; exact p1
  refine wpS_seq' (fun Q105 hQ105 => ?_)
  simp only [wpS_skip, wpS_break, wpS_cont, wpS_retV, wpS_throw, wpS_seq, wpS_if, wpS_trunc, yS_let, yS_inc, kgK_i, kgK_r, kok_nil, kok_i0, kok_is, kok_r0, kok_rs, kok_n0, kok_ns, xS_put, xS_putOp, xS_ast0, xS_ast1, xS_astOp, wpS_E, wpS_call, wpS_callS, wpS_ret, kThen_N, kThen_B, kThen_C, kThen_R, kThen_T, kNext_N, kNext_C, kNext_B, kNext_R, wpE_K, wpE_KL, xE_I, xE_R, wpE_J, xE_bin, wpE_ladd, wpE_i2l, xE_get, xE_ald0, xE_ald1, wpE_if, xE_max, xE_min, wpE_len, wpA_nil, wpA_snoc, xE_call, xE_callS, xC_C, xC_L, xC_Z, wpC_and, wpC_or, wpC_not, wpC_if, kcmp_0, kcmp_1, kcmp_2, kcmp_3, kcmp_4, kcmp_5, rR_inj, kgO_some, kgO_add, kgO_sub, kgO_mul, kgO_div, kgO_rem, kgO_and, kvI_inl, kvJ_inl, kgI_0, kgI_s, kgR_0, kgR_s, kst_nil, kst_0, kst_s, kNLl_nil, kNLl_i, kNLl_r, kNLl_n, ktag_i, ktag_r, List.length_cons, List.length_nil, List.take_succ_cons, List.take_zero, List.take_nil, List.nil_append, List.cons_append, decide_eq_true_eq, Bool.not_eq_true, Bool.not_eq_true', decide_eq_false_iff_not, ne_eq, Decidable.not_not, true_and, and_true, Nat.reduceAdd, Nat.reduceLeDiff, Nat.reduceEqDiff, Nat.le_refl, not_true_eq_false, not_false_eq_true, reduceIte, eq_self, Int.reduceNeg, Int.reduceEq, Int.reduceLT, Int.reduceLE, Nat.zero_le, Nat.one_ne_zero, ev_plan, g]
  repeat refine And.intro (by omega) ?_
  rw [hQ105]
  clear hQ105 Q105
  refine kThen_N.mpr ?_
  refine wpS_gen (fun Q106 hQ106 => ?_)
  simp only [wpS_skip, wpS_break, wpS_cont, wpS_retV, wpS_throw, wpS_seq, wpS_if, wpS_trunc, yS_let, yS_inc, kgK_i, kgK_r, kok_nil, kok_i0, kok_is, kok_r0, kok_rs, kok_n0, kok_ns, xS_put, xS_putOp, xS_ast0, xS_ast1, xS_astOp, wpS_E, wpS_call, wpS_callS, wpS_ret, kThen_N, kThen_B, kThen_C, kThen_R, kThen_T, kNext_N, kNext_C, kNext_B, kNext_R, wpE_K, wpE_KL, xE_I, xE_R, wpE_J, xE_bin, wpE_ladd, wpE_i2l, xE_get, xE_ald0, xE_ald1, wpE_if, xE_max, xE_min, wpE_len, wpA_nil, wpA_snoc, xE_call, xE_callS, xC_C, xC_L, xC_Z, wpC_and, wpC_or, wpC_not, wpC_if, kcmp_0, kcmp_1, kcmp_2, kcmp_3, kcmp_4, kcmp_5, rR_inj, kgO_some, kgO_add, kgO_sub, kgO_mul, kgO_div, kgO_rem, kgO_and, kvI_inl, kvJ_inl, kgI_0, kgI_s, kgR_0, kgR_s, kst_nil, kst_0, kst_s, kNLl_nil, kNLl_i, kNLl_r, kNLl_n, ktag_i, ktag_r, List.length_cons, List.length_nil, List.take_succ_cons, List.take_zero, List.take_nil, List.nil_append, List.cons_append, decide_eq_true_eq, Bool.not_eq_true, Bool.not_eq_true', decide_eq_false_iff_not, ne_eq, Decidable.not_not, true_and, and_true, Nat.reduceAdd, Nat.reduceLeDiff, Nat.reduceEqDiff, Nat.le_refl, not_true_eq_false, not_false_eq_true, reduceIte, eq_self, Int.reduceNeg, Int.reduceEq, Int.reduceLT, Int.reduceLE, Nat.zero_le, Nat.one_ne_zero]
  repeat refine And.intro (by omega) ?_
  rw [hQ106]
  clear hQ106 Q106
  obtain ⟨s', hs'⟩ : ∃ s', s' = kup (kup (kup (kup σ 59 st 1) 60 st (a : Int)) 61 st (b : Int)) 12 0 ((st : Int) + 1) := ⟨_, rfl⟩
  rw [← hs']
  have m1 : ∀ o k, o ≠ 12 → o ≠ 59 → o ≠ 60 → o ≠ 61 → s' o k = σ o k := by intro o k h1 h2 h3 h4; rw [hs', kup_ne h1, kup_ne h4, kup_ne h3, kup_ne h2]
  have m59 : ∀ k, s' 59 k = if k = st then 1 else σ 59 k := by intro k; rw [hs']; simp [kup]
  have m60 : ∀ k, s' 60 k = if k = st then (a : Int) else σ 60 k := by intro k; rw [hs']; simp [kup]
  have m61 : ∀ k, s' 61 k = if k = st then (b : Int) else σ 61 k := by intro k; rw [hs']; simp [kup]
  have m12 : s' 12 0 = (st : Int) + 1 := by rw [hs']; simp [kup]
  refine ⟨_, rfl, rfl, rfl, fun o k o1 o2 => m1 o k o1 (by omega) (by omega) (by omega), by rw [m12]; rfl, fun k hk => ?_, fun x hx => ?_, fun j hj => ?_⟩
  · dsimp only
    rw [m59, m60, m61, m1 _ _ (by decide) (by decide) (by decide) (by decide)]
    by_cases e : k = st
    · rw [if_pos e, if_pos e, if_pos e, if_pos e, if_pos e, if_pos e]; exact ⟨rfl, fun _ => ⟨rfl, rfl⟩, fun q => by omega⟩
    · rw [if_neg e, if_neg e, if_neg e, if_neg e, if_neg e, if_neg e]; exact p2 k (by omega)
  · rw [m1 _ _ (by decide) (by decide) (by decide) (by decide), ht]
    refine ⟨fun k hk h1 h2 => ?_, (p3 x hx).2⟩
    dsimp only at h1
    by_cases e : k = st
    · rw [if_pos e] at h1; omega
    · rw [if_neg e] at h1; exact (p3 x hx).1 k (by omega) h1 h2
  · rw [m1 _ _ (by decide) (by decide) (by decide) (by decide), ht]
    refine ⟨fun k hk h1 h2 => ?_, (p4 j hj).2⟩
    dsimp only at h1
    by_cases e : k = st
    · rw [if_pos e] at h1; omega
    · rw [if_neg e] at h1; exact (p4 j hj).1 k (by omega) h1 h2
theorem addTake_ok {x : Int} (hP : PlS σ st sp tk sf ss) (hst : st < 60) (hx : (0 ≤ x ∧ x < 5000) ∨ (x < 0 ∧ -61 < x)) (hn : ¬ tkn sp tk x st) :
    wpF F_Plan_addTake [.inr (.inl 12), .inl x] σ (fun r s => r = some (.inl (st : Int)) ∧ (∀ o k, o ≠ 12 → ¬ (58 ≤ o ∧ o ≤ 63) → s o k = σ o k) ∧
      PlS s (st + 1) (fun k => if k = st then 0 else sp k) (fun k => if k = st then x else tk k) sf ss) := by
  obtain ⟨p1, p2, p3, p4⟩ := hP
  have ht : ∀ y, tkn (fun k => if k = st then 0 else sp k) (fun k => if k = st then x else tk k) y (st + 1) ↔ (tkn sp tk y st ∨ y = x) := by
    intro y
    constructor
    · rintro ⟨k, k1, k2, k3⟩
      dsimp only at k2 k3
      by_cases e : k = st
      · rw [if_pos e] at k3; exact Or.inr k3.symm
      · rw [if_neg e] at k2 k3; exact Or.inl ⟨k, by omega, k2, k3⟩
    · rintro (⟨k, k1, k2, k3⟩ | e)
      · exact ⟨k, by omega, by dsimp only; rw [if_neg (by omega)]; exact k2, by dsimp only; rw [if_neg (by omega)]; exact k3⟩
      · exact ⟨st, by omega, if_pos rfl, by dsimp only; rw [if_pos rfl, e]⟩
  unfold F_Plan_addTake
  rw [wpF_kF]
  refine ⟨rfl, rfl, ?_⟩
  unfold s_Plan_addTake
  simp only [List.map_cons, List.map_nil]
  refine wpS_seq' (fun Q107 hQ107 => ?_)
  simp only [wpS_skip, wpS_break, wpS_cont, wpS_retV, wpS_throw, wpS_seq, wpS_if, wpS_trunc, yS_let, yS_inc, kgK_i, kgK_r, kok_nil, kok_i0, kok_is, kok_r0, kok_rs, kok_n0, kok_ns, xS_put, xS_putOp, xS_ast0, xS_ast1, xS_astOp, wpS_E, wpS_call, wpS_callS, wpS_ret, kThen_N, kThen_B, kThen_C, kThen_R, kThen_T, kNext_N, kNext_C, kNext_B, kNext_R, wpE_K, wpE_KL, xE_I, xE_R, wpE_J, xE_bin, wpE_ladd, wpE_i2l, xE_get, xE_ald0, xE_ald1, wpE_if, xE_max, xE_min, wpE_len, wpA_nil, wpA_snoc, xE_call, xE_callS, xC_C, xC_L, xC_Z, wpC_and, wpC_or, wpC_not, wpC_if, kcmp_0, kcmp_1, kcmp_2, kcmp_3, kcmp_4, kcmp_5, rR_inj, kgO_some, kgO_add, kgO_sub, kgO_mul, kgO_div, kgO_rem, kgO_and, kvI_inl, kvJ_inl, kgI_0, kgI_s, kgR_0, kgR_s, kst_nil, kst_0, kst_s, kNLl_nil, kNLl_i, kNLl_r, kNLl_n, ktag_i, ktag_r, List.length_cons, List.length_nil, List.take_succ_cons, List.take_zero, List.take_nil, List.nil_append, List.cons_append, decide_eq_true_eq, Bool.not_eq_true, Bool.not_eq_true', decide_eq_false_iff_not, ne_eq, Decidable.not_not, true_and, and_true, Nat.reduceAdd, Nat.reduceLeDiff, Nat.reduceEqDiff, Nat.le_refl, not_true_eq_false, not_false_eq_true, reduceIte, eq_self, Int.reduceNeg, Int.reduceEq, Int.reduceLT, Int.reduceLE, Nat.zero_le, Nat.one_ne_zero, ev_plan, p1]
  repeat refine And.intro (by omega) ?_
  rw [hQ107]
  clear hQ107 Q107
  refine kThen_N.mpr ?_
  refine wpS_seq' (fun Q108 hQ108 => ?_)
  simp only [wpS_skip, wpS_break, wpS_cont, wpS_retV, wpS_throw, wpS_seq, wpS_if, wpS_trunc, yS_let, yS_inc, kgK_i, kgK_r, kok_nil, kok_i0, kok_is, kok_r0, kok_rs, kok_n0, kok_ns, xS_put, xS_putOp, xS_ast0, xS_ast1, xS_astOp, wpS_E, wpS_call, wpS_callS, wpS_ret, kThen_N, kThen_B, kThen_C, kThen_R, kThen_T, kNext_N, kNext_C, kNext_B, kNext_R, wpE_K, wpE_KL, xE_I, xE_R, wpE_J, xE_bin, wpE_ladd, wpE_i2l, xE_get, xE_ald0, xE_ald1, wpE_if, xE_max, xE_min, wpE_len, wpA_nil, wpA_snoc, xE_call, xE_callS, xC_C, xC_L, xC_Z, wpC_and, wpC_or, wpC_not, wpC_if, kcmp_0, kcmp_1, kcmp_2, kcmp_3, kcmp_4, kcmp_5, rR_inj, kgO_some, kgO_add, kgO_sub, kgO_mul, kgO_div, kgO_rem, kgO_and, kvI_inl, kvJ_inl, kgI_0, kgI_s, kgR_0, kgR_s, kst_nil, kst_0, kst_s, kNLl_nil, kNLl_i, kNLl_r, kNLl_n, ktag_i, ktag_r, List.length_cons, List.length_nil, List.take_succ_cons, List.take_zero, List.take_nil, List.nil_append, List.cons_append, decide_eq_true_eq, Bool.not_eq_true, Bool.not_eq_true', decide_eq_false_iff_not, ne_eq, Decidable.not_not, true_and, and_true, Nat.reduceAdd, Nat.reduceLeDiff, Nat.reduceEqDiff, Nat.le_refl, not_true_eq_false, not_false_eq_true, reduceIte, eq_self, Int.reduceNeg, Int.reduceEq, Int.reduceLT, Int.reduceLE, Nat.zero_le, Nat.one_ne_zero, ev_plan, ev_plan_arr, Int.toNat_natCast, true_or]
  repeat refine And.intro (by omega) ?_
  rw [hQ108]
  clear hQ108 Q108
  refine kThen_N.mpr ?_
  refine wpS_seq' (fun Q109 hQ109 => ?_)
  simp only [wpS_skip, wpS_break, wpS_cont, wpS_retV, wpS_throw, wpS_seq, wpS_if, wpS_trunc, yS_let, yS_inc, kgK_i, kgK_r, kok_nil, kok_i0, kok_is, kok_r0, kok_rs, kok_n0, kok_ns, xS_put, xS_putOp, xS_ast0, xS_ast1, xS_astOp, wpS_E, wpS_call, wpS_callS, wpS_ret, kThen_N, kThen_B, kThen_C, kThen_R, kThen_T, kNext_N, kNext_C, kNext_B, kNext_R, wpE_K, wpE_KL, xE_I, xE_R, wpE_J, xE_bin, wpE_ladd, wpE_i2l, xE_get, xE_ald0, xE_ald1, wpE_if, xE_max, xE_min, wpE_len, wpA_nil, wpA_snoc, xE_call, xE_callS, xC_C, xC_L, xC_Z, wpC_and, wpC_or, wpC_not, wpC_if, kcmp_0, kcmp_1, kcmp_2, kcmp_3, kcmp_4, kcmp_5, rR_inj, kgO_some, kgO_add, kgO_sub, kgO_mul, kgO_div, kgO_rem, kgO_and, kvI_inl, kvJ_inl, kgI_0, kgI_s, kgR_0, kgR_s, kst_nil, kst_0, kst_s, kNLl_nil, kNLl_i, kNLl_r, kNLl_n, ktag_i, ktag_r, List.length_cons, List.length_nil, List.take_succ_cons, List.take_zero, List.take_nil, List.nil_append, List.cons_append, decide_eq_true_eq, Bool.not_eq_true, Bool.not_eq_true', decide_eq_false_iff_not, ne_eq, Decidable.not_not, true_and, and_true, Nat.reduceAdd, Nat.reduceLeDiff, Nat.reduceEqDiff, Nat.le_refl, not_true_eq_false, not_false_eq_true, reduceIte, eq_self, Int.reduceNeg, Int.reduceEq, Int.reduceLT, Int.reduceLE, Nat.zero_le, Nat.one_ne_zero, ev_plan, ev_plan_arr, Int.toNat_natCast]
  repeat refine And.intro (by omega) ?_
  rw [hQ109]
  clear hQ109 Q109
  refine kThen_N.mpr ?_
  refine wpS_seq' (fun Q110 hQ110 => ?_)
  simp only [wpS_skip, wpS_break, wpS_cont, wpS_retV, wpS_throw, wpS_seq, wpS_if, wpS_trunc, yS_let, yS_inc, kgK_i, kgK_r, kok_nil, kok_i0, kok_is, kok_r0, kok_rs, kok_n0, kok_ns, xS_put, xS_putOp, xS_ast0, xS_ast1, xS_astOp, wpS_E, wpS_call, wpS_callS, wpS_ret, kThen_N, kThen_B, kThen_C, kThen_R, kThen_T, kNext_N, kNext_C, kNext_B, kNext_R, wpE_K, wpE_KL, xE_I, xE_R, wpE_J, xE_bin, wpE_ladd, wpE_i2l, xE_get, xE_ald0, xE_ald1, wpE_if, xE_max, xE_min, wpE_len, wpA_nil, wpA_snoc, xE_call, xE_callS, xC_C, xC_L, xC_Z, wpC_and, wpC_or, wpC_not, wpC_if, kcmp_0, kcmp_1, kcmp_2, kcmp_3, kcmp_4, kcmp_5, rR_inj, kgO_some, kgO_add, kgO_sub, kgO_mul, kgO_div, kgO_rem, kgO_and, kvI_inl, kvJ_inl, kgI_0, kgI_s, kgR_0, kgR_s, kst_nil, kst_0, kst_s, kNLl_nil, kNLl_i, kNLl_r, kNLl_n, ktag_i, ktag_r, List.length_cons, List.length_nil, List.take_succ_cons, List.take_zero, List.take_nil, List.nil_append, List.cons_append, decide_eq_true_eq, Bool.not_eq_true, Bool.not_eq_true', decide_eq_false_iff_not, ne_eq, Decidable.not_not, true_and, and_true, Nat.reduceAdd, Nat.reduceLeDiff, Nat.reduceEqDiff, Nat.le_refl, not_true_eq_false, not_false_eq_true, reduceIte, eq_self, Int.reduceNeg, Int.reduceEq, Int.reduceLT, Int.reduceLE, Nat.zero_le, Nat.one_ne_zero, ev_plan]
  refine (setTaker_ok hx).mono ?_
  rintro r s1 ⟨rfl, hs1⟩
  refine ⟨rfl, ?_⟩
  rw [hQ110]
  clear hQ110
  refine kThen_N.mpr ?_
  have k1 : ∀ o k, o ≠ 58 → o ≠ 59 → o ≠ 62 → o ≠ 63 → s1 o k = σ o k := by
    intro o k h1 h2 h3 h4; rw [hs1]; split <;> (rw [kup_ne (by assumption), kup_ne h1, kup_ne h2])
  have k58 : ∀ k, s1 58 k = if k = st then x else σ 58 k := by intro k; rw [hs1]; split <;> simp [kup]
  have k59 : ∀ k, s1 59 k = if k = st then 0 else σ 59 k := by intro k; rw [hs1]; split <;> simp [kup]
  have k62 : ∀ y : Nat, s1 62 y = if (y : Int) = x then (st : Int) else σ 62 y := by
    intro y; rw [hs1]
    by_cases h : 0 ≤ x
    · rw [if_pos h, kup_eq, kup_ne (by decide), kup_ne (by decide)]
      by_cases e : (y : Int) = x
      · rw [if_pos e, if_pos (by omega)]
      · rw [if_neg e, if_neg (by omega)]
    · rw [if_neg h, kup_ne (by decide), kup_ne (by decide), kup_ne (by decide), if_neg (by omega)]
  have k63 : ∀ j : Nat, s1 63 j = if -1 - (j : Int) = x then (st : Int) else σ 63 j := by
    intro j; rw [hs1]
    by_cases h : 0 ≤ x
    · rw [if_pos h, kup_ne (by decide), kup_ne (by decide), kup_ne (by decide), if_neg (by omega)]
    · rw [if_neg h, kup_eq, kup_ne (by decide), kup_ne (by decide)]
      by_cases e : -1 - (j : Int) = x
      · rw [if_pos e, if_pos (by omega)]
      · rw [if_neg e, if_neg (by omega)]
  clear hs1
  have g : s1 12 0 = st := by rw [k1 _ _ (by decide) (by decide) (by decide) (by decide)]; exact p1
  refine wpS_seq' (fun Q111 hQ111 => ?_)
  simp only [wpS_skip, wpS_break, wpS_cont, wpS_retV, wpS_throw, wpS_seq, wpS_if, wpS_trunc, yS_let, yS_inc, kgK_i, kgK_r, kok_nil, kok_i0, kok_is, kok_r0, kok_rs, kok_n0, kok_ns, xS_put, xS_putOp, xS_ast0, xS_ast1, xS_astOp, wpS_E, wpS_call, wpS_callS, wpS_ret, kThen_N, kThen_B, kThen_C, kThen_R, kThen_T, kNext_N, kNext_C, kNext_B, kNext_R, wpE_K, wpE_KL, xE_I, xE_R, wpE_J, xE_bin, wpE_ladd, wpE_i2l, xE_get, xE_ald0, xE_ald1, wpE_if, xE_max, xE_min, wpE_len, wpA_nil, wpA_snoc, xE_call, xE_callS, xC_C, xC_L, xC_Z, wpC_and, wpC_or, wpC_not, wpC_if, kcmp_0, kcmp_1, kcmp_2, kcmp_3, kcmp_4, kcmp_5, rR_inj, kgO_some, kgO_add, kgO_sub, kgO_mul, kgO_div, kgO_rem, kgO_and, kvI_inl, kvJ_inl, kgI_0, kgI_s, kgR_0, kgR_s, kst_nil, kst_0, kst_s, kNLl_nil, kNLl_i, kNLl_r, kNLl_n, ktag_i, ktag_r, List.length_cons, List.length_nil, List.take_succ_cons, List.take_zero, List.take_nil, List.nil_append, List.cons_append, decide_eq_true_eq, Bool.not_eq_true, Bool.not_eq_true', decide_eq_false_iff_not, ne_eq, Decidable.not_not, true_and, and_true, Nat.reduceAdd, Nat.reduceLeDiff, Nat.reduceEqDiff, Nat.le_refl, not_true_eq_false, not_false_eq_true, reduceIte, eq_self, Int.reduceNeg, Int.reduceEq, Int.reduceLT, Int.reduceLE, Nat.zero_le, Nat.one_ne_zero, ev_plan, g]
  repeat refine And.intro (by omega) ?_
  rw [hQ111]
  clear hQ111 Q111
  refine kThen_N.mpr ?_
  refine wpS_gen (fun Q112 hQ112 => ?_)
  simp only [wpS_skip, wpS_break, wpS_cont, wpS_retV, wpS_throw, wpS_seq, wpS_if, wpS_trunc, yS_let, yS_inc, kgK_i, kgK_r, kok_nil, kok_i0, kok_is, kok_r0, kok_rs, kok_n0, kok_ns, xS_put, xS_putOp, xS_ast0, xS_ast1, xS_astOp, wpS_E, wpS_call, wpS_callS, wpS_ret, kThen_N, kThen_B, kThen_C, kThen_R, kThen_T, kNext_N, kNext_C, kNext_B, kNext_R, wpE_K, wpE_KL, xE_I, xE_R, wpE_J, xE_bin, wpE_ladd, wpE_i2l, xE_get, xE_ald0, xE_ald1, wpE_if, xE_max, xE_min, wpE_len, wpA_nil, wpA_snoc, xE_call, xE_callS, xC_C, xC_L, xC_Z, wpC_and, wpC_or, wpC_not, wpC_if, kcmp_0, kcmp_1, kcmp_2, kcmp_3, kcmp_4, kcmp_5, rR_inj, kgO_some, kgO_add, kgO_sub, kgO_mul, kgO_div, kgO_rem, kgO_and, kvI_inl, kvJ_inl, kgI_0, kgI_s, kgR_0, kgR_s, kst_nil, kst_0, kst_s, kNLl_nil, kNLl_i, kNLl_r, kNLl_n, ktag_i, ktag_r, List.length_cons, List.length_nil, List.take_succ_cons, List.take_zero, List.take_nil, List.nil_append, List.cons_append, decide_eq_true_eq, Bool.not_eq_true, Bool.not_eq_true', decide_eq_false_iff_not, ne_eq, Decidable.not_not, true_and, and_true, Nat.reduceAdd, Nat.reduceLeDiff, Nat.reduceEqDiff, Nat.le_refl, not_true_eq_false, not_false_eq_true, reduceIte, eq_self, Int.reduceNeg, Int.reduceEq, Int.reduceLT, Int.reduceLE, Nat.zero_le, Nat.one_ne_zero]
  repeat refine And.intro (by omega) ?_
  rw [hQ112]
  clear hQ112 Q112
  have kk : ∀ o k, o ≠ 12 → kup s1 12 0 ((st : Int) + 1) o k = s1 o k := fun o k h => by rw [kup_ne h]
  refine ⟨_, rfl, rfl, rfl, fun o k o1 o2 => by rw [kk o k o1, k1 o k (by omega) (by omega) (by omega) (by omega)], by simp [kup], fun k hk => ?_, fun y hy => ?_, fun j hj => ?_⟩
  · dsimp only
    rw [kk _ _ (by decide), kk _ _ (by decide), kk _ _ (by decide), kk _ _ (by decide), k58, k59, k1 _ _ (by decide) (by decide) (by decide) (by decide), k1 _ _ (by decide) (by decide) (by decide) (by decide)]
    by_cases e : k = st
    · rw [if_pos e, if_pos e, if_pos e, if_pos e]; exact ⟨rfl, fun q => by omega, fun _ => rfl⟩
    · rw [if_neg e, if_neg e, if_neg e, if_neg e]; exact p2 k (by omega)
  · rw [kk _ _ (by decide), k62, ht]
    refine ⟨fun k hk h1 h2 => ?_, fun hno => ?_⟩
    · dsimp only at h1 h2
      by_cases e : k = st
      · rw [if_pos e] at h2; rw [if_pos h2.symm, e]
      · rw [if_neg e] at h1 h2
        rw [if_neg (fun q => hn ⟨k, by omega, h1, by rw [h2, q]⟩)]
        exact (p3 y hy).1 k (by omega) h1 h2
    · rw [if_neg (fun q => hno (Or.inr q))]
      exact (p3 y hy).2 (fun q => hno (Or.inl q))
  · rw [kk _ _ (by decide), k63, ht]
    refine ⟨fun k hk h1 h2 => ?_, fun hno => ?_⟩
    · dsimp only at h1 h2
      by_cases e : k = st
      · rw [if_pos e] at h2; rw [if_pos h2.symm, e]
      · rw [if_neg e] at h1 h2
        rw [if_neg (fun q => hn ⟨k, by omega, h1, by rw [h2, q]⟩)]
        exact (p4 j hj).1 k (by omega) h1 h2
    · rw [if_neg (fun q => hno (Or.inr q))]
      exact (p4 j hj).2 (fun q => hno (Or.inl q))
theorem isLeft_ok {t m : Int} : wpF F_Plan_isLeft [.inr (.inl 12), .inl t, .inl m] σ (fun r s => s = σ ∧ (((t = -1 ∨ m ≤ t) ∧ r = some (.inl 1)) ∨ (¬ (t = -1 ∨ m ≤ t) ∧ r = some (.inl 0)))) := by
  unfold F_Plan_isLeft
  rw [wpF_kF]
  refine ⟨rfl, rfl, ?_⟩
  unfold s_Plan_isLeft
  simp only [List.map_cons, List.map_nil]
  refine wpS_gen (fun Q1 hQ1 => ?_)
  by_cases h1 : t = -1
  · simp only [wpS_skip, wpS_break, wpS_cont, wpS_retV, wpS_throw, wpS_seq, wpS_if, wpS_trunc, yS_let, yS_inc, kgK_i, kgK_r, kok_nil, kok_i0, kok_is, kok_r0, kok_rs, kok_n0, kok_ns, xS_put, xS_putOp, xS_ast0, xS_ast1, xS_astOp, wpS_E, wpS_call, wpS_callS, wpS_ret, kThen_N, kThen_B, kThen_C, kThen_R, kThen_T, kNext_N, kNext_C, kNext_B, kNext_R, wpE_K, wpE_KL, xE_I, xE_R, wpE_J, xE_bin, wpE_ladd, wpE_i2l, xE_get, xE_ald0, xE_ald1, wpE_if, xE_max, xE_min, wpE_len, wpA_nil, wpA_snoc, xE_call, xE_callS, xC_C, xC_L, xC_Z, wpC_and, wpC_or, wpC_not, wpC_if, kcmp_0, kcmp_1, kcmp_2, kcmp_3, kcmp_4, kcmp_5, rR_inj, kgO_some, kgO_add, kgO_sub, kgO_mul, kgO_div, kgO_rem, kgO_and, kvI_inl, kvJ_inl, kgI_0, kgI_s, kgR_0, kgR_s, kst_nil, kst_0, kst_s, kNLl_nil, kNLl_i, kNLl_r, kNLl_n, ktag_i, ktag_r, List.length_cons, List.length_nil, List.take_succ_cons, List.take_zero, List.take_nil, List.nil_append, List.cons_append, decide_eq_true_eq, Bool.not_eq_true, Bool.not_eq_true', decide_eq_false_iff_not, ne_eq, Decidable.not_not, true_and, and_true, Nat.reduceAdd, Nat.reduceLeDiff, Nat.reduceEqDiff, Nat.le_refl, not_true_eq_false, not_false_eq_true, reduceIte, eq_self, Int.reduceNeg, Int.reduceEq, Int.reduceLT, Int.reduceLE, Nat.zero_le, Nat.one_ne_zero, h1, decide_true, decide_false, Bool.false_eq_true, if_true, if_false, true_and, and_true, not_true_eq_false, not_false_eq_true]
    rw [hQ1]
    exact ⟨_, rfl, rfl, rfl, Or.inl ⟨Or.inl h1, rfl⟩⟩
  · by_cases h2 : m ≤ t
    · simp only [wpS_skip, wpS_break, wpS_cont, wpS_retV, wpS_throw, wpS_seq, wpS_if, wpS_trunc, yS_let, yS_inc, kgK_i, kgK_r, kok_nil, kok_i0, kok_is, kok_r0, kok_rs, kok_n0, kok_ns, xS_put, xS_putOp, xS_ast0, xS_ast1, xS_astOp, wpS_E, wpS_call, wpS_callS, wpS_ret, kThen_N, kThen_B, kThen_C, kThen_R, kThen_T, kNext_N, kNext_C, kNext_B, kNext_R, wpE_K, wpE_KL, xE_I, xE_R, wpE_J, xE_bin, wpE_ladd, wpE_i2l, xE_get, xE_ald0, xE_ald1, wpE_if, xE_max, xE_min, wpE_len, wpA_nil, wpA_snoc, xE_call, xE_callS, xC_C, xC_L, xC_Z, wpC_and, wpC_or, wpC_not, wpC_if, kcmp_0, kcmp_1, kcmp_2, kcmp_3, kcmp_4, kcmp_5, rR_inj, kgO_some, kgO_add, kgO_sub, kgO_mul, kgO_div, kgO_rem, kgO_and, kvI_inl, kvJ_inl, kgI_0, kgI_s, kgR_0, kgR_s, kst_nil, kst_0, kst_s, kNLl_nil, kNLl_i, kNLl_r, kNLl_n, ktag_i, ktag_r, List.length_cons, List.length_nil, List.take_succ_cons, List.take_zero, List.take_nil, List.nil_append, List.cons_append, decide_eq_true_eq, Bool.not_eq_true, Bool.not_eq_true', decide_eq_false_iff_not, ne_eq, Decidable.not_not, true_and, and_true, Nat.reduceAdd, Nat.reduceLeDiff, Nat.reduceEqDiff, Nat.le_refl, not_true_eq_false, not_false_eq_true, reduceIte, eq_self, Int.reduceNeg, Int.reduceEq, Int.reduceLT, Int.reduceLE, Nat.zero_le, Nat.one_ne_zero, h1, h2, decide_true, decide_false, Bool.false_eq_true, if_true, if_false, true_and, and_true, not_true_eq_false, not_false_eq_true]
      rw [hQ1]
      exact ⟨_, rfl, rfl, rfl, Or.inl ⟨Or.inr h2, rfl⟩⟩
    · simp only [wpS_skip, wpS_break, wpS_cont, wpS_retV, wpS_throw, wpS_seq, wpS_if, wpS_trunc, yS_let, yS_inc, kgK_i, kgK_r, kok_nil, kok_i0, kok_is, kok_r0, kok_rs, kok_n0, kok_ns, xS_put, xS_putOp, xS_ast0, xS_ast1, xS_astOp, wpS_E, wpS_call, wpS_callS, wpS_ret, kThen_N, kThen_B, kThen_C, kThen_R, kThen_T, kNext_N, kNext_C, kNext_B, kNext_R, wpE_K, wpE_KL, xE_I, xE_R, wpE_J, xE_bin, wpE_ladd, wpE_i2l, xE_get, xE_ald0, xE_ald1, wpE_if, xE_max, xE_min, wpE_len, wpA_nil, wpA_snoc, xE_call, xE_callS, xC_C, xC_L, xC_Z, wpC_and, wpC_or, wpC_not, wpC_if, kcmp_0, kcmp_1, kcmp_2, kcmp_3, kcmp_4, kcmp_5, rR_inj, kgO_some, kgO_add, kgO_sub, kgO_mul, kgO_div, kgO_rem, kgO_and, kvI_inl, kvJ_inl, kgI_0, kgI_s, kgR_0, kgR_s, kst_nil, kst_0, kst_s, kNLl_nil, kNLl_i, kNLl_r, kNLl_n, ktag_i, ktag_r, List.length_cons, List.length_nil, List.take_succ_cons, List.take_zero, List.take_nil, List.nil_append, List.cons_append, decide_eq_true_eq, Bool.not_eq_true, Bool.not_eq_true', decide_eq_false_iff_not, ne_eq, Decidable.not_not, true_and, and_true, Nat.reduceAdd, Nat.reduceLeDiff, Nat.reduceEqDiff, Nat.le_refl, not_true_eq_false, not_false_eq_true, reduceIte, eq_self, Int.reduceNeg, Int.reduceEq, Int.reduceLT, Int.reduceLE, Nat.zero_le, Nat.one_ne_zero, h1, h2, decide_true, decide_false, Bool.false_eq_true, if_true, if_false, true_and, and_true, not_true_eq_false, not_false_eq_true]
      rw [hQ1]
      exact ⟨_, rfl, rfl, rfl, Or.inr ⟨fun q => q.elim h1 h2, rfl⟩⟩
end PL
