/-! THE CLASS'S JOINER joins: the methods -/
section JN3
variable {σ : kS} {n : Nat} {A : Nat → Nat → Prop} {ov tu hd ht sd : Nat → Nat} {od : Nat → Prop}
theorem jJoin_ok {a b : Nat} (hn : n ≤ 300) (hJ : jnOk n A ov tu hd ht sd od) (hS : JnS σ n ov tu hd od) (ha : a < n) (hb : b < n) :
    wpF F_Joiner_join [.inr (.inl 11), .inl (a : Int), .inl (b : Int)] σ (fun r s => (∀ o k, o ≠ 11 → o ≠ 54 → o ≠ 55 → o ≠ 56 → o ≠ 57 → s o k = σ o k) ∧ ((rch (jE A) a b ∧ r = some (.inl 0)) ∨ (¬ rch (jE A) a b ∧ r = some (.inl 1))) ∧
      ∃ ov' tu' hd' ht' sd' od', jnOk n (addP A a b) ov' tu' hd' ht' sd' od' ∧ JnS s n ov' tu' hd' od') := by
  obtain ⟨S1, S2, S3, M, S4, S5, S6, S7⟩ := id hS
  have h54 : ∀ v, v < n → σ 54 v = (ov v : Int) ∧ σ 55 v = (tu v : Int) := fun v hv => ⟨(S1 v hv).1, (S1 v hv).2.1⟩
  have sd1 : ∀ w, w < n → sd w ≤ 1 := by
    intro w hw
    rcases (hJ.1 w hw).2.2.2.2.1 with ⟨-, -, -, q⟩ | ⟨-, -, -, q⟩ <;> omega
  have hiff : rch (jE A) a b ↔ hd a = hd b := by
    refine ⟨fun hr => ?_, hJ.2.2.1 a b ha hb⟩
    refine rch.closed (S := fun w => hd a = hd w) ?_ rfl hr
    rintro x y hx (h | h)
    · exact hx.trans (hJ.2.1 x y h).2.2
    · exact hx.trans (hJ.2.1 y x h).2.2.symm
  obtain ⟨ga1, ga2, ga3, -⟩ := hJ.1 a ha
  obtain ⟨gb1, gb2, gb3, -⟩ := hJ.1 b hb
  have sa := sd1 a ha
  have sb := sd1 b hb
  have hpb := @cntP_bound (fun v => hd v = v) n
  have heb := @cntP_bound (fun v => hd v = v ∧ ¬ od v) n
  obtain ⟨z, hz⟩ : ∃ z, z = (sd a + sd b + 1) % 2 := ⟨_, rfl⟩
  have ez : (if (if (sd a : Int) = (sd b : Int) then (0 : Int) else 1) = 1 then (0 : Int) else 1) = (z : Int) := by
    by_cases q : (sd a : Int) = (sd b : Int)
    · simp only [q, if_true]; omega
    · simp only [q, if_false, if_true]; omega
  have hz1 : z ≤ 1 := by omega
  unfold F_Joiner_join
  rw [wpF_kF]
  refine ⟨rfl, rfl, ?_⟩
  unfold s_Joiner_join
  simp only [List.map_cons, List.map_nil]
  refine wpS_seq' (fun Q101 hQ101 => ?_)
  simp only [wpS_skip, wpS_break, wpS_cont, wpS_retV, wpS_throw, wpS_seq, wpS_if, wpS_trunc, yS_let, yS_inc, kgK_i, kgK_r, kok_nil, kok_i0, kok_is, kok_r0, kok_rs, kok_n0, kok_ns, xS_put, xS_putOp, xS_ast0, xS_ast1, xS_astOp, wpS_E, wpS_call, wpS_callS, wpS_ret, kThen_N, kThen_B, kThen_C, kThen_R, kThen_T, kNext_N, kNext_C, kNext_B, kNext_R, wpE_K, wpE_KL, xE_I, xE_R, wpE_J, xE_bin, wpE_ladd, wpE_i2l, xE_get, xE_ald0, xE_ald1, wpE_if, xE_max, xE_min, wpE_len, wpA_nil, wpA_snoc, xE_call, xE_callS, xC_C, xC_L, xC_Z, wpC_and, wpC_or, wpC_not, wpC_if, kcmp_0, kcmp_1, kcmp_2, kcmp_3, kcmp_4, kcmp_5, rR_inj, kgO_some, kgO_add, kgO_sub, kgO_mul, kgO_div, kgO_rem, kgO_and, kvI_inl, kvJ_inl, kgI_0, kgI_s, kgR_0, kgR_s, kst_nil, kst_0, kst_s, kNLl_nil, kNLl_i, kNLl_r, kNLl_n, ktag_i, ktag_r, List.length_cons, List.length_nil, List.take_succ_cons, List.take_zero, List.take_nil, List.nil_append, List.cons_append, decide_eq_true_eq, Bool.not_eq_true, Bool.not_eq_true', decide_eq_false_iff_not, ne_eq, Decidable.not_not, true_and, and_true, Nat.reduceAdd, Nat.reduceLeDiff, Nat.reduceEqDiff, Nat.le_refl, not_true_eq_false, not_false_eq_true, reduceIte, eq_self, Int.reduceNeg, Int.reduceEq, Int.reduceLT, Int.reduceLE, Nat.zero_le, Nat.one_ne_zero, ev_joiner]
  refine (headOf_ok hn hJ (fun v hv => (h54 v hv).1) ha).mono ?_
  rintro r s ⟨hs, rfl⟩
  subst s
  rw [kgO_some]
  simp only [wpS_skip, wpS_break, wpS_cont, wpS_retV, wpS_throw, wpS_seq, wpS_if, wpS_trunc, yS_let, yS_inc, kgK_i, kgK_r, kok_nil, kok_i0, kok_is, kok_r0, kok_rs, kok_n0, kok_ns, xS_put, xS_putOp, xS_ast0, xS_ast1, xS_astOp, wpS_E, wpS_call, wpS_callS, wpS_ret, kThen_N, kThen_B, kThen_C, kThen_R, kThen_T, kNext_N, kNext_C, kNext_B, kNext_R, wpE_K, wpE_KL, xE_I, xE_R, wpE_J, xE_bin, wpE_ladd, wpE_i2l, xE_get, xE_ald0, xE_ald1, wpE_if, xE_max, xE_min, wpE_len, wpA_nil, wpA_snoc, xE_call, xE_callS, xC_C, xC_L, xC_Z, wpC_and, wpC_or, wpC_not, wpC_if, kcmp_0, kcmp_1, kcmp_2, kcmp_3, kcmp_4, kcmp_5, rR_inj, kgO_some, kgO_add, kgO_sub, kgO_mul, kgO_div, kgO_rem, kgO_and, kvI_inl, kvJ_inl, kgI_0, kgI_s, kgR_0, kgR_s, kst_nil, kst_0, kst_s, kNLl_nil, kNLl_i, kNLl_r, kNLl_n, ktag_i, ktag_r, List.length_cons, List.length_nil, List.take_succ_cons, List.take_zero, List.take_nil, List.nil_append, List.cons_append, decide_eq_true_eq, Bool.not_eq_true, Bool.not_eq_true', decide_eq_false_iff_not, ne_eq, Decidable.not_not, true_and, and_true, Nat.reduceAdd, Nat.reduceLeDiff, Nat.reduceEqDiff, Nat.le_refl, not_true_eq_false, not_false_eq_true, reduceIte, eq_self, Int.reduceNeg, Int.reduceEq, Int.reduceLT, Int.reduceLE, Nat.zero_le, Nat.one_ne_zero]
  rw [hQ101]
  clear hQ101
  refine kThen_N.mpr ?_
  refine wpS_seq' (fun Q102 hQ102 => ?_)
  simp only [wpS_skip, wpS_break, wpS_cont, wpS_retV, wpS_throw, wpS_seq, wpS_if, wpS_trunc, yS_let, yS_inc, kgK_i, kgK_r, kok_nil, kok_i0, kok_is, kok_r0, kok_rs, kok_n0, kok_ns, xS_put, xS_putOp, xS_ast0, xS_ast1, xS_astOp, wpS_E, wpS_call, wpS_callS, wpS_ret, kThen_N, kThen_B, kThen_C, kThen_R, kThen_T, kNext_N, kNext_C, kNext_B, kNext_R, wpE_K, wpE_KL, xE_I, xE_R, wpE_J, xE_bin, wpE_ladd, wpE_i2l, xE_get, xE_ald0, xE_ald1, wpE_if, xE_max, xE_min, wpE_len, wpA_nil, wpA_snoc, xE_call, xE_callS, xC_C, xC_L, xC_Z, wpC_and, wpC_or, wpC_not, wpC_if, kcmp_0, kcmp_1, kcmp_2, kcmp_3, kcmp_4, kcmp_5, rR_inj, kgO_some, kgO_add, kgO_sub, kgO_mul, kgO_div, kgO_rem, kgO_and, kvI_inl, kvJ_inl, kgI_0, kgI_s, kgR_0, kgR_s, kst_nil, kst_0, kst_s, kNLl_nil, kNLl_i, kNLl_r, kNLl_n, ktag_i, ktag_r, List.length_cons, List.length_nil, List.take_succ_cons, List.take_zero, List.take_nil, List.nil_append, List.cons_append, decide_eq_true_eq, Bool.not_eq_true, Bool.not_eq_true', decide_eq_false_iff_not, ne_eq, Decidable.not_not, true_and, and_true, Nat.reduceAdd, Nat.reduceLeDiff, Nat.reduceEqDiff, Nat.le_refl, not_true_eq_false, not_false_eq_true, reduceIte, eq_self, Int.reduceNeg, Int.reduceEq, Int.reduceLT, Int.reduceLE, Nat.zero_le, Nat.one_ne_zero, ev_joiner]
  refine (headOf_ok hn hJ (fun v hv => (h54 v hv).1) hb).mono ?_
  rintro r s ⟨hs, rfl⟩
  subst s
  rw [kgO_some]
  simp only [wpS_skip, wpS_break, wpS_cont, wpS_retV, wpS_throw, wpS_seq, wpS_if, wpS_trunc, yS_let, yS_inc, kgK_i, kgK_r, kok_nil, kok_i0, kok_is, kok_r0, kok_rs, kok_n0, kok_ns, xS_put, xS_putOp, xS_ast0, xS_ast1, xS_astOp, wpS_E, wpS_call, wpS_callS, wpS_ret, kThen_N, kThen_B, kThen_C, kThen_R, kThen_T, kNext_N, kNext_C, kNext_B, kNext_R, wpE_K, wpE_KL, xE_I, xE_R, wpE_J, xE_bin, wpE_ladd, wpE_i2l, xE_get, xE_ald0, xE_ald1, wpE_if, xE_max, xE_min, wpE_len, wpA_nil, wpA_snoc, xE_call, xE_callS, xC_C, xC_L, xC_Z, wpC_and, wpC_or, wpC_not, wpC_if, kcmp_0, kcmp_1, kcmp_2, kcmp_3, kcmp_4, kcmp_5, rR_inj, kgO_some, kgO_add, kgO_sub, kgO_mul, kgO_div, kgO_rem, kgO_and, kvI_inl, kvJ_inl, kgI_0, kgI_s, kgR_0, kgR_s, kst_nil, kst_0, kst_s, kNLl_nil, kNLl_i, kNLl_r, kNLl_n, ktag_i, ktag_r, List.length_cons, List.length_nil, List.take_succ_cons, List.take_zero, List.take_nil, List.nil_append, List.cons_append, decide_eq_true_eq, Bool.not_eq_true, Bool.not_eq_true', decide_eq_false_iff_not, ne_eq, Decidable.not_not, true_and, and_true, Nat.reduceAdd, Nat.reduceLeDiff, Nat.reduceEqDiff, Nat.le_refl, not_true_eq_false, not_false_eq_true, reduceIte, eq_self, Int.reduceNeg, Int.reduceEq, Int.reduceLT, Int.reduceLE, Nat.zero_le, Nat.one_ne_zero]
  rw [hQ102]
  clear hQ102
  refine kThen_N.mpr ?_
  refine wpS_seq' (fun Q3 hQ3 => ?_)
  simp only [wpS_skip, wpS_break, wpS_cont, wpS_retV, wpS_throw, wpS_seq, wpS_if, wpS_trunc, yS_let, yS_inc, kgK_i, kgK_r, kok_nil, kok_i0, kok_is, kok_r0, kok_rs, kok_n0, kok_ns, xS_put, xS_putOp, xS_ast0, xS_ast1, xS_astOp, wpS_E, wpS_call, wpS_callS, wpS_ret, kThen_N, kThen_B, kThen_C, kThen_R, kThen_T, kNext_N, kNext_C, kNext_B, kNext_R, wpE_K, wpE_KL, xE_I, xE_R, wpE_J, xE_bin, wpE_ladd, wpE_i2l, xE_get, xE_ald0, xE_ald1, wpE_if, xE_max, xE_min, wpE_len, wpA_nil, wpA_snoc, xE_call, xE_callS, xC_C, xC_L, xC_Z, wpC_and, wpC_or, wpC_not, wpC_if, kcmp_0, kcmp_1, kcmp_2, kcmp_3, kcmp_4, kcmp_5, rR_inj, kgO_some, kgO_add, kgO_sub, kgO_mul, kgO_div, kgO_rem, kgO_and, kvI_inl, kvJ_inl, kgI_0, kgI_s, kgR_0, kgR_s, kst_nil, kst_0, kst_s, kNLl_nil, kNLl_i, kNLl_r, kNLl_n, ktag_i, ktag_r, List.length_cons, List.length_nil, List.take_succ_cons, List.take_zero, List.take_nil, List.nil_append, List.cons_append, decide_eq_true_eq, Bool.not_eq_true, Bool.not_eq_true', decide_eq_false_iff_not, ne_eq, Decidable.not_not, true_and, and_true, Nat.reduceAdd, Nat.reduceLeDiff, Nat.reduceEqDiff, Nat.le_refl, not_true_eq_false, not_false_eq_true, reduceIte, eq_self, Int.reduceNeg, Int.reduceEq, Int.reduceLT, Int.reduceLE, Nat.zero_le, Nat.one_ne_zero, ev_joiner, kgO_xor]
  refine (sideOf_ok hn hJ h54 ha).mono ?_
  rintro r s ⟨hs, rfl⟩
  subst s
  rw [kgO_some]
  refine (sideOf_ok hn hJ h54 hb).mono ?_
  rintro r s ⟨hs, rfl⟩
  subst s
  rw [kgO_some]
  simp only [wpS_skip, wpS_break, wpS_cont, wpS_retV, wpS_throw, wpS_seq, wpS_if, wpS_trunc, yS_let, yS_inc, kgK_i, kgK_r, kok_nil, kok_i0, kok_is, kok_r0, kok_rs, kok_n0, kok_ns, xS_put, xS_putOp, xS_ast0, xS_ast1, xS_astOp, wpS_E, wpS_call, wpS_callS, wpS_ret, kThen_N, kThen_B, kThen_C, kThen_R, kThen_T, kNext_N, kNext_C, kNext_B, kNext_R, wpE_K, wpE_KL, xE_I, xE_R, wpE_J, xE_bin, wpE_ladd, wpE_i2l, xE_get, xE_ald0, xE_ald1, wpE_if, xE_max, xE_min, wpE_len, wpA_nil, wpA_snoc, xE_call, xE_callS, xC_C, xC_L, xC_Z, wpC_and, wpC_or, wpC_not, wpC_if, kcmp_0, kcmp_1, kcmp_2, kcmp_3, kcmp_4, kcmp_5, rR_inj, kgO_some, kgO_add, kgO_sub, kgO_mul, kgO_div, kgO_rem, kgO_and, kvI_inl, kvJ_inl, kgI_0, kgI_s, kgR_0, kgR_s, kst_nil, kst_0, kst_s, kNLl_nil, kNLl_i, kNLl_r, kNLl_n, ktag_i, ktag_r, List.length_cons, List.length_nil, List.take_succ_cons, List.take_zero, List.take_nil, List.nil_append, List.cons_append, decide_eq_true_eq, Bool.not_eq_true, Bool.not_eq_true', decide_eq_false_iff_not, ne_eq, Decidable.not_not, true_and, and_true, Nat.reduceAdd, Nat.reduceLeDiff, Nat.reduceEqDiff, Nat.le_refl, not_true_eq_false, not_false_eq_true, reduceIte, eq_self, Int.reduceNeg, Int.reduceEq, Int.reduceLT, Int.reduceLE, Nat.zero_le, Nat.one_ne_zero, kgO_xor]
  refine ⟨by omega, ?_⟩
  refine ⟨by by_cases q : (sd a : Int) = (sd b : Int) <;> simp [q], ?_⟩
  rw [ez, hQ3]
  refine kThen_N.mpr ?_
  clear hQ3 Q3
  by_cases he : hd a = hd b
  · -- one part
    have he' : (hd a : Int) = (hd b : Int) := by omega
    have hrr : rch (jE A) a b := hiff.mpr he
    refine wpS_seq' (fun Q4 hQ4 => ?_)
    rw [wpS_if]
    refine wpC_gen (fun Q5 hQ5 => ?_)
    simp only [wpS_skip, wpS_break, wpS_cont, wpS_retV, wpS_throw, wpS_seq, wpS_if, wpS_trunc, yS_let, yS_inc, kgK_i, kgK_r, kok_nil, kok_i0, kok_is, kok_r0, kok_rs, kok_n0, kok_ns, xS_put, xS_putOp, xS_ast0, xS_ast1, xS_astOp, wpS_E, wpS_call, wpS_callS, wpS_ret, kThen_N, kThen_B, kThen_C, kThen_R, kThen_T, kNext_N, kNext_C, kNext_B, kNext_R, wpE_K, wpE_KL, xE_I, xE_R, wpE_J, xE_bin, wpE_ladd, wpE_i2l, xE_get, xE_ald0, xE_ald1, wpE_if, xE_max, xE_min, wpE_len, wpA_nil, wpA_snoc, xE_call, xE_callS, xC_C, xC_L, xC_Z, wpC_and, wpC_or, wpC_not, wpC_if, kcmp_0, kcmp_1, kcmp_2, kcmp_3, kcmp_4, kcmp_5, rR_inj, kgO_some, kgO_add, kgO_sub, kgO_mul, kgO_div, kgO_rem, kgO_and, kvI_inl, kvJ_inl, kgI_0, kgI_s, kgR_0, kgR_s, kst_nil, kst_0, kst_s, kNLl_nil, kNLl_i, kNLl_r, kNLl_n, ktag_i, ktag_r, List.length_cons, List.length_nil, List.take_succ_cons, List.take_zero, List.take_nil, List.nil_append, List.cons_append, decide_eq_true_eq, Bool.not_eq_true, Bool.not_eq_true', decide_eq_false_iff_not, ne_eq, Decidable.not_not, true_and, and_true, Nat.reduceAdd, Nat.reduceLeDiff, Nat.reduceEqDiff, Nat.le_refl, not_true_eq_false, not_false_eq_true, reduceIte, eq_self, Int.reduceNeg, Int.reduceEq, Int.reduceLT, Int.reduceLE, Nat.zero_le, Nat.one_ne_zero, he', decide_true, decide_false, Bool.false_eq_true, if_true, if_false, true_and, and_true, not_true_eq_false, not_false_eq_true]
    rw [hQ5]
    refine (if_pos rfl).mpr ?_
    rw [← he']
    obtain ⟨y1, y2, y3, y4, y5⟩ := S1 (hd a) ga2
    -- nothing changes
    have stay : (od (hd a) ∨ z = 0) → Q4 (rR (some (.inl 0))) [some (.inr (.inl 11)), some (.inl (a : Int)), some (.inl (b : Int)), some (.inl (hd a : Int)), some (.inl (hd a : Int)), some (.inl (z : Int))] σ := by
      intro h
      rw [hQ4]
      refine kThen_R.mpr ⟨_, rfl, rfl, fun _ _ _ _ _ _ _ => rfl, Or.inl ⟨hrr, rfl⟩, ov, tu, hd, ht, sd, od, hJ.same ha hb he (fun v => ⟨Or.inl, fun q => q.elim id (fun q => ?_)⟩), hS⟩
      rcases h with h | h
      · rw [q.1]; exact h
      · omega
    refine wpS_seq' (fun Q6 hQ6 => ?_)
    by_cases hzz : z = 1
    · have hzi : (z : Int) = 1 := by omega
      by_cases hod : σ 57 (hd a) = 0
      · have hnod : ¬ od (hd a) := fun q => by have := y4.mpr q; omega
        have e11 : kup σ 57 (hd a) 1 11 1 = (cntP (fun v => hd v = v ∧ ¬ od v) n : Int) := by rw [kup_ne (by decide)]; exact S3
        have hdrop := cntP_drop (P := fun v => hd v = v ∧ ¬ od v) ga2
        rw [if_pos ⟨ga3, hnod⟩] at hdrop
        simp only [wpS_skip, wpS_break, wpS_cont, wpS_retV, wpS_throw, wpS_seq, wpS_if, wpS_trunc, yS_let, yS_inc, kgK_i, kgK_r, kok_nil, kok_i0, kok_is, kok_r0, kok_rs, kok_n0, kok_ns, xS_put, xS_putOp, xS_ast0, xS_ast1, xS_astOp, wpS_E, wpS_call, wpS_callS, wpS_ret, kThen_N, kThen_B, kThen_C, kThen_R, kThen_T, kNext_N, kNext_C, kNext_B, kNext_R, wpE_K, wpE_KL, xE_I, xE_R, wpE_J, xE_bin, wpE_ladd, wpE_i2l, xE_get, xE_ald0, xE_ald1, wpE_if, xE_max, xE_min, wpE_len, wpA_nil, wpA_snoc, xE_call, xE_callS, xC_C, xC_L, xC_Z, wpC_and, wpC_or, wpC_not, wpC_if, kcmp_0, kcmp_1, kcmp_2, kcmp_3, kcmp_4, kcmp_5, rR_inj, kgO_some, kgO_add, kgO_sub, kgO_mul, kgO_div, kgO_rem, kgO_and, kvI_inl, kvJ_inl, kgI_0, kgI_s, kgR_0, kgR_s, kst_nil, kst_0, kst_s, kNLl_nil, kNLl_i, kNLl_r, kNLl_n, ktag_i, ktag_r, List.length_cons, List.length_nil, List.take_succ_cons, List.take_zero, List.take_nil, List.nil_append, List.cons_append, decide_eq_true_eq, Bool.not_eq_true, Bool.not_eq_true', decide_eq_false_iff_not, ne_eq, Decidable.not_not, true_and, and_true, Nat.reduceAdd, Nat.reduceLeDiff, Nat.reduceEqDiff, Nat.le_refl, not_true_eq_false, not_false_eq_true, reduceIte, eq_self, Int.reduceNeg, Int.reduceEq, Int.reduceLT, Int.reduceLE, Nat.zero_le, Nat.one_ne_zero, ev_joiner, ev_joiner_arr, Int.toNat_natCast, hzi, hod, e11, or_true, decide_true, decide_false, Bool.false_eq_true, if_true, if_false, true_and, and_true, not_true_eq_false, not_false_eq_true]
        repeat refine And.intro (by omega) ?_
        rw [hQ6]
        refine kThen_N.mpr ?_
        refine wpS_gen (fun Q103 hQ103 => ?_)
        simp only [wpS_skip, wpS_break, wpS_cont, wpS_retV, wpS_throw, wpS_seq, wpS_if, wpS_trunc, yS_let, yS_inc, kgK_i, kgK_r, kok_nil, kok_i0, kok_is, kok_r0, kok_rs, kok_n0, kok_ns, xS_put, xS_putOp, xS_ast0, xS_ast1, xS_astOp, wpS_E, wpS_call, wpS_callS, wpS_ret, kThen_N, kThen_B, kThen_C, kThen_R, kThen_T, kNext_N, kNext_C, kNext_B, kNext_R, wpE_K, wpE_KL, xE_I, xE_R, wpE_J, xE_bin, wpE_ladd, wpE_i2l, xE_get, xE_ald0, xE_ald1, wpE_if, xE_max, xE_min, wpE_len, wpA_nil, wpA_snoc, xE_call, xE_callS, xC_C, xC_L, xC_Z, wpC_and, wpC_or, wpC_not, wpC_if, kcmp_0, kcmp_1, kcmp_2, kcmp_3, kcmp_4, kcmp_5, rR_inj, kgO_some, kgO_add, kgO_sub, kgO_mul, kgO_div, kgO_rem, kgO_and, kvI_inl, kvJ_inl, kgI_0, kgI_s, kgR_0, kgR_s, kst_nil, kst_0, kst_s, kNLl_nil, kNLl_i, kNLl_r, kNLl_n, ktag_i, ktag_r, List.length_cons, List.length_nil, List.take_succ_cons, List.take_zero, List.take_nil, List.nil_append, List.cons_append, decide_eq_true_eq, Bool.not_eq_true, Bool.not_eq_true', decide_eq_false_iff_not, ne_eq, Decidable.not_not, true_and, and_true, Nat.reduceAdd, Nat.reduceLeDiff, Nat.reduceEqDiff, Nat.le_refl, not_true_eq_false, not_false_eq_true, reduceIte, eq_self, Int.reduceNeg, Int.reduceEq, Int.reduceLT, Int.reduceLE, Nat.zero_le, Nat.one_ne_zero]
        repeat refine And.intro (by omega) ?_
        rw [hQ103]
        clear hQ103 Q103
        rw [hQ4]
        obtain ⟨s', hs'⟩ : ∃ s', s' = kup (kup σ 57 (hd a) 1) 11 1 ((cntP (fun v => hd v = v ∧ ¬ od v) n : Int) - 1) := ⟨_, rfl⟩
        rw [← hs']
        have w1 : ∀ o k, o ≠ 57 → (o ≠ 11 ∨ k ≠ 1) → s' o k = σ o k := by intro o k h1 h2; rw [hs']; unfold kup; rw [if_neg (fun q => h2.elim (fun w => w q.1) (fun w => w q.2)), if_neg (fun q => h1 q.1)]
        have w2 : ∀ v, s' 57 v = if v = hd a then 1 else σ 57 v := by intro v; rw [hs', kup_ne (by decide), kup_eq]
        have w3 : s' 11 1 = (cntP (fun v => hd v = v ∧ ¬ od v) n : Int) - 1 := by rw [hs']; simp [kup]
        clear hs'
        refine kThen_R.mpr ⟨_, rfl, rfl, fun o k o1 o2 o3 o4 o5 => w1 o k o5 (Or.inl o1), Or.inl ⟨hrr, rfl⟩, ov, tu, hd, ht, sd, fun v => od v ∨ v = hd a, hJ.same ha hb he (fun v => ⟨fun q => q.imp id (fun q => ⟨q, by omega⟩), fun q => q.imp id (fun q => q.1)⟩), fun v hv => ?_, by rw [w1 _ _ (by decide) (by omega)]; exact S2, ?_, M, by rw [w1 _ _ (by decide) (by omega)]; exact S4, S5, S6, S7⟩
        · obtain ⟨x1, x2, x3, x4, x5⟩ := S1 v hv
          rw [w1 _ _ (by decide) (by omega), w1 _ _ (by decide) (by omega), w2]
          refine ⟨x1, x2, ?_, ?_, by rw [w1 _ _ (by decide) (by omega)]; exact x5⟩
          · split
            · exact Or.inr rfl
            · exact x3
          · split
            · rename_i e; exact ⟨fun _ => Or.inr e, fun _ => rfl⟩
            · rename_i e; exact x4.trans ⟨Or.inl, fun q => q.elim id (fun q => absurd q e)⟩
        · have e1 : cntP (fun v => hd v = v ∧ ¬ (od v ∨ v = hd a)) n = cntP (fun w => (hd w = w ∧ ¬ od w) ∧ w ≠ hd a) n := cntP_congr (fun v _ => ⟨fun q => ⟨⟨q.1, fun h => q.2 (Or.inl h)⟩, fun h => q.2 (Or.inr h)⟩, fun q => ⟨q.1.1, fun h => h.elim q.1.2 q.2⟩⟩)
          rw [e1, w3]
          omega
      · simp only [wpS_skip, wpS_break, wpS_cont, wpS_retV, wpS_throw, wpS_seq, wpS_if, wpS_trunc, yS_let, yS_inc, kgK_i, kgK_r, kok_nil, kok_i0, kok_is, kok_r0, kok_rs, kok_n0, kok_ns, xS_put, xS_putOp, xS_ast0, xS_ast1, xS_astOp, wpS_E, wpS_call, wpS_callS, wpS_ret, kThen_N, kThen_B, kThen_C, kThen_R, kThen_T, kNext_N, kNext_C, kNext_B, kNext_R, wpE_K, wpE_KL, xE_I, xE_R, wpE_J, xE_bin, wpE_ladd, wpE_i2l, xE_get, xE_ald0, xE_ald1, wpE_if, xE_max, xE_min, wpE_len, wpA_nil, wpA_snoc, xE_call, xE_callS, xC_C, xC_L, xC_Z, wpC_and, wpC_or, wpC_not, wpC_if, kcmp_0, kcmp_1, kcmp_2, kcmp_3, kcmp_4, kcmp_5, rR_inj, kgO_some, kgO_add, kgO_sub, kgO_mul, kgO_div, kgO_rem, kgO_and, kvI_inl, kvJ_inl, kgI_0, kgI_s, kgR_0, kgR_s, kst_nil, kst_0, kst_s, kNLl_nil, kNLl_i, kNLl_r, kNLl_n, ktag_i, ktag_r, List.length_cons, List.length_nil, List.take_succ_cons, List.take_zero, List.take_nil, List.nil_append, List.cons_append, decide_eq_true_eq, Bool.not_eq_true, Bool.not_eq_true', decide_eq_false_iff_not, ne_eq, Decidable.not_not, true_and, and_true, Nat.reduceAdd, Nat.reduceLeDiff, Nat.reduceEqDiff, Nat.le_refl, not_true_eq_false, not_false_eq_true, reduceIte, eq_self, Int.reduceNeg, Int.reduceEq, Int.reduceLT, Int.reduceLE, Nat.zero_le, Nat.one_ne_zero, ev_joiner, ev_joiner_arr, Int.toNat_natCast, hzi, hod, decide_true, decide_false, Bool.false_eq_true, if_true, if_false, true_and, and_true, not_true_eq_false, not_false_eq_true]
        repeat refine And.intro (by omega) ?_
        rw [hQ6]
        refine kThen_N.mpr ?_
        refine wpS_gen (fun Q104 hQ104 => ?_)
        simp only [wpS_skip, wpS_break, wpS_cont, wpS_retV, wpS_throw, wpS_seq, wpS_if, wpS_trunc, yS_let, yS_inc, kgK_i, kgK_r, kok_nil, kok_i0, kok_is, kok_r0, kok_rs, kok_n0, kok_ns, xS_put, xS_putOp, xS_ast0, xS_ast1, xS_astOp, wpS_E, wpS_call, wpS_callS, wpS_ret, kThen_N, kThen_B, kThen_C, kThen_R, kThen_T, kNext_N, kNext_C, kNext_B, kNext_R, wpE_K, wpE_KL, xE_I, xE_R, wpE_J, xE_bin, wpE_ladd, wpE_i2l, xE_get, xE_ald0, xE_ald1, wpE_if, xE_max, xE_min, wpE_len, wpA_nil, wpA_snoc, xE_call, xE_callS, xC_C, xC_L, xC_Z, wpC_and, wpC_or, wpC_not, wpC_if, kcmp_0, kcmp_1, kcmp_2, kcmp_3, kcmp_4, kcmp_5, rR_inj, kgO_some, kgO_add, kgO_sub, kgO_mul, kgO_div, kgO_rem, kgO_and, kvI_inl, kvJ_inl, kgI_0, kgI_s, kgR_0, kgR_s, kst_nil, kst_0, kst_s, kNLl_nil, kNLl_i, kNLl_r, kNLl_n, ktag_i, ktag_r, List.length_cons, List.length_nil, List.take_succ_cons, List.take_zero, List.take_nil, List.nil_append, List.cons_append, decide_eq_true_eq, Bool.not_eq_true, Bool.not_eq_true', decide_eq_false_iff_not, ne_eq, Decidable.not_not, true_and, and_true, Nat.reduceAdd, Nat.reduceLeDiff, Nat.reduceEqDiff, Nat.le_refl, not_true_eq_false, not_false_eq_true, reduceIte, eq_self, Int.reduceNeg, Int.reduceEq, Int.reduceLT, Int.reduceLE, Nat.zero_le, Nat.one_ne_zero]
        repeat refine And.intro (by omega) ?_
        rw [hQ104]
        clear hQ104 Q104
        rw [← hzi]
        exact stay (Or.inl (y4.mp (by omega)))
    · have hzi : ¬ (z : Int) = 1 := by omega
      simp only [wpS_skip, wpS_break, wpS_cont, wpS_retV, wpS_throw, wpS_seq, wpS_if, wpS_trunc, yS_let, yS_inc, kgK_i, kgK_r, kok_nil, kok_i0, kok_is, kok_r0, kok_rs, kok_n0, kok_ns, xS_put, xS_putOp, xS_ast0, xS_ast1, xS_astOp, wpS_E, wpS_call, wpS_callS, wpS_ret, kThen_N, kThen_B, kThen_C, kThen_R, kThen_T, kNext_N, kNext_C, kNext_B, kNext_R, wpE_K, wpE_KL, xE_I, xE_R, wpE_J, xE_bin, wpE_ladd, wpE_i2l, xE_get, xE_ald0, xE_ald1, wpE_if, xE_max, xE_min, wpE_len, wpA_nil, wpA_snoc, xE_call, xE_callS, xC_C, xC_L, xC_Z, wpC_and, wpC_or, wpC_not, wpC_if, kcmp_0, kcmp_1, kcmp_2, kcmp_3, kcmp_4, kcmp_5, rR_inj, kgO_some, kgO_add, kgO_sub, kgO_mul, kgO_div, kgO_rem, kgO_and, kvI_inl, kvJ_inl, kgI_0, kgI_s, kgR_0, kgR_s, kst_nil, kst_0, kst_s, kNLl_nil, kNLl_i, kNLl_r, kNLl_n, ktag_i, ktag_r, List.length_cons, List.length_nil, List.take_succ_cons, List.take_zero, List.take_nil, List.nil_append, List.cons_append, decide_eq_true_eq, Bool.not_eq_true, Bool.not_eq_true', decide_eq_false_iff_not, ne_eq, Decidable.not_not, true_and, and_true, Nat.reduceAdd, Nat.reduceLeDiff, Nat.reduceEqDiff, Nat.le_refl, not_true_eq_false, not_false_eq_true, reduceIte, eq_self, Int.reduceNeg, Int.reduceEq, Int.reduceLT, Int.reduceLE, Nat.zero_le, Nat.one_ne_zero, hzi, decide_true, decide_false, Bool.false_eq_true, if_true, if_false, true_and, and_true, not_true_eq_false, not_false_eq_true]
      rw [hQ6]
      refine kThen_N.mpr ?_
      refine wpS_gen (fun Q105 hQ105 => ?_)
      simp only [wpS_skip, wpS_break, wpS_cont, wpS_retV, wpS_throw, wpS_seq, wpS_if, wpS_trunc, yS_let, yS_inc, kgK_i, kgK_r, kok_nil, kok_i0, kok_is, kok_r0, kok_rs, kok_n0, kok_ns, xS_put, xS_putOp, xS_ast0, xS_ast1, xS_astOp, wpS_E, wpS_call, wpS_callS, wpS_ret, kThen_N, kThen_B, kThen_C, kThen_R, kThen_T, kNext_N, kNext_C, kNext_B, kNext_R, wpE_K, wpE_KL, xE_I, xE_R, wpE_J, xE_bin, wpE_ladd, wpE_i2l, xE_get, xE_ald0, xE_ald1, wpE_if, xE_max, xE_min, wpE_len, wpA_nil, wpA_snoc, xE_call, xE_callS, xC_C, xC_L, xC_Z, wpC_and, wpC_or, wpC_not, wpC_if, kcmp_0, kcmp_1, kcmp_2, kcmp_3, kcmp_4, kcmp_5, rR_inj, kgO_some, kgO_add, kgO_sub, kgO_mul, kgO_div, kgO_rem, kgO_and, kvI_inl, kvJ_inl, kgI_0, kgI_s, kgR_0, kgR_s, kst_nil, kst_0, kst_s, kNLl_nil, kNLl_i, kNLl_r, kNLl_n, ktag_i, ktag_r, List.length_cons, List.length_nil, List.take_succ_cons, List.take_zero, List.take_nil, List.nil_append, List.cons_append, decide_eq_true_eq, Bool.not_eq_true, Bool.not_eq_true', decide_eq_false_iff_not, ne_eq, Decidable.not_not, true_and, and_true, Nat.reduceAdd, Nat.reduceLeDiff, Nat.reduceEqDiff, Nat.le_refl, not_true_eq_false, not_false_eq_true, reduceIte, eq_self, Int.reduceNeg, Int.reduceEq, Int.reduceLT, Int.reduceLE, Nat.zero_le, Nat.one_ne_zero]
      repeat refine And.intro (by omega) ?_
      rw [hQ105]
      clear hQ105 Q105
      exact stay (Or.inr (by omega))
  · -- two parts
    have he' : ¬ (hd a : Int) = (hd b : Int) := by omega
    have hrr : ¬ rch (jE A) a b := fun q => he (hiff.mp q)
    refine wpS_seq' (fun Q106 hQ106 => ?_)
    simp only [wpS_skip, wpS_break, wpS_cont, wpS_retV, wpS_throw, wpS_seq, wpS_if, wpS_trunc, yS_let, yS_inc, kgK_i, kgK_r, kok_nil, kok_i0, kok_is, kok_r0, kok_rs, kok_n0, kok_ns, xS_put, xS_putOp, xS_ast0, xS_ast1, xS_astOp, wpS_E, wpS_call, wpS_callS, wpS_ret, kThen_N, kThen_B, kThen_C, kThen_R, kThen_T, kNext_N, kNext_C, kNext_B, kNext_R, wpE_K, wpE_KL, xE_I, xE_R, wpE_J, xE_bin, wpE_ladd, wpE_i2l, xE_get, xE_ald0, xE_ald1, wpE_if, xE_max, xE_min, wpE_len, wpA_nil, wpA_snoc, xE_call, xE_callS, xC_C, xC_L, xC_Z, wpC_and, wpC_or, wpC_not, wpC_if, kcmp_0, kcmp_1, kcmp_2, kcmp_3, kcmp_4, kcmp_5, rR_inj, kgO_some, kgO_add, kgO_sub, kgO_mul, kgO_div, kgO_rem, kgO_and, kvI_inl, kvJ_inl, kgI_0, kgI_s, kgR_0, kgR_s, kst_nil, kst_0, kst_s, kNLl_nil, kNLl_i, kNLl_r, kNLl_n, ktag_i, ktag_r, List.length_cons, List.length_nil, List.take_succ_cons, List.take_zero, List.take_nil, List.nil_append, List.cons_append, decide_eq_true_eq, Bool.not_eq_true, Bool.not_eq_true', decide_eq_false_iff_not, ne_eq, Decidable.not_not, true_and, and_true, Nat.reduceAdd, Nat.reduceLeDiff, Nat.reduceEqDiff, Nat.le_refl, not_true_eq_false, not_false_eq_true, reduceIte, eq_self, Int.reduceNeg, Int.reduceEq, Int.reduceLT, Int.reduceLE, Nat.zero_le, Nat.one_ne_zero, he', decide_true, decide_false, Bool.false_eq_true, if_true, if_false, true_and, and_true, not_true_eq_false, not_false_eq_true]
    repeat refine And.intro (by omega) ?_
    rw [hQ106]
    clear hQ106 Q106
    refine kThen_N.mpr ?_
    obtain ⟨ya1, ya2, ya3, ya4, ya5⟩ := S1 (hd a) ga2
    obtain ⟨yb1, yb2, yb3, yb4, yb5⟩ := S1 (hd b) gb2
    have za := ya5 ga3
    have zb := yb5 gb3
    -- the hanging
    have hang : ∀ lw up : Nat, ((hd a = lw ∧ hd b = up) ∨ (hd a = up ∧ hd b = lw)) → cntP (fun u => hd u = lw) n ≤ cntP (fun u => hd u = up) n →
        wpF F_Joiner_hang [.inr (.inl 11), .inl (lw : Int), .inl (up : Int), .inl (z : Int)] σ (fun r s => r = none ∧ (∀ o k, o ≠ 11 → o ≠ 54 → o ≠ 55 → o ≠ 56 → o ≠ 57 → s o k = σ o k) ∧ ∃ ov' tu' hd' ht' sd' od', jnOk n (addP A a b) ov' tu' hd' ht' sd' od' ∧ JnS s n ov' tu' hd' od') := by
      intro lw up hlu hsz
      have hlw : lw < n ∧ hd lw = lw := by rcases hlu with ⟨q, -⟩ | ⟨-, q⟩ <;> (rw [← q]; exact ⟨by assumption, by assumption⟩)
      have hup : up < n ∧ hd up = up := by rcases hlu with ⟨-, q⟩ | ⟨q, -⟩ <;> (rw [← q]; exact ⟨by assumption, by assumption⟩)
      have hne : lw ≠ up := by rintro rfl; rcases hlu with ⟨q1, q2⟩ | ⟨q1, q2⟩ <;> exact he (by rw [q1, q2])
      obtain ⟨hd', hhd'⟩ : ∃ hd' : Nat → Nat, hd' = fun v => if hd v = lw then up else hd v := ⟨_, rfl⟩
      obtain ⟨mg, cU, cO⟩ := jnOk.merge (hd' := hd') (od' := fun v => od v ∨ (v = up ∧ od lw)) hJ ha hb hlu hne hsz hz (fun v => rfl) (fun v => rfl) (fun v => by rw [hhd']) (fun v => rfl) (fun v => rfl) (fun v => Iff.rfl)
      obtain ⟨l1, l2, l3, l4, l5⟩ := S1 lw hlw.1
      obtain ⟨u1, u2, u3, u4, u5⟩ := S1 up hup.1
      have l6 := l5 hlw.2
      have u6 := u5 hup.2
      have cb1 := @cntP_bound (fun u => hd' u = up) n
      obtain ⟨cu, hcu⟩ : ∃ cu, cu = cntP (fun u => hd u = up) n := ⟨_, rfl⟩
      obtain ⟨cl, hcl⟩ : ∃ cl, cl = cntP (fun u => hd u = lw) n := ⟨_, rfl⟩
      rw [← hcu, ← hcl] at cU
      rw [← hcl] at l6
      rw [← hcu] at u6
      -- heads then
      have hh : ∀ v, v < n → (hd' v = v ↔ (hd v = v ∧ v ≠ lw)) := by
        intro v hv
        rw [hhd']
        dsimp only
        by_cases q : hd v = lw
        · rw [if_pos q, q]
          constructor
          · intro e; rw [← e] at q; exact absurd (by rw [← q]; exact hup.2) hne
          · intro e; exact absurd e.1.symm e.2
        · rw [if_neg q]
          exact ⟨fun e => ⟨e, fun e2 => q (by rw [e, e2])⟩, fun e => e.1⟩
      have cp := cntP_drop (P := fun v => hd v = v) hlw.1
      rw [if_pos hlw.2] at cp
      have cp2 : cntP (fun v => hd' v = v) n = cntP (fun w => hd w = w ∧ w ≠ lw) n := cntP_congr hh
      have ce1 := cntP_drop (P := fun v => hd v = v ∧ ¬ od v) hlw.1
      have ce2 := cntP_drop (P := fun v => (hd v = v ∧ ¬ od v) ∧ v ≠ lw) hup.1
      have ce3 := cntP_drop (P := fun v => hd' v = v ∧ ¬ (od v ∨ (v = up ∧ od lw))) hup.1
      have ce4 : cntP (fun w => (hd' w = w ∧ ¬ (od w ∨ (w = up ∧ od lw))) ∧ w ≠ up) n = cntP (fun w => ((hd w = w ∧ ¬ od w) ∧ w ≠ lw) ∧ w ≠ up) n := cntP_congr (fun w hw => by
        rw [hh w hw]
        exact ⟨fun q => ⟨⟨⟨q.1.1.1, fun h => q.1.2 (Or.inl h)⟩, q.1.1.2⟩, q.2⟩, fun q => ⟨⟨⟨q.1.1.1, q.1.2⟩, fun h => h.elim q.1.1.2 (fun h => q.2 h.1)⟩, q.2⟩⟩)
      obtain ⟨E, hE⟩ : ∃ E, E = cntP (fun v => hd v = v ∧ ¬ od v) n := ⟨_, rfl⟩
      obtain ⟨E', hE'⟩ : ∃ E', E' = cntP (fun v => hd' v = v ∧ ¬ (od v ∨ (v = up ∧ od lw))) n := ⟨_, rfl⟩
      have hEE : E = E' + (if σ 57 lw = 1 ∧ σ 57 up = 1 then 0 else 1) := by
        rw [hE, hE', ce1, ce2, ce3, ce4]
        have hhu := (hh up hup.1).mpr ⟨hup.2, fun q => hne q.symm⟩
        by_cases q1 : od lw <;> by_cases q2 : od up
        · rw [if_neg (fun q => q.1.2 q2), if_neg (fun q => q.2 q1), if_neg (fun q => q.2 (Or.inl q2)), if_pos ⟨l4.mpr q1, u4.mpr q2⟩]
        · rw [if_pos ⟨⟨hup.2, q2⟩, fun q => hne q.symm⟩, if_neg (fun q => q.2 q1), if_neg (fun q => q.2 (Or.inr ⟨rfl, q1⟩)), if_neg (fun q => q2 (u4.mp q.2))]
        · rw [if_neg (fun q => q.1.2 q2), if_pos ⟨hlw.2, q1⟩, if_neg (fun q => q.2 (Or.inl q2)), if_neg (fun q => q1 (l4.mp q.1))]
        · rw [if_pos ⟨⟨hup.2, q2⟩, fun q => hne q.symm⟩, if_pos ⟨hlw.2, q1⟩, if_pos ⟨hhu, fun q => q.elim q2 (fun q => q1 q.2)⟩, if_neg (fun q => q1 (l4.mp q.1))]
      rw [← hE] at S3 heb
      unfold F_Joiner_hang
      rw [wpF_kF]
      refine ⟨rfl, rfl, ?_⟩
      unfold s_Joiner_hang
      simp only [List.map_cons, List.map_nil]
      refine wpS_seq' (fun Q0 hQ0 => ?_)
      refine wpS_seq' (fun Q1 hQ1 => ?_)
      obtain ⟨s1, hs1⟩ : ∃ s1, s1 = kup σ 11 1 (E' : Int) := ⟨_, rfl⟩
      have k1 : ∀ o k, (o ≠ 11 ∨ k ≠ 1) → s1 o k = σ o k := by intro o k h; rw [hs1]; unfold kup; rw [if_neg (fun q => h.elim (fun w => w q.1) (fun w => w q.2))]
      have k11 : s1 11 1 = E' := by rw [hs1]; simp [kup]
      have same : E = E' → ∀ o k, σ o k = s1 o k := by
        intro e o k
        rw [hs1]; unfold kup
        split
        · rename_i q; rw [q.1, q.2, S3, e]
        · rfl
      have go : Q1 rN [some (.inr (.inl 11)), some (.inl (lw : Int)), some (.inl (up : Int)), some (.inl (z : Int))] s1 := by
        rw [hQ1]
        refine kThen_N.mpr ?_
        have g0 : s1 11 0 = (cntP (fun v => hd v = v) n : Int) := by rw [k1 _ _ (by omega)]; exact S2
        refine wpS_seq' (fun Q107 hQ107 => ?_)
        simp only [wpS_skip, wpS_break, wpS_cont, wpS_retV, wpS_throw, wpS_seq, wpS_if, wpS_trunc, yS_let, yS_inc, kgK_i, kgK_r, kok_nil, kok_i0, kok_is, kok_r0, kok_rs, kok_n0, kok_ns, xS_put, xS_putOp, xS_ast0, xS_ast1, xS_astOp, wpS_E, wpS_call, wpS_callS, wpS_ret, kThen_N, kThen_B, kThen_C, kThen_R, kThen_T, kNext_N, kNext_C, kNext_B, kNext_R, wpE_K, wpE_KL, xE_I, xE_R, wpE_J, xE_bin, wpE_ladd, wpE_i2l, xE_get, xE_ald0, xE_ald1, wpE_if, xE_max, xE_min, wpE_len, wpA_nil, wpA_snoc, xE_call, xE_callS, xC_C, xC_L, xC_Z, wpC_and, wpC_or, wpC_not, wpC_if, kcmp_0, kcmp_1, kcmp_2, kcmp_3, kcmp_4, kcmp_5, rR_inj, kgO_some, kgO_add, kgO_sub, kgO_mul, kgO_div, kgO_rem, kgO_and, kvI_inl, kvJ_inl, kgI_0, kgI_s, kgR_0, kgR_s, kst_nil, kst_0, kst_s, kNLl_nil, kNLl_i, kNLl_r, kNLl_n, ktag_i, ktag_r, List.length_cons, List.length_nil, List.take_succ_cons, List.take_zero, List.take_nil, List.nil_append, List.cons_append, decide_eq_true_eq, Bool.not_eq_true, Bool.not_eq_true', decide_eq_false_iff_not, ne_eq, Decidable.not_not, true_and, and_true, Nat.reduceAdd, Nat.reduceLeDiff, Nat.reduceEqDiff, Nat.le_refl, not_true_eq_false, not_false_eq_true, reduceIte, eq_self, Int.reduceNeg, Int.reduceEq, Int.reduceLT, Int.reduceLE, Nat.zero_le, Nat.one_ne_zero, ev_joiner, g0]
        repeat refine And.intro (by omega) ?_
        rw [hQ107]
        clear hQ107 Q107
        refine kThen_N.mpr ?_
        refine wpS_seq' (fun Q108 hQ108 => ?_)
        simp only [wpS_skip, wpS_break, wpS_cont, wpS_retV, wpS_throw, wpS_seq, wpS_if, wpS_trunc, yS_let, yS_inc, kgK_i, kgK_r, kok_nil, kok_i0, kok_is, kok_r0, kok_rs, kok_n0, kok_ns, xS_put, xS_putOp, xS_ast0, xS_ast1, xS_astOp, wpS_E, wpS_call, wpS_callS, wpS_ret, kThen_N, kThen_B, kThen_C, kThen_R, kThen_T, kNext_N, kNext_C, kNext_B, kNext_R, wpE_K, wpE_KL, xE_I, xE_R, wpE_J, xE_bin, wpE_ladd, wpE_i2l, xE_get, xE_ald0, xE_ald1, wpE_if, xE_max, xE_min, wpE_len, wpA_nil, wpA_snoc, xE_call, xE_callS, xC_C, xC_L, xC_Z, wpC_and, wpC_or, wpC_not, wpC_if, kcmp_0, kcmp_1, kcmp_2, kcmp_3, kcmp_4, kcmp_5, rR_inj, kgO_some, kgO_add, kgO_sub, kgO_mul, kgO_div, kgO_rem, kgO_and, kvI_inl, kvJ_inl, kgI_0, kgI_s, kgR_0, kgR_s, kst_nil, kst_0, kst_s, kNLl_nil, kNLl_i, kNLl_r, kNLl_n, ktag_i, ktag_r, List.length_cons, List.length_nil, List.take_succ_cons, List.take_zero, List.take_nil, List.nil_append, List.cons_append, decide_eq_true_eq, Bool.not_eq_true, Bool.not_eq_true', decide_eq_false_iff_not, ne_eq, Decidable.not_not, true_and, and_true, Nat.reduceAdd, Nat.reduceLeDiff, Nat.reduceEqDiff, Nat.le_refl, not_true_eq_false, not_false_eq_true, reduceIte, eq_self, Int.reduceNeg, Int.reduceEq, Int.reduceLT, Int.reduceLE, Nat.zero_le, Nat.one_ne_zero, ev_joiner, ev_joiner_arr, Int.toNat_natCast]
        repeat refine And.intro (by omega) ?_
        rw [hQ108]
        clear hQ108 Q108
        refine kThen_N.mpr ?_
        refine wpS_seq' (fun Q109 hQ109 => ?_)
        simp only [wpS_skip, wpS_break, wpS_cont, wpS_retV, wpS_throw, wpS_seq, wpS_if, wpS_trunc, yS_let, yS_inc, kgK_i, kgK_r, kok_nil, kok_i0, kok_is, kok_r0, kok_rs, kok_n0, kok_ns, xS_put, xS_putOp, xS_ast0, xS_ast1, xS_astOp, wpS_E, wpS_call, wpS_callS, wpS_ret, kThen_N, kThen_B, kThen_C, kThen_R, kThen_T, kNext_N, kNext_C, kNext_B, kNext_R, wpE_K, wpE_KL, xE_I, xE_R, wpE_J, xE_bin, wpE_ladd, wpE_i2l, xE_get, xE_ald0, xE_ald1, wpE_if, xE_max, xE_min, wpE_len, wpA_nil, wpA_snoc, xE_call, xE_callS, xC_C, xC_L, xC_Z, wpC_and, wpC_or, wpC_not, wpC_if, kcmp_0, kcmp_1, kcmp_2, kcmp_3, kcmp_4, kcmp_5, rR_inj, kgO_some, kgO_add, kgO_sub, kgO_mul, kgO_div, kgO_rem, kgO_and, kvI_inl, kvJ_inl, kgI_0, kgI_s, kgR_0, kgR_s, kst_nil, kst_0, kst_s, kNLl_nil, kNLl_i, kNLl_r, kNLl_n, ktag_i, ktag_r, List.length_cons, List.length_nil, List.take_succ_cons, List.take_zero, List.take_nil, List.nil_append, List.cons_append, decide_eq_true_eq, Bool.not_eq_true, Bool.not_eq_true', decide_eq_false_iff_not, ne_eq, Decidable.not_not, true_and, and_true, Nat.reduceAdd, Nat.reduceLeDiff, Nat.reduceEqDiff, Nat.le_refl, not_true_eq_false, not_false_eq_true, reduceIte, eq_self, Int.reduceNeg, Int.reduceEq, Int.reduceLT, Int.reduceLE, Nat.zero_le, Nat.one_ne_zero, ev_joiner, ev_joiner_arr, Int.toNat_natCast]
        repeat refine And.intro (by omega) ?_
        rw [hQ109]
        clear hQ109 Q109
        refine kThen_N.mpr ?_
        obtain ⟨s2, hs2⟩ : ∃ s2, s2 = kup (kup (kup s1 11 0 ((cntP (fun v => hd v = v) n : Int) - 1)) 54 lw (up : Int)) 55 lw (z : Int) := ⟨_, rfl⟩
        rw [← hs2]
        have m1 : ∀ o k, o ≠ 54 → o ≠ 55 → (o ≠ 11 ∨ (k ≠ 0 ∧ k ≠ 1)) → s2 o k = σ o k := by
          intro o k h1 h2 h3
          rw [hs2, kup_ne h2, kup_ne h1]
          unfold kup
          rw [if_neg (fun q => h3.elim (fun w => w q.1) (fun w => w.1 q.2)), k1 o k (h3.imp id (fun w => w.2))]
        have m0 : s2 11 0 = (cntP (fun v => hd v = v) n : Int) - 1 := by rw [hs2]; simp [kup]
        have m01 : s2 11 1 = E' := by rw [hs2]; simp [kup]; exact k11
        have m54 : ∀ v, s2 54 v = if v = lw then (up : Int) else σ 54 v := by intro v; rw [hs2, kup_ne (by decide), kup_eq, kup_ne (by decide), k1 _ _ (by omega)]
        have m55 : ∀ v, s2 55 v = if v = lw then (z : Int) else σ 55 v := by intro v; rw [hs2, kup_eq, kup_ne (by decide), kup_ne (by decide), k1 _ _ (by omega)]
        clear hs2
        have e56u : s2 56 up = cu := by rw [m1 _ _ (by decide) (by decide) (by omega)]; exact u6
        have e56l : s2 56 lw = cl := by rw [m1 _ _ (by decide) (by decide) (by omega)]; exact l6
        have eadd : (cu : Int) + cl = ((cu + cl : Nat) : Int) := by omega
        refine wpS_seq' (fun Q110 hQ110 => ?_)
        simp only [wpS_skip, wpS_break, wpS_cont, wpS_retV, wpS_throw, wpS_seq, wpS_if, wpS_trunc, yS_let, yS_inc, kgK_i, kgK_r, kok_nil, kok_i0, kok_is, kok_r0, kok_rs, kok_n0, kok_ns, xS_put, xS_putOp, xS_ast0, xS_ast1, xS_astOp, wpS_E, wpS_call, wpS_callS, wpS_ret, kThen_N, kThen_B, kThen_C, kThen_R, kThen_T, kNext_N, kNext_C, kNext_B, kNext_R, wpE_K, wpE_KL, xE_I, xE_R, wpE_J, xE_bin, wpE_ladd, wpE_i2l, xE_get, xE_ald0, xE_ald1, wpE_if, xE_max, xE_min, wpE_len, wpA_nil, wpA_snoc, xE_call, xE_callS, xC_C, xC_L, xC_Z, wpC_and, wpC_or, wpC_not, wpC_if, kcmp_0, kcmp_1, kcmp_2, kcmp_3, kcmp_4, kcmp_5, rR_inj, kgO_some, kgO_add, kgO_sub, kgO_mul, kgO_div, kgO_rem, kgO_and, kvI_inl, kvJ_inl, kgI_0, kgI_s, kgR_0, kgR_s, kst_nil, kst_0, kst_s, kNLl_nil, kNLl_i, kNLl_r, kNLl_n, ktag_i, ktag_r, List.length_cons, List.length_nil, List.take_succ_cons, List.take_zero, List.take_nil, List.nil_append, List.cons_append, decide_eq_true_eq, Bool.not_eq_true, Bool.not_eq_true', decide_eq_false_iff_not, ne_eq, Decidable.not_not, true_and, and_true, Nat.reduceAdd, Nat.reduceLeDiff, Nat.reduceEqDiff, Nat.le_refl, not_true_eq_false, not_false_eq_true, reduceIte, eq_self, Int.reduceNeg, Int.reduceEq, Int.reduceLT, Int.reduceLE, Nat.zero_le, Nat.one_ne_zero, ev_joiner, ev_joiner_arr, Int.toNat_natCast, e56u, e56l, eadd]
        repeat refine And.intro (by omega) ?_
        rw [hQ110]
        clear hQ110 Q110
        refine kThen_N.mpr ?_
        obtain ⟨s3, hs3⟩ : ∃ s3, s3 = kup s2 56 up ((cu + cl : Nat) : Int) := ⟨_, rfl⟩
        rw [← hs3]
        have p1 : ∀ o k, o ≠ 56 → s3 o k = s2 o k := by intro o k ho; rw [hs3, kup_ne ho]
        have p56 : ∀ v, s3 56 v = if v = up then ((cu + cl : Nat) : Int) else σ 56 v := by
          intro v; rw [hs3, kup_eq]; split
          · rfl
          · rw [m1 _ _ (by decide) (by decide) (by omega)]
        clear hs3
        have e57u : s3 57 up = σ 57 up := by rw [p1 _ _ (by decide), m1 _ _ (by decide) (by decide) (by omega)]
        have e57l : s3 57 lw = σ 57 lw := by rw [p1 _ _ (by decide), m1 _ _ (by decide) (by decide) (by omega)]
        refine wpS_seq' (fun Q5 hQ5 => ?_)
        obtain ⟨fz, hfz, hfz2⟩ : ∃ fz : Int, (fz = 0 ∨ fz = 1) ∧ (fz = 1 ↔ (od up ∨ od lw)) := by
          by_cases q : od up ∨ od lw
          · exact ⟨1, Or.inr rfl, fun _ => q, fun _ => rfl⟩
          · exact ⟨0, Or.inl rfl, fun w => by omega, fun w => absurd w q⟩
        have go2 : Q5 rN [some (.inr (.inl 11)), some (.inl (lw : Int)), some (.inl (up : Int)), some (.inl (z : Int))] (kup s3 57 up fz) := by
          rw [hQ5]
          refine kThen_N.mpr ?_
          have g2 : kup s3 57 up fz 11 2 = M := by rw [kup_ne (by decide), p1 _ _ (by decide), m1 _ _ (by decide) (by decide) (by omega)]; exact S4
          have g56 : kup s3 57 up fz 56 up = ((cu + cl : Nat) : Int) := by rw [kup_ne (by decide), p56, if_pos rfl]
          obtain ⟨M', hM'⟩ : ∃ M' : Nat, M' = if M < cu + cl then cu + cl else M := ⟨_, rfl⟩
          have eM : (if (M : Int) < ((cu + cl : Nat) : Int) then ((cu + cl : Nat) : Int) else (M : Int)) = (M' : Int) := by
            rw [hM']; split <;> split <;> omega
          refine wpS_gen (fun Q111 hQ111 => ?_)
          simp only [wpS_skip, wpS_break, wpS_cont, wpS_retV, wpS_throw, wpS_seq, wpS_if, wpS_trunc, yS_let, yS_inc, kgK_i, kgK_r, kok_nil, kok_i0, kok_is, kok_r0, kok_rs, kok_n0, kok_ns, xS_put, xS_putOp, xS_ast0, xS_ast1, xS_astOp, wpS_E, wpS_call, wpS_callS, wpS_ret, kThen_N, kThen_B, kThen_C, kThen_R, kThen_T, kNext_N, kNext_C, kNext_B, kNext_R, wpE_K, wpE_KL, xE_I, xE_R, wpE_J, xE_bin, wpE_ladd, wpE_i2l, xE_get, xE_ald0, xE_ald1, wpE_if, xE_max, xE_min, wpE_len, wpA_nil, wpA_snoc, xE_call, xE_callS, xC_C, xC_L, xC_Z, wpC_and, wpC_or, wpC_not, wpC_if, kcmp_0, kcmp_1, kcmp_2, kcmp_3, kcmp_4, kcmp_5, rR_inj, kgO_some, kgO_add, kgO_sub, kgO_mul, kgO_div, kgO_rem, kgO_and, kvI_inl, kvJ_inl, kgI_0, kgI_s, kgR_0, kgR_s, kst_nil, kst_0, kst_s, kNLl_nil, kNLl_i, kNLl_r, kNLl_n, ktag_i, ktag_r, List.length_cons, List.length_nil, List.take_succ_cons, List.take_zero, List.take_nil, List.nil_append, List.cons_append, decide_eq_true_eq, Bool.not_eq_true, Bool.not_eq_true', decide_eq_false_iff_not, ne_eq, Decidable.not_not, true_and, and_true, Nat.reduceAdd, Nat.reduceLeDiff, Nat.reduceEqDiff, Nat.le_refl, not_true_eq_false, not_false_eq_true, reduceIte, eq_self, Int.reduceNeg, Int.reduceEq, Int.reduceLT, Int.reduceLE, Nat.zero_le, Nat.one_ne_zero, ev_joiner, ev_joiner_arr, Int.toNat_natCast, g2, g56, eM]
          repeat refine And.intro (by omega) ?_
          rw [hQ111]
          clear hQ111 Q111
          rw [hQ0]
          refine kThen_N.mpr (wpS_retV.mpr ⟨none, rfl, rfl, ?_⟩)
          obtain ⟨s4, hs4⟩ : ∃ s4, s4 = kup (kup s3 57 up fz) 11 2 (M' : Int) := ⟨_, rfl⟩
          rw [← hs4]
          have r1 : ∀ o k, o ≠ 57 → (o ≠ 11 ∨ k ≠ 2) → s4 o k = s3 o k := by intro o k h1 h2; rw [hs4]; unfold kup; rw [if_neg (fun q => h2.elim (fun w => w q.1) (fun w => w q.2)), if_neg (fun q => h1 q.1)]
          have r2 : s4 11 2 = M' := by rw [hs4]; simp [kup]
          have r57 : ∀ v, s4 57 v = if v = up then fz else σ 57 v := by
            intro v; rw [hs4, kup_ne (by decide), kup_eq]; split
            · rfl
            · rw [p1 _ _ (by decide), m1 _ _ (by decide) (by decide) (by omega)]
          clear hs4
          refine ⟨rfl, fun o k o1 o2 o3 o4 o5 => by rw [r1 o k o5 (Or.inl o1), p1 o k o4, m1 o k o2 o3 (Or.inl o1)], _, _, hd', _, _, _, mg, fun v hv => ?_, ?_, ?_, M', r2, fun v hv => ?_, fun h0 => ?_, fun h0 => ?_⟩
          · obtain ⟨x1, x2, x3, x4, x5⟩ := S1 v hv
            dsimp only
            refine ⟨?_, ?_, ?_, ?_, fun hv' => ?_⟩
            · rw [r1 _ _ (by decide) (by omega), p1 _ _ (by decide), m54]
              split
              · rfl
              · exact x1
            · rw [r1 _ _ (by decide) (by omega), p1 _ _ (by decide), m55]
              split
              · rfl
              · exact x2
            · rw [r57]; split
              · exact hfz
              · exact x3
            · rw [r57]
              by_cases e : v = up
              · rw [if_pos e, hfz2, e]
                exact ⟨fun q => q.imp id (fun q => ⟨rfl, q⟩), fun q => q.imp id (fun q => q.2)⟩
              · rw [if_neg e]
                exact x4.trans ⟨Or.inl, fun q => q.elim id (fun q => absurd q.1 e)⟩
            · rw [r1 _ _ (by decide) (by omega), p56]
              obtain ⟨q1, q2⟩ := (hh v hv).mp hv'
              by_cases e : v = up
              · rw [if_pos e, e, cU]
              · rw [if_neg e, cO v q2 e]; exact x5 q1
          · rw [r1 _ _ (by decide) (by omega), p1 _ _ (by decide), m0, cp2]; omega
          · rw [r1 _ _ (by decide) (by omega), p1 _ _ (by decide), m01, hE']
          · by_cases e : hd' v = up
            · rw [e, cU, hM']; split <;> omega
            · have e2 : hd' v = hd v ∧ hd v ≠ lw := by
                rw [hhd'] at e ⊢
                dsimp only at e ⊢
                by_cases q : hd v = lw
                · rw [if_pos q] at e; exact absurd rfl e
                · rw [if_neg q]; exact ⟨rfl, q⟩
              have := S5 v hv
              rw [e2.1, cO _ e2.2 (by rw [← e2.1]; exact e), hM']
              split <;> omega
          · by_cases q : M < cu + cl
            · refine ⟨up, hup.1, ?_⟩
              have e : hd' up = up := (hh up hup.1).mpr ⟨hup.2, fun q => hne q.symm⟩
              rw [e, cU, hM', if_pos q]
            · obtain ⟨v, v1, v2⟩ := S6 h0
              refine ⟨v, v1, ?_⟩
              rw [hM', if_neg q]
              have hl1 : 0 < cl := by rw [hcl]; exact Nat.lt_of_le_of_lt (Nat.zero_le _) (cntP_lt (P := fun u => hd u = lw) hlw.1 hlw.2)
              have e1 : hd v ≠ lw := fun w => by rw [w, ← hcl] at v2; omega
              have e2 : hd v ≠ up := fun w => by rw [w, ← hcu] at v2; omega
              have e3 : hd' v = hd v := by rw [hhd']; dsimp only; rw [if_neg e1]
              rw [e3, cO _ e1 e2]; exact v2
          · omega
        have o1 : σ 57 up = 0 ↔ ¬ od up := ⟨fun q w => by have := u4.mpr w; omega, fun q => u3.elim id (fun w => absurd (u4.mp w) q)⟩
        have o2 : σ 57 lw = 0 ↔ ¬ od lw := ⟨fun q w => by have := l4.mpr w; omega, fun q => l3.elim id (fun w => absurd (l4.mp w) q)⟩
        by_cases q1 : σ 57 up = 0
        · by_cases q2 : σ 57 lw = 0
          · have e : fz = 0 := hfz.elim id (fun w => absurd (hfz2.mp w) (fun h => h.elim (o1.mp q1) (o2.mp q2)))
            rw [e] at go2
            simp only [wpS_skip, wpS_break, wpS_cont, wpS_retV, wpS_throw, wpS_seq, wpS_if, wpS_trunc, yS_let, yS_inc, kgK_i, kgK_r, kok_nil, kok_i0, kok_is, kok_r0, kok_rs, kok_n0, kok_ns, xS_put, xS_putOp, xS_ast0, xS_ast1, xS_astOp, wpS_E, wpS_call, wpS_callS, wpS_ret, kThen_N, kThen_B, kThen_C, kThen_R, kThen_T, kNext_N, kNext_C, kNext_B, kNext_R, wpE_K, wpE_KL, xE_I, xE_R, wpE_J, xE_bin, wpE_ladd, wpE_i2l, xE_get, xE_ald0, xE_ald1, wpE_if, xE_max, xE_min, wpE_len, wpA_nil, wpA_snoc, xE_call, xE_callS, xC_C, xC_L, xC_Z, wpC_and, wpC_or, wpC_not, wpC_if, kcmp_0, kcmp_1, kcmp_2, kcmp_3, kcmp_4, kcmp_5, rR_inj, kgO_some, kgO_add, kgO_sub, kgO_mul, kgO_div, kgO_rem, kgO_and, kvI_inl, kvJ_inl, kgI_0, kgI_s, kgR_0, kgR_s, kst_nil, kst_0, kst_s, kNLl_nil, kNLl_i, kNLl_r, kNLl_n, ktag_i, ktag_r, List.length_cons, List.length_nil, List.take_succ_cons, List.take_zero, List.take_nil, List.nil_append, List.cons_append, decide_eq_true_eq, Bool.not_eq_true, Bool.not_eq_true', decide_eq_false_iff_not, ne_eq, Decidable.not_not, true_and, and_true, Nat.reduceAdd, Nat.reduceLeDiff, Nat.reduceEqDiff, Nat.le_refl, not_true_eq_false, not_false_eq_true, reduceIte, eq_self, Int.reduceNeg, Int.reduceEq, Int.reduceLT, Int.reduceLE, Nat.zero_le, Nat.one_ne_zero, ev_joiner, ev_joiner_arr, Int.toNat_natCast, e57u, e57l, q1, q2, decide_true, decide_false, Bool.false_eq_true, if_true, if_false, true_and, and_true, not_true_eq_false, not_false_eq_true, true_or, or_true]
            repeat refine And.intro (by omega) ?_
            exact go2
          · have e : fz = 1 := hfz2.mpr (Or.inr (l4.mp (by omega)))
            rw [e] at go2
            simp only [wpS_skip, wpS_break, wpS_cont, wpS_retV, wpS_throw, wpS_seq, wpS_if, wpS_trunc, yS_let, yS_inc, kgK_i, kgK_r, kok_nil, kok_i0, kok_is, kok_r0, kok_rs, kok_n0, kok_ns, xS_put, xS_putOp, xS_ast0, xS_ast1, xS_astOp, wpS_E, wpS_call, wpS_callS, wpS_ret, kThen_N, kThen_B, kThen_C, kThen_R, kThen_T, kNext_N, kNext_C, kNext_B, kNext_R, wpE_K, wpE_KL, xE_I, xE_R, wpE_J, xE_bin, wpE_ladd, wpE_i2l, xE_get, xE_ald0, xE_ald1, wpE_if, xE_max, xE_min, wpE_len, wpA_nil, wpA_snoc, xE_call, xE_callS, xC_C, xC_L, xC_Z, wpC_and, wpC_or, wpC_not, wpC_if, kcmp_0, kcmp_1, kcmp_2, kcmp_3, kcmp_4, kcmp_5, rR_inj, kgO_some, kgO_add, kgO_sub, kgO_mul, kgO_div, kgO_rem, kgO_and, kvI_inl, kvJ_inl, kgI_0, kgI_s, kgR_0, kgR_s, kst_nil, kst_0, kst_s, kNLl_nil, kNLl_i, kNLl_r, kNLl_n, ktag_i, ktag_r, List.length_cons, List.length_nil, List.take_succ_cons, List.take_zero, List.take_nil, List.nil_append, List.cons_append, decide_eq_true_eq, Bool.not_eq_true, Bool.not_eq_true', decide_eq_false_iff_not, ne_eq, Decidable.not_not, true_and, and_true, Nat.reduceAdd, Nat.reduceLeDiff, Nat.reduceEqDiff, Nat.le_refl, not_true_eq_false, not_false_eq_true, reduceIte, eq_self, Int.reduceNeg, Int.reduceEq, Int.reduceLT, Int.reduceLE, Nat.zero_le, Nat.one_ne_zero, ev_joiner, ev_joiner_arr, Int.toNat_natCast, e57u, e57l, q1, q2, decide_true, decide_false, Bool.false_eq_true, if_true, if_false, true_and, and_true, not_true_eq_false, not_false_eq_true, true_or, or_true]
            repeat refine And.intro (by omega) ?_
            exact go2
        · have e : fz = 1 := hfz2.mpr (Or.inl (u4.mp (by omega)))
          rw [e] at go2
          simp only [wpS_skip, wpS_break, wpS_cont, wpS_retV, wpS_throw, wpS_seq, wpS_if, wpS_trunc, yS_let, yS_inc, kgK_i, kgK_r, kok_nil, kok_i0, kok_is, kok_r0, kok_rs, kok_n0, kok_ns, xS_put, xS_putOp, xS_ast0, xS_ast1, xS_astOp, wpS_E, wpS_call, wpS_callS, wpS_ret, kThen_N, kThen_B, kThen_C, kThen_R, kThen_T, kNext_N, kNext_C, kNext_B, kNext_R, wpE_K, wpE_KL, xE_I, xE_R, wpE_J, xE_bin, wpE_ladd, wpE_i2l, xE_get, xE_ald0, xE_ald1, wpE_if, xE_max, xE_min, wpE_len, wpA_nil, wpA_snoc, xE_call, xE_callS, xC_C, xC_L, xC_Z, wpC_and, wpC_or, wpC_not, wpC_if, kcmp_0, kcmp_1, kcmp_2, kcmp_3, kcmp_4, kcmp_5, rR_inj, kgO_some, kgO_add, kgO_sub, kgO_mul, kgO_div, kgO_rem, kgO_and, kvI_inl, kvJ_inl, kgI_0, kgI_s, kgR_0, kgR_s, kst_nil, kst_0, kst_s, kNLl_nil, kNLl_i, kNLl_r, kNLl_n, ktag_i, ktag_r, List.length_cons, List.length_nil, List.take_succ_cons, List.take_zero, List.take_nil, List.nil_append, List.cons_append, decide_eq_true_eq, Bool.not_eq_true, Bool.not_eq_true', decide_eq_false_iff_not, ne_eq, Decidable.not_not, true_and, and_true, Nat.reduceAdd, Nat.reduceLeDiff, Nat.reduceEqDiff, Nat.le_refl, not_true_eq_false, not_false_eq_true, reduceIte, eq_self, Int.reduceNeg, Int.reduceEq, Int.reduceLT, Int.reduceLE, Nat.zero_le, Nat.one_ne_zero, ev_joiner, ev_joiner_arr, Int.toNat_natCast, e57u, q1, decide_true, decide_false, Bool.false_eq_true, if_true, if_false, true_and, and_true, not_true_eq_false, not_false_eq_true, true_or, or_true]
          repeat refine And.intro (by omega) ?_
          exact go2
      by_cases q1 : σ 57 lw = 0
      · rw [if_neg (fun q => by omega)] at hEE
        simp only [wpS_skip, wpS_break, wpS_cont, wpS_retV, wpS_throw, wpS_seq, wpS_if, wpS_trunc, yS_let, yS_inc, kgK_i, kgK_r, kok_nil, kok_i0, kok_is, kok_r0, kok_rs, kok_n0, kok_ns, xS_put, xS_putOp, xS_ast0, xS_ast1, xS_astOp, wpS_E, wpS_call, wpS_callS, wpS_ret, kThen_N, kThen_B, kThen_C, kThen_R, kThen_T, kNext_N, kNext_C, kNext_B, kNext_R, wpE_K, wpE_KL, xE_I, xE_R, wpE_J, xE_bin, wpE_ladd, wpE_i2l, xE_get, xE_ald0, xE_ald1, wpE_if, xE_max, xE_min, wpE_len, wpA_nil, wpA_snoc, xE_call, xE_callS, xC_C, xC_L, xC_Z, wpC_and, wpC_or, wpC_not, wpC_if, kcmp_0, kcmp_1, kcmp_2, kcmp_3, kcmp_4, kcmp_5, rR_inj, kgO_some, kgO_add, kgO_sub, kgO_mul, kgO_div, kgO_rem, kgO_and, kvI_inl, kvJ_inl, kgI_0, kgI_s, kgR_0, kgR_s, kst_nil, kst_0, kst_s, kNLl_nil, kNLl_i, kNLl_r, kNLl_n, ktag_i, ktag_r, List.length_cons, List.length_nil, List.take_succ_cons, List.take_zero, List.take_nil, List.nil_append, List.cons_append, decide_eq_true_eq, Bool.not_eq_true, Bool.not_eq_true', decide_eq_false_iff_not, ne_eq, Decidable.not_not, true_and, and_true, Nat.reduceAdd, Nat.reduceLeDiff, Nat.reduceEqDiff, Nat.le_refl, not_true_eq_false, not_false_eq_true, reduceIte, eq_self, Int.reduceNeg, Int.reduceEq, Int.reduceLT, Int.reduceLE, Nat.zero_le, Nat.one_ne_zero, ev_joiner, ev_joiner_arr, Int.toNat_natCast, q1, S3, decide_true, decide_false, Bool.false_eq_true, if_true, if_false, true_and, and_true, not_true_eq_false, not_false_eq_true]
        repeat refine And.intro (by omega) ?_
        rw [show (E : Int) - 1 = (E' : Int) by omega, ← hs1]
        exact go
      · by_cases q2 : σ 57 up = 0
        · rw [if_neg (fun q => by omega)] at hEE
          simp only [wpS_skip, wpS_break, wpS_cont, wpS_retV, wpS_throw, wpS_seq, wpS_if, wpS_trunc, yS_let, yS_inc, kgK_i, kgK_r, kok_nil, kok_i0, kok_is, kok_r0, kok_rs, kok_n0, kok_ns, xS_put, xS_putOp, xS_ast0, xS_ast1, xS_astOp, wpS_E, wpS_call, wpS_callS, wpS_ret, kThen_N, kThen_B, kThen_C, kThen_R, kThen_T, kNext_N, kNext_C, kNext_B, kNext_R, wpE_K, wpE_KL, xE_I, xE_R, wpE_J, xE_bin, wpE_ladd, wpE_i2l, xE_get, xE_ald0, xE_ald1, wpE_if, xE_max, xE_min, wpE_len, wpA_nil, wpA_snoc, xE_call, xE_callS, xC_C, xC_L, xC_Z, wpC_and, wpC_or, wpC_not, wpC_if, kcmp_0, kcmp_1, kcmp_2, kcmp_3, kcmp_4, kcmp_5, rR_inj, kgO_some, kgO_add, kgO_sub, kgO_mul, kgO_div, kgO_rem, kgO_and, kvI_inl, kvJ_inl, kgI_0, kgI_s, kgR_0, kgR_s, kst_nil, kst_0, kst_s, kNLl_nil, kNLl_i, kNLl_r, kNLl_n, ktag_i, ktag_r, List.length_cons, List.length_nil, List.take_succ_cons, List.take_zero, List.take_nil, List.nil_append, List.cons_append, decide_eq_true_eq, Bool.not_eq_true, Bool.not_eq_true', decide_eq_false_iff_not, ne_eq, Decidable.not_not, true_and, and_true, Nat.reduceAdd, Nat.reduceLeDiff, Nat.reduceEqDiff, Nat.le_refl, not_true_eq_false, not_false_eq_true, reduceIte, eq_self, Int.reduceNeg, Int.reduceEq, Int.reduceLT, Int.reduceLE, Nat.zero_le, Nat.one_ne_zero, ev_joiner, ev_joiner_arr, Int.toNat_natCast, q1, q2, S3, decide_true, decide_false, Bool.false_eq_true, if_true, if_false, true_and, and_true, not_true_eq_false, not_false_eq_true]
          repeat refine And.intro (by omega) ?_
          rw [show (E : Int) - 1 = (E' : Int) by omega, ← hs1]
          exact go
        · rw [if_pos ⟨by omega, by omega⟩] at hEE
          have e : σ = s1 := funext fun o => funext fun k => same (by omega) o k
          simp only [wpS_skip, wpS_break, wpS_cont, wpS_retV, wpS_throw, wpS_seq, wpS_if, wpS_trunc, yS_let, yS_inc, kgK_i, kgK_r, kok_nil, kok_i0, kok_is, kok_r0, kok_rs, kok_n0, kok_ns, xS_put, xS_putOp, xS_ast0, xS_ast1, xS_astOp, wpS_E, wpS_call, wpS_callS, wpS_ret, kThen_N, kThen_B, kThen_C, kThen_R, kThen_T, kNext_N, kNext_C, kNext_B, kNext_R, wpE_K, wpE_KL, xE_I, xE_R, wpE_J, xE_bin, wpE_ladd, wpE_i2l, xE_get, xE_ald0, xE_ald1, wpE_if, xE_max, xE_min, wpE_len, wpA_nil, wpA_snoc, xE_call, xE_callS, xC_C, xC_L, xC_Z, wpC_and, wpC_or, wpC_not, wpC_if, kcmp_0, kcmp_1, kcmp_2, kcmp_3, kcmp_4, kcmp_5, rR_inj, kgO_some, kgO_add, kgO_sub, kgO_mul, kgO_div, kgO_rem, kgO_and, kvI_inl, kvJ_inl, kgI_0, kgI_s, kgR_0, kgR_s, kst_nil, kst_0, kst_s, kNLl_nil, kNLl_i, kNLl_r, kNLl_n, ktag_i, ktag_r, List.length_cons, List.length_nil, List.take_succ_cons, List.take_zero, List.take_nil, List.nil_append, List.cons_append, decide_eq_true_eq, Bool.not_eq_true, Bool.not_eq_true', decide_eq_false_iff_not, ne_eq, Decidable.not_not, true_and, and_true, Nat.reduceAdd, Nat.reduceLeDiff, Nat.reduceEqDiff, Nat.le_refl, not_true_eq_false, not_false_eq_true, reduceIte, eq_self, Int.reduceNeg, Int.reduceEq, Int.reduceLT, Int.reduceLE, Nat.zero_le, Nat.one_ne_zero, ev_joiner, ev_joiner_arr, Int.toNat_natCast, q1, q2, decide_true, decide_false, Bool.false_eq_true, if_true, if_false, true_and, and_true, not_true_eq_false, not_false_eq_true]
          repeat refine And.intro (by omega) ?_
          rw [e]
          exact go
    by_cases hs : cntP (fun u => hd u = hd b) n ≤ cntP (fun u => hd u = hd a) n
    · have hs' : (cntP (fun u => hd u = hd b) n : Int) ≤ (cntP (fun u => hd u = hd a) n : Int) := by omega
      refine wpS_seq' (fun Q4 hQ4 => ?_)
      simp only [wpS_skip, wpS_break, wpS_cont, wpS_retV, wpS_throw, wpS_seq, wpS_if, wpS_trunc, yS_let, yS_inc, kgK_i, kgK_r, kok_nil, kok_i0, kok_is, kok_r0, kok_rs, kok_n0, kok_ns, xS_put, xS_putOp, xS_ast0, xS_ast1, xS_astOp, wpS_E, wpS_call, wpS_callS, wpS_ret, kThen_N, kThen_B, kThen_C, kThen_R, kThen_T, kNext_N, kNext_C, kNext_B, kNext_R, wpE_K, wpE_KL, xE_I, xE_R, wpE_J, xE_bin, wpE_ladd, wpE_i2l, xE_get, xE_ald0, xE_ald1, wpE_if, xE_max, xE_min, wpE_len, wpA_nil, wpA_snoc, xE_call, xE_callS, xC_C, xC_L, xC_Z, wpC_and, wpC_or, wpC_not, wpC_if, kcmp_0, kcmp_1, kcmp_2, kcmp_3, kcmp_4, kcmp_5, rR_inj, kgO_some, kgO_add, kgO_sub, kgO_mul, kgO_div, kgO_rem, kgO_and, kvI_inl, kvJ_inl, kgI_0, kgI_s, kgR_0, kgR_s, kst_nil, kst_0, kst_s, kNLl_nil, kNLl_i, kNLl_r, kNLl_n, ktag_i, ktag_r, List.length_cons, List.length_nil, List.take_succ_cons, List.take_zero, List.take_nil, List.nil_append, List.cons_append, decide_eq_true_eq, Bool.not_eq_true, Bool.not_eq_true', decide_eq_false_iff_not, ne_eq, Decidable.not_not, true_and, and_true, Nat.reduceAdd, Nat.reduceLeDiff, Nat.reduceEqDiff, Nat.le_refl, not_true_eq_false, not_false_eq_true, reduceIte, eq_self, Int.reduceNeg, Int.reduceEq, Int.reduceLT, Int.reduceLE, Nat.zero_le, Nat.one_ne_zero, ev_joiner, ev_joiner_arr, Int.toNat_natCast, za, zb, hs', decide_true, decide_false, Bool.false_eq_true, if_true, if_false, true_and, and_true, not_true_eq_false, not_false_eq_true]
      repeat refine And.intro (by omega) ?_
      rw [hQ4]
      refine kThen_N.mpr ?_
      refine wpS_seq' (fun Q5 hQ5 => ?_)
      simp only [wpS_skip, wpS_break, wpS_cont, wpS_retV, wpS_throw, wpS_seq, wpS_if, wpS_trunc, yS_let, yS_inc, kgK_i, kgK_r, kok_nil, kok_i0, kok_is, kok_r0, kok_rs, kok_n0, kok_ns, xS_put, xS_putOp, xS_ast0, xS_ast1, xS_astOp, wpS_E, wpS_call, wpS_callS, wpS_ret, kThen_N, kThen_B, kThen_C, kThen_R, kThen_T, kNext_N, kNext_C, kNext_B, kNext_R, wpE_K, wpE_KL, xE_I, xE_R, wpE_J, xE_bin, wpE_ladd, wpE_i2l, xE_get, xE_ald0, xE_ald1, wpE_if, xE_max, xE_min, wpE_len, wpA_nil, wpA_snoc, xE_call, xE_callS, xC_C, xC_L, xC_Z, wpC_and, wpC_or, wpC_not, wpC_if, kcmp_0, kcmp_1, kcmp_2, kcmp_3, kcmp_4, kcmp_5, rR_inj, kgO_some, kgO_add, kgO_sub, kgO_mul, kgO_div, kgO_rem, kgO_and, kvI_inl, kvJ_inl, kgI_0, kgI_s, kgR_0, kgR_s, kst_nil, kst_0, kst_s, kNLl_nil, kNLl_i, kNLl_r, kNLl_n, ktag_i, ktag_r, List.length_cons, List.length_nil, List.take_succ_cons, List.take_zero, List.take_nil, List.nil_append, List.cons_append, decide_eq_true_eq, Bool.not_eq_true, Bool.not_eq_true', decide_eq_false_iff_not, ne_eq, Decidable.not_not, true_and, and_true, Nat.reduceAdd, Nat.reduceLeDiff, Nat.reduceEqDiff, Nat.le_refl, not_true_eq_false, not_false_eq_true, reduceIte, eq_self, Int.reduceNeg, Int.reduceEq, Int.reduceLT, Int.reduceLE, Nat.zero_le, Nat.one_ne_zero, ev_joiner, decide_true, decide_false, Bool.false_eq_true, if_true, if_false, true_and, and_true, not_true_eq_false, not_false_eq_true]
      refine (hang (hd b) (hd a) (Or.inr ⟨rfl, rfl⟩) hs).mono ?_
      rintro r s ⟨rfl, h1, h2⟩
      refine ⟨rfl, ?_⟩
      rw [hQ5]
      refine kThen_N.mpr ?_
      refine wpS_gen (fun Q112 hQ112 => ?_)
      simp only [wpS_skip, wpS_break, wpS_cont, wpS_retV, wpS_throw, wpS_seq, wpS_if, wpS_trunc, yS_let, yS_inc, kgK_i, kgK_r, kok_nil, kok_i0, kok_is, kok_r0, kok_rs, kok_n0, kok_ns, xS_put, xS_putOp, xS_ast0, xS_ast1, xS_astOp, wpS_E, wpS_call, wpS_callS, wpS_ret, kThen_N, kThen_B, kThen_C, kThen_R, kThen_T, kNext_N, kNext_C, kNext_B, kNext_R, wpE_K, wpE_KL, xE_I, xE_R, wpE_J, xE_bin, wpE_ladd, wpE_i2l, xE_get, xE_ald0, xE_ald1, wpE_if, xE_max, xE_min, wpE_len, wpA_nil, wpA_snoc, xE_call, xE_callS, xC_C, xC_L, xC_Z, wpC_and, wpC_or, wpC_not, wpC_if, kcmp_0, kcmp_1, kcmp_2, kcmp_3, kcmp_4, kcmp_5, rR_inj, kgO_some, kgO_add, kgO_sub, kgO_mul, kgO_div, kgO_rem, kgO_and, kvI_inl, kvJ_inl, kgI_0, kgI_s, kgR_0, kgR_s, kst_nil, kst_0, kst_s, kNLl_nil, kNLl_i, kNLl_r, kNLl_n, ktag_i, ktag_r, List.length_cons, List.length_nil, List.take_succ_cons, List.take_zero, List.take_nil, List.nil_append, List.cons_append, decide_eq_true_eq, Bool.not_eq_true, Bool.not_eq_true', decide_eq_false_iff_not, ne_eq, Decidable.not_not, true_and, and_true, Nat.reduceAdd, Nat.reduceLeDiff, Nat.reduceEqDiff, Nat.le_refl, not_true_eq_false, not_false_eq_true, reduceIte, eq_self, Int.reduceNeg, Int.reduceEq, Int.reduceLT, Int.reduceLE, Nat.zero_le, Nat.one_ne_zero]
      repeat refine And.intro (by omega) ?_
      rw [hQ112]
      clear hQ112 Q112
      exact ⟨_, rfl, rfl, h1, Or.inr ⟨hrr, rfl⟩, h2⟩
    · have hs' : ¬ (cntP (fun u => hd u = hd b) n : Int) ≤ (cntP (fun u => hd u = hd a) n : Int) := by omega
      refine wpS_seq' (fun Q4 hQ4 => ?_)
      simp only [wpS_skip, wpS_break, wpS_cont, wpS_retV, wpS_throw, wpS_seq, wpS_if, wpS_trunc, yS_let, yS_inc, kgK_i, kgK_r, kok_nil, kok_i0, kok_is, kok_r0, kok_rs, kok_n0, kok_ns, xS_put, xS_putOp, xS_ast0, xS_ast1, xS_astOp, wpS_E, wpS_call, wpS_callS, wpS_ret, kThen_N, kThen_B, kThen_C, kThen_R, kThen_T, kNext_N, kNext_C, kNext_B, kNext_R, wpE_K, wpE_KL, xE_I, xE_R, wpE_J, xE_bin, wpE_ladd, wpE_i2l, xE_get, xE_ald0, xE_ald1, wpE_if, xE_max, xE_min, wpE_len, wpA_nil, wpA_snoc, xE_call, xE_callS, xC_C, xC_L, xC_Z, wpC_and, wpC_or, wpC_not, wpC_if, kcmp_0, kcmp_1, kcmp_2, kcmp_3, kcmp_4, kcmp_5, rR_inj, kgO_some, kgO_add, kgO_sub, kgO_mul, kgO_div, kgO_rem, kgO_and, kvI_inl, kvJ_inl, kgI_0, kgI_s, kgR_0, kgR_s, kst_nil, kst_0, kst_s, kNLl_nil, kNLl_i, kNLl_r, kNLl_n, ktag_i, ktag_r, List.length_cons, List.length_nil, List.take_succ_cons, List.take_zero, List.take_nil, List.nil_append, List.cons_append, decide_eq_true_eq, Bool.not_eq_true, Bool.not_eq_true', decide_eq_false_iff_not, ne_eq, Decidable.not_not, true_and, and_true, Nat.reduceAdd, Nat.reduceLeDiff, Nat.reduceEqDiff, Nat.le_refl, not_true_eq_false, not_false_eq_true, reduceIte, eq_self, Int.reduceNeg, Int.reduceEq, Int.reduceLT, Int.reduceLE, Nat.zero_le, Nat.one_ne_zero, ev_joiner, ev_joiner_arr, Int.toNat_natCast, za, zb, hs', decide_true, decide_false, Bool.false_eq_true, if_true, if_false, true_and, and_true, not_true_eq_false, not_false_eq_true]
      repeat refine And.intro (by omega) ?_
      rw [hQ4]
      refine kThen_N.mpr ?_
      refine wpS_seq' (fun Q5 hQ5 => ?_)
      simp only [wpS_skip, wpS_break, wpS_cont, wpS_retV, wpS_throw, wpS_seq, wpS_if, wpS_trunc, yS_let, yS_inc, kgK_i, kgK_r, kok_nil, kok_i0, kok_is, kok_r0, kok_rs, kok_n0, kok_ns, xS_put, xS_putOp, xS_ast0, xS_ast1, xS_astOp, wpS_E, wpS_call, wpS_callS, wpS_ret, kThen_N, kThen_B, kThen_C, kThen_R, kThen_T, kNext_N, kNext_C, kNext_B, kNext_R, wpE_K, wpE_KL, xE_I, xE_R, wpE_J, xE_bin, wpE_ladd, wpE_i2l, xE_get, xE_ald0, xE_ald1, wpE_if, xE_max, xE_min, wpE_len, wpA_nil, wpA_snoc, xE_call, xE_callS, xC_C, xC_L, xC_Z, wpC_and, wpC_or, wpC_not, wpC_if, kcmp_0, kcmp_1, kcmp_2, kcmp_3, kcmp_4, kcmp_5, rR_inj, kgO_some, kgO_add, kgO_sub, kgO_mul, kgO_div, kgO_rem, kgO_and, kvI_inl, kvJ_inl, kgI_0, kgI_s, kgR_0, kgR_s, kst_nil, kst_0, kst_s, kNLl_nil, kNLl_i, kNLl_r, kNLl_n, ktag_i, ktag_r, List.length_cons, List.length_nil, List.take_succ_cons, List.take_zero, List.take_nil, List.nil_append, List.cons_append, decide_eq_true_eq, Bool.not_eq_true, Bool.not_eq_true', decide_eq_false_iff_not, ne_eq, Decidable.not_not, true_and, and_true, Nat.reduceAdd, Nat.reduceLeDiff, Nat.reduceEqDiff, Nat.le_refl, not_true_eq_false, not_false_eq_true, reduceIte, eq_self, Int.reduceNeg, Int.reduceEq, Int.reduceLT, Int.reduceLE, Nat.zero_le, Nat.one_ne_zero, ev_joiner, decide_true, decide_false, Bool.false_eq_true, if_true, if_false, true_and, and_true, not_true_eq_false, not_false_eq_true]
      refine (hang (hd a) (hd b) (Or.inl ⟨rfl, rfl⟩) (by omega)).mono ?_
      rintro r s ⟨rfl, h1, h2⟩
      refine ⟨rfl, ?_⟩
      rw [hQ5]
      refine kThen_N.mpr ?_
      refine wpS_gen (fun Q113 hQ113 => ?_)
      simp only [wpS_skip, wpS_break, wpS_cont, wpS_retV, wpS_throw, wpS_seq, wpS_if, wpS_trunc, yS_let, yS_inc, kgK_i, kgK_r, kok_nil, kok_i0, kok_is, kok_r0, kok_rs, kok_n0, kok_ns, xS_put, xS_putOp, xS_ast0, xS_ast1, xS_astOp, wpS_E, wpS_call, wpS_callS, wpS_ret, kThen_N, kThen_B, kThen_C, kThen_R, kThen_T, kNext_N, kNext_C, kNext_B, kNext_R, wpE_K, wpE_KL, xE_I, xE_R, wpE_J, xE_bin, wpE_ladd, wpE_i2l, xE_get, xE_ald0, xE_ald1, wpE_if, xE_max, xE_min, wpE_len, wpA_nil, wpA_snoc, xE_call, xE_callS, xC_C, xC_L, xC_Z, wpC_and, wpC_or, wpC_not, wpC_if, kcmp_0, kcmp_1, kcmp_2, kcmp_3, kcmp_4, kcmp_5, rR_inj, kgO_some, kgO_add, kgO_sub, kgO_mul, kgO_div, kgO_rem, kgO_and, kvI_inl, kvJ_inl, kgI_0, kgI_s, kgR_0, kgR_s, kst_nil, kst_0, kst_s, kNLl_nil, kNLl_i, kNLl_r, kNLl_n, ktag_i, ktag_r, List.length_cons, List.length_nil, List.take_succ_cons, List.take_zero, List.take_nil, List.nil_append, List.cons_append, decide_eq_true_eq, Bool.not_eq_true, Bool.not_eq_true', decide_eq_false_iff_not, ne_eq, Decidable.not_not, true_and, and_true, Nat.reduceAdd, Nat.reduceLeDiff, Nat.reduceEqDiff, Nat.le_refl, not_true_eq_false, not_false_eq_true, reduceIte, eq_self, Int.reduceNeg, Int.reduceEq, Int.reduceLT, Int.reduceLE, Nat.zero_le, Nat.one_ne_zero]
      repeat refine And.intro (by omega) ?_
      rw [hQ113]
      clear hQ113 Q113
      exact ⟨_, rfl, rfl, h1, Or.inr ⟨hrr, rfl⟩, h2⟩
end JN3
