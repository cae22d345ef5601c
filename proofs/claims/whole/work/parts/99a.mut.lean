/-! THE PLAN'S CALLS; drop, weigh, clear -/
section AW
variable {σ : kS} {n c ar st rl : Nat} {li fs sn lv od rt dp rg : Nat → Nat} {tr lo wt sp tk pa up : Nat → Int} {sf ss : Nat → Nat} {mv sx : Int} {S : Nat → Prop}
theorem plOk_nil : plOk n c 0 li sp tk sf ss := ⟨by omega, fun k hk => absurd hk (by omega), fun j k _ hk => absurd hk (by omega)⟩
theorem jDrop {A : Int} (h : JV σ A) : wpS s_KP_drop [some (.inr (.inl 0))] σ (fun r _ s => refC F_Md_drop [.inr (.inl 14)] A (fun _ => 1) r s) := by
  obtain ⟨n, c, ar, st, rl, li, fs, sn, lv, od, rt, dp, rg, tr, lo, wt, sp, tk, pa, up, sf, ss, mv, sx, S, hg, hC, hP, hO, hR, hrl, hA⟩ := h
  unfold s_KP_drop
  refine wpS_gen (fun Q1 hQ1 => ?_)
  simp only [wpS_skip, wpS_break, wpS_cont, wpS_retV, wpS_throw, wpS_seq, wpS_if, wpS_trunc, yS_let, yS_inc, kgK_i, kgK_r, kok_nil, kok_i0, kok_is, kok_r0, kok_rs, kok_n0, kok_ns, xS_put, xS_putOp, xS_ast0, xS_ast1, xS_astOp, wpS_E, wpS_call, wpS_callS, wpS_ret, kThen_N, kThen_B, kThen_C, kThen_R, kThen_T, kNext_N, kNext_C, kNext_B, kNext_R, wpE_K, wpE_KL, xE_I, xE_R, wpE_J, xE_bin, wpE_ladd, wpE_i2l, xE_get, xE_ald0, xE_ald1, wpE_if, xE_max, xE_min, wpE_len, wpA_nil, wpA_snoc, xE_call, xE_callS, xC_C, xC_L, xC_Z, wpC_and, wpC_or, wpC_not, wpC_if, kcmp_0, kcmp_1, kcmp_2, kcmp_3, kcmp_4, kcmp_5, rR_inj, kgO_some, kgO_add, kgO_sub, kgO_mul, kgO_div, kgO_rem, kgO_and, kvI_inl, kvJ_inl, kgI_0, kgI_s, kgR_0, kgR_s, kst_nil, kst_0, kst_s, kNLl_nil, kNLl_i, kNLl_r, kNLl_n, ktag_i, ktag_r, List.length_cons, List.length_nil, List.take_succ_cons, List.take_zero, List.take_nil, List.nil_append, List.cons_append, decide_eq_true_eq, Bool.not_eq_true, Bool.not_eq_true', decide_eq_false_iff_not, ne_eq, Decidable.not_not, true_and, and_true, Nat.reduceAdd, Nat.reduceLeDiff, Nat.reduceEqDiff, Nat.le_refl, not_true_eq_false, not_false_eq_true, reduceIte, eq_self, Int.reduceNeg, Int.reduceEq, Int.reduceLT, Int.reduceLE, Nat.zero_le, Nat.one_ne_zero, ev_kp]
  refine ⟨rfl, ?_⟩
  refine (forget_ok hg.1 hP hO).mono ?_
  rintro r s ⟨rfl, k1, P1⟩
  rw [kgO_some]
  refine ⟨rfl, ?_⟩
  rw [hQ1]
  intro y
  refine mdDrop_ok.mono ?_
  rintro r' s' ⟨rfl, hs'⟩
  have f1 : ∀ o k, o ≠ 110 → o ≠ 12 → o ≠ 62 → o ≠ 63 → (o ≠ 14 ∨ (k ≠ 17 ∧ k ≠ 22)) → s' o k = σ o k := fun o k h1 h2 h3 h4 h5 => by rw [hs', kup_other (by omega), kup_other (by omega), kup_ne h1, k1 o k h2 h3 h4]
  have e17 : s' 14 17 = 0 := by rw [hs', kup_eq, if_pos rfl]
  have e22 : s' 14 22 = 0 := by rw [hs', kup_eq, if_neg (by decide), kup_eq, if_pos rfl]
  obtain ⟨r1, r2, r3, r4, r5, r6, r7⟩ := hR
  refine ⟨⟨n, c, ar, 0, rl, li, fs, sn, lv, od, rt, dp, rg, tr, lo, wt, sp, tk, pa, up, sf, ss, mv, sx, S, hg, hC.agree (fun o k ho => f1 o k (by omega) (by omega) (by omega) (by omega) (by omega)), P1.agree (fun o k ho => by rw [hs', kup_ne (by omega), kup_ne (by omega), kup_ne (by omega)]), plOk_nil, ⟨r1.agree (fun o k ho => f1 o k (by omega) (by omega) (by omega) (by omega) (by omega)), ⟨fun p hp => by rw [f1 _ _ (by decide) (by decide) (by decide) (by decide) (Or.inl (by decide))]; exact r2.1 p hp, fun p hp => by rw [f1 _ _ (by decide) (by decide) (by decide) (by decide) (Or.inl (by decide))]; exact r2.2.1 p hp, r2.2.2⟩, fun v => by rw [f1 _ _ (by decide) (by decide) (by decide) (by decide) (Or.inl (by decide))]; exact r3 v, ⟨by rw [f1 _ _ (by decide) (by decide) (by decide) (by decide) (by decide)]; exact r4.1, fun k hk => by rw [f1 _ _ (by decide) (by decide) (by decide) (by decide) (Or.inl (by decide))]; exact r4.2 k hk⟩, by rw [f1 _ _ (by decide) (by decide) (by decide) (by decide) (by decide)]; exact r5, ⟨e17, fun k hk => absurd hk (by omega)⟩, by rw [f1 _ _ (by decide) (by decide) (by decide) (by decide) (by decide)]; exact r7⟩, hrl, by rw [f1 _ _ (by decide) (by decide) (by decide) (by decide) (by decide)]; exact hA⟩, ?_, Or.inl ⟨_, rfl, ?_, e22⟩⟩
  · rw [hs', kup_ne (by decide), kup_ne (by decide), kup_eq, if_pos rfl]
  · rw [kup_ne (by decide), k1 _ _ (by decide) (by decide) (by decide), r6.1]
/-- behind a step more, on both sides -/
theorem jv_step {s s' : kS} {y A : Int} {sp' tk' : Nat → Int} {sf' ss' : Nat → Nat} (hg : GO n c ar li fs sn lv od tr lo wt S) (hC : CR σ n c ar rl li fs sn lv od rt dp rg tr lo wt pa up mv sx S) (hR : RR σ n c ar st rl li fs sn lv od rg tr lo wt sp tk sf ss mv sx) (hrl : rl ≤ 300) (hA : σ 1 5 ≤ A)
    (k1 : ∀ o k, o ≠ 12 → ¬ (58 ≤ o ∧ o ≤ 63) → s o k = σ o k) (P1 : PlS s (st + 1) sp' tk' sf' ss') (hO : plOk n c (st + 1) li sp' tk' sf' ss') (k2 : ∀ o k, ¬ (81 ≤ o ∧ o ≤ 84) → (o ≠ 14 ∨ (k ≠ 17 ∧ k ≠ 22)) → s' o k = kup s 110 0 y o k) (M1 : PlM s' (st + 1) sp' tk' sf' ss') : JV s' A ∧ s' 110 0 = y := by
  have f1 : ∀ o k, o ≠ 110 → o ≠ 12 → ¬ (58 ≤ o ∧ o ≤ 63) → ¬ (81 ≤ o ∧ o ≤ 84) → (o ≠ 14 ∨ (k ≠ 17 ∧ k ≠ 22)) → s' o k = σ o k := fun o k h1 h2 h3 h4 h5 => by rw [k2 o k h4 h5, kup_ne h1, k1 o k h2 h3]
  obtain ⟨r1, r2, r3, r4, r5, r6, r7⟩ := hR
  refine ⟨⟨n, c, ar, st + 1, rl, li, fs, sn, lv, od, rt, dp, rg, tr, lo, wt, sp', tk', pa, up, sf', ss', mv, sx, S, hg, hC.agree (fun o k ho => f1 o k (by omega) (by omega) (by omega) (by omega) (by omega)), P1.agree (fun o k ho => by rw [k2 o k (by omega) (by omega), kup_ne (by omega)]), hO, ⟨r1.agree (fun o k ho => f1 o k (by omega) (by omega) (by omega) (by omega) (by omega)), ⟨fun p hp => by rw [f1 _ _ (by decide) (by decide) (by decide) (by decide) (Or.inl (by decide))]; exact r2.1 p hp, fun p hp => by rw [f1 _ _ (by decide) (by decide) (by decide) (by decide) (Or.inl (by decide))]; exact r2.2.1 p hp, r2.2.2⟩, fun v => by rw [f1 _ _ (by decide) (by decide) (by decide) (by decide) (Or.inl (by decide))]; exact r3 v, ⟨by rw [f1 _ _ (by decide) (by decide) (by decide) (by decide) (by decide)]; exact r4.1, fun k hk => by rw [f1 _ _ (by decide) (by decide) (by decide) (by decide) (Or.inl (by decide))]; exact r4.2 k hk⟩, by rw [f1 _ _ (by decide) (by decide) (by decide) (by decide) (by decide)]; exact r5, M1, by rw [f1 _ _ (by decide) (by decide) (by decide) (by decide) (by decide)]; exact r7⟩, hrl, by rw [f1 _ _ (by decide) (by decide) (by decide) (by decide) (by decide)]; exact hA⟩, ?_⟩
  rw [k2 _ _ (by decide) (by decide), kup_eq, if_pos rfl]
theorem jPlanPut {a b A : Int} (h : JV σ A) : wpS s_KP_planPut [some (.inr (.inl 0)), some (.inl a), some (.inl b)] σ (fun r _ s => refC F_Md_planPut [.inr (.inl 14), .inl a, .inl b] A (thr2 22 42) r s) := by
  obtain ⟨n, c, ar, st, rl, li, fs, sn, lv, od, rt, dp, rg, tr, lo, wt, sp, tk, pa, up, sf, ss, mv, sx, S, hg, hC, hP, hO, hR, hrl, hA⟩ := h
  have hG := hg.1
  unfold s_KP_planPut
  refine wpS_seq' (fun Q0 hQ0 => ?_)
  rw [wpS_if]
  refine (chk2 hC.n3).mono ?_
  rintro t s ⟨hs, ht⟩
  subst s
  by_cases q : (0 ≤ a ∧ a < (n : Int)) ∧ 0 ≤ b ∧ b < (n : Int)
  · rw [if_neg (fun h => ht.mp h q)]
    simp only [wpS_skip, wpS_break, wpS_cont, wpS_retV, wpS_throw, wpS_seq, wpS_if, wpS_trunc, yS_let, yS_inc, kgK_i, kgK_r, kok_nil, kok_i0, kok_is, kok_r0, kok_rs, kok_n0, kok_ns, xS_put, xS_putOp, xS_ast0, xS_ast1, xS_astOp, wpS_E, wpS_call, wpS_callS, wpS_ret, kThen_N, kThen_B, kThen_C, kThen_R, kThen_T, kNext_N, kNext_C, kNext_B, kNext_R, wpE_K, wpE_KL, xE_I, xE_R, wpE_J, xE_bin, wpE_ladd, wpE_i2l, xE_get, xE_ald0, xE_ald1, wpE_if, xE_max, xE_min, wpE_len, wpA_nil, wpA_snoc, xE_call, xE_callS, xC_C, xC_L, xC_Z, wpC_and, wpC_or, wpC_not, wpC_if, kcmp_0, kcmp_1, kcmp_2, kcmp_3, kcmp_4, kcmp_5, rR_inj, kgO_some, kgO_add, kgO_sub, kgO_mul, kgO_div, kgO_rem, kgO_and, kvI_inl, kvJ_inl, kgI_0, kgI_s, kgR_0, kgR_s, kst_nil, kst_0, kst_s, kNLl_nil, kNLl_i, kNLl_r, kNLl_n, ktag_i, ktag_r, List.length_cons, List.length_nil, List.take_succ_cons, List.take_zero, List.take_nil, List.nil_append, List.cons_append, decide_eq_true_eq, Bool.not_eq_true, Bool.not_eq_true', decide_eq_false_iff_not, ne_eq, Decidable.not_not, true_and, and_true, Nat.reduceAdd, Nat.reduceLeDiff, Nat.reduceEqDiff, Nat.le_refl, not_true_eq_false, not_false_eq_true, reduceIte, eq_self, Int.reduceNeg, Int.reduceEq, Int.reduceLT, Int.reduceLE, Nat.zero_le, Nat.one_ne_zero]
    rw [hQ0]
    refine kThen_N.mpr ?_
    obtain ⟨a, rfl⟩ : ∃ v' : Nat, a = (v' : Int) := ⟨a.toNat, by omega⟩
    obtain ⟨b, rfl⟩ : ∃ v' : Nat, b = (v' : Int) := ⟨b.toNat, by omega⟩
    refine wpS_seq' (fun Q1 hQ1 => ?_)
    simp only [wpS_skip, wpS_break, wpS_cont, wpS_retV, wpS_throw, wpS_seq, wpS_if, wpS_trunc, yS_let, yS_inc, kgK_i, kgK_r, kok_nil, kok_i0, kok_is, kok_r0, kok_rs, kok_n0, kok_ns, xS_put, xS_putOp, xS_ast0, xS_ast1, xS_astOp, wpS_E, wpS_call, wpS_callS, wpS_ret, kThen_N, kThen_B, kThen_C, kThen_R, kThen_T, kNext_N, kNext_C, kNext_B, kNext_R, wpE_K, wpE_KL, xE_I, xE_R, wpE_J, xE_bin, wpE_ladd, wpE_i2l, xE_get, xE_ald0, xE_ald1, wpE_if, xE_max, xE_min, wpE_len, wpA_nil, wpA_snoc, xE_call, xE_callS, xC_C, xC_L, xC_Z, wpC_and, wpC_or, wpC_not, wpC_if, kcmp_0, kcmp_1, kcmp_2, kcmp_3, kcmp_4, kcmp_5, rR_inj, kgO_some, kgO_add, kgO_sub, kgO_mul, kgO_div, kgO_rem, kgO_and, kvI_inl, kvJ_inl, kgI_0, kgI_s, kgR_0, kgR_s, kst_nil, kst_0, kst_s, kNLl_nil, kNLl_i, kNLl_r, kNLl_n, ktag_i, ktag_r, List.length_cons, List.length_nil, List.take_succ_cons, List.take_zero, List.take_nil, List.nil_append, List.cons_append, decide_eq_true_eq, Bool.not_eq_true, Bool.not_eq_true', decide_eq_false_iff_not, ne_eq, Decidable.not_not, true_and, and_true, Nat.reduceAdd, Nat.reduceLeDiff, Nat.reduceEqDiff, Nat.le_refl, not_true_eq_false, not_false_eq_true, reduceIte, eq_self, Int.reduceNeg, Int.reduceEq, Int.reduceLT, Int.reduceLE, Nat.zero_le, Nat.one_ne_zero, ev_kp]
    refine ⟨rfl, ?_⟩
    refine (isFull_ok hP.1).mono ?_
    rintro r s ⟨hs, rfl⟩
    subst s
    rw [kgO_some]
    by_cases q2 : 60 ≤ st
    · rw [if_pos q2]
      simp only [wpS_skip, wpS_break, wpS_cont, wpS_retV, wpS_throw, wpS_seq, wpS_if, wpS_trunc, yS_let, yS_inc, kgK_i, kgK_r, kok_nil, kok_i0, kok_is, kok_r0, kok_rs, kok_n0, kok_ns, xS_put, xS_putOp, xS_ast0, xS_ast1, xS_astOp, wpS_E, wpS_call, wpS_callS, wpS_ret, kThen_N, kThen_B, kThen_C, kThen_R, kThen_T, kNext_N, kNext_C, kNext_B, kNext_R, wpE_K, wpE_KL, xE_I, xE_R, wpE_J, xE_bin, wpE_ladd, wpE_i2l, xE_get, xE_ald0, xE_ald1, wpE_if, xE_max, xE_min, wpE_len, wpA_nil, wpA_snoc, xE_call, xE_callS, xC_C, xC_L, xC_Z, wpC_and, wpC_or, wpC_not, wpC_if, kcmp_0, kcmp_1, kcmp_2, kcmp_3, kcmp_4, kcmp_5, rR_inj, kgO_some, kgO_add, kgO_sub, kgO_mul, kgO_div, kgO_rem, kgO_and, kvI_inl, kvJ_inl, kgI_0, kgI_s, kgR_0, kgR_s, kst_nil, kst_0, kst_s, kNLl_nil, kNLl_i, kNLl_r, kNLl_n, ktag_i, ktag_r, List.length_cons, List.length_nil, List.take_succ_cons, List.take_zero, List.take_nil, List.nil_append, List.cons_append, decide_eq_true_eq, Bool.not_eq_true, Bool.not_eq_true', decide_eq_false_iff_not, ne_eq, Decidable.not_not, true_and, and_true, Nat.reduceAdd, Nat.reduceLeDiff, Nat.reduceEqDiff, Nat.le_refl, not_true_eq_false, not_false_eq_true, reduceIte, eq_self, Int.reduceNeg, Int.reduceEq, Int.reduceLT, Int.reduceLE, Nat.zero_le, Nat.one_ne_zero, decide_true, decide_false, Bool.false_eq_true, if_true, if_false, true_and, and_true, not_true_eq_false, not_false_eq_true]
      rw [hQ1]
      refine kThen_T.mpr ?_
      refine refC_ask hg hC hP hO hR hrl hA (fun s2 hR2 => ?_)
      refine (mdPlanPut_ok hR2.1.1 hG.1 hR2.2.2.2.2.2.1 hO.1).mono ?_
      rintro r' s' (⟨h, -⟩ | ⟨-, -, rfl, -⟩ | ⟨-, h, -⟩)
      · exact absurd q h
      · exact ⟨2, sK.refl _, Or.inr ⟨42, rfl, rfl, by decide⟩⟩
      · omega
    · rw [if_neg q2]
      simp only [wpS_skip, wpS_break, wpS_cont, wpS_retV, wpS_throw, wpS_seq, wpS_if, wpS_trunc, yS_let, yS_inc, kgK_i, kgK_r, kok_nil, kok_i0, kok_is, kok_r0, kok_rs, kok_n0, kok_ns, xS_put, xS_putOp, xS_ast0, xS_ast1, xS_astOp, wpS_E, wpS_call, wpS_callS, wpS_ret, kThen_N, kThen_B, kThen_C, kThen_R, kThen_T, kNext_N, kNext_C, kNext_B, kNext_R, wpE_K, wpE_KL, xE_I, xE_R, wpE_J, xE_bin, wpE_ladd, wpE_i2l, xE_get, xE_ald0, xE_ald1, wpE_if, xE_max, xE_min, wpE_len, wpA_nil, wpA_snoc, xE_call, xE_callS, xC_C, xC_L, xC_Z, wpC_and, wpC_or, wpC_not, wpC_if, kcmp_0, kcmp_1, kcmp_2, kcmp_3, kcmp_4, kcmp_5, rR_inj, kgO_some, kgO_add, kgO_sub, kgO_mul, kgO_div, kgO_rem, kgO_and, kvI_inl, kvJ_inl, kgI_0, kgI_s, kgR_0, kgR_s, kst_nil, kst_0, kst_s, kNLl_nil, kNLl_i, kNLl_r, kNLl_n, ktag_i, ktag_r, List.length_cons, List.length_nil, List.take_succ_cons, List.take_zero, List.take_nil, List.nil_append, List.cons_append, decide_eq_true_eq, Bool.not_eq_true, Bool.not_eq_true', decide_eq_false_iff_not, ne_eq, Decidable.not_not, true_and, and_true, Nat.reduceAdd, Nat.reduceLeDiff, Nat.reduceEqDiff, Nat.le_refl, not_true_eq_false, not_false_eq_true, reduceIte, eq_self, Int.reduceNeg, Int.reduceEq, Int.reduceLT, Int.reduceLE, Nat.zero_le, Nat.one_ne_zero, decide_true, decide_false, Bool.false_eq_true, if_true, if_false, true_and, and_true, not_true_eq_false, not_false_eq_true]
      rw [hQ1]
      refine kThen_N.mpr ?_
      refine wpS_gen (fun Q2 hQ2 => ?_)
      simp only [wpS_skip, wpS_break, wpS_cont, wpS_retV, wpS_throw, wpS_seq, wpS_if, wpS_trunc, yS_let, yS_inc, kgK_i, kgK_r, kok_nil, kok_i0, kok_is, kok_r0, kok_rs, kok_n0, kok_ns, xS_put, xS_putOp, xS_ast0, xS_ast1, xS_astOp, wpS_E, wpS_call, wpS_callS, wpS_ret, kThen_N, kThen_B, kThen_C, kThen_R, kThen_T, kNext_N, kNext_C, kNext_B, kNext_R, wpE_K, wpE_KL, xE_I, xE_R, wpE_J, xE_bin, wpE_ladd, wpE_i2l, xE_get, xE_ald0, xE_ald1, wpE_if, xE_max, xE_min, wpE_len, wpA_nil, wpA_snoc, xE_call, xE_callS, xC_C, xC_L, xC_Z, wpC_and, wpC_or, wpC_not, wpC_if, kcmp_0, kcmp_1, kcmp_2, kcmp_3, kcmp_4, kcmp_5, rR_inj, kgO_some, kgO_add, kgO_sub, kgO_mul, kgO_div, kgO_rem, kgO_and, kvI_inl, kvJ_inl, kgI_0, kgI_s, kgR_0, kgR_s, kst_nil, kst_0, kst_s, kNLl_nil, kNLl_i, kNLl_r, kNLl_n, ktag_i, ktag_r, List.length_cons, List.length_nil, List.take_succ_cons, List.take_zero, List.take_nil, List.nil_append, List.cons_append, decide_eq_true_eq, Bool.not_eq_true, Bool.not_eq_true', decide_eq_false_iff_not, ne_eq, Decidable.not_not, true_and, and_true, Nat.reduceAdd, Nat.reduceLeDiff, Nat.reduceEqDiff, Nat.le_refl, not_true_eq_false, not_false_eq_true, reduceIte, eq_self, Int.reduceNeg, Int.reduceEq, Int.reduceLT, Int.reduceLE, Nat.zero_le, Nat.one_ne_zero, ev_kp]
      refine ⟨rfl, ?_⟩
      refine (addPut_ok (a := a) (b := b) hP (by omega)).mono ?_
      rintro r s ⟨rfl, k1, P1⟩
      rw [kgO_some]
      refine ⟨rfl, ?_⟩
      rw [hQ2]
      intro y
      have hR2 : RR (kup s 110 0 y) n c ar st rl li fs sn lv od rg tr lo wt sp tk sf ss mv sx := hR.agree (fun o k ho => by rw [kup_ne (by omega), k1 o k (by omega) (by omega)])
      refine (mdPlanPut_ok hR2.1.1 hG.1 hR2.2.2.2.2.2.1 hO.1).mono ?_
      rintro r' s' (⟨h, -⟩ | ⟨-, h, -⟩ | ⟨-, -, k2, e22, rfl, M1⟩)
      · exact absurd q h
      · omega
      · rw [Int.toNat_natCast, Int.toNat_natCast] at M1
        have := jv_step hg hC hR hrl hA k1 P1 ?_ k2 M1
        · exact ⟨this.1, this.2, Or.inl ⟨_, rfl, rfl, e22⟩⟩
        · obtain ⟨o1, o2, o3⟩ := hO
          refine ⟨by omega, fun k hk => ?_, fun j k hjk hk h1 h2 => ?_⟩
          · by_cases e : k = st
            · simp only [e, if_true]; exact Or.inl ⟨trivial, by omega, by omega⟩
            · simp only [e, if_false]
              rcases o2 k (by omega) with h | ⟨h1, h2⟩
              · exact Or.inl h
              · refine Or.inr ⟨h1, h2.imp id (fun ⟨j, j1, j2, j3⟩ => ⟨j, j1, j2, ?_⟩)⟩
                rw [if_neg (by omega)]; exact j3
          · dsimp only at h1 h2
            by_cases e : k = st
            · rw [if_pos e] at h2; omega
            · rw [if_neg e] at h2
              rw [if_neg (show j ≠ st by omega)] at h1
              exact o3 j k hjk (by omega) h1 h2
  · rw [if_pos (ht.mpr q)]
    simp only [wpS_skip, wpS_break, wpS_cont, wpS_retV, wpS_throw, wpS_seq, wpS_if, wpS_trunc, yS_let, yS_inc, kgK_i, kgK_r, kok_nil, kok_i0, kok_is, kok_r0, kok_rs, kok_n0, kok_ns, xS_put, xS_putOp, xS_ast0, xS_ast1, xS_astOp, wpS_E, wpS_call, wpS_callS, wpS_ret, kThen_N, kThen_B, kThen_C, kThen_R, kThen_T, kNext_N, kNext_C, kNext_B, kNext_R, wpE_K, wpE_KL, xE_I, xE_R, wpE_J, xE_bin, wpE_ladd, wpE_i2l, xE_get, xE_ald0, xE_ald1, wpE_if, xE_max, xE_min, wpE_len, wpA_nil, wpA_snoc, xE_call, xE_callS, xC_C, xC_L, xC_Z, wpC_and, wpC_or, wpC_not, wpC_if, kcmp_0, kcmp_1, kcmp_2, kcmp_3, kcmp_4, kcmp_5, rR_inj, kgO_some, kgO_add, kgO_sub, kgO_mul, kgO_div, kgO_rem, kgO_and, kvI_inl, kvJ_inl, kgI_0, kgI_s, kgR_0, kgR_s, kst_nil, kst_0, kst_s, kNLl_nil, kNLl_i, kNLl_r, kNLl_n, ktag_i, ktag_r, List.length_cons, List.length_nil, List.take_succ_cons, List.take_zero, List.take_nil, List.nil_append, List.cons_append, decide_eq_true_eq, Bool.not_eq_true, Bool.not_eq_true', decide_eq_false_iff_not, ne_eq, Decidable.not_not, true_and, and_true, Nat.reduceAdd, Nat.reduceLeDiff, Nat.reduceEqDiff, Nat.le_refl, not_true_eq_false, not_false_eq_true, reduceIte, eq_self, Int.reduceNeg, Int.reduceEq, Int.reduceLT, Int.reduceLE, Nat.zero_le, Nat.one_ne_zero]
    rw [hQ0]
    refine kThen_T.mpr ?_
    refine refC_ask hg hC hP hO hR hrl hA (fun s2 hR2 => ?_)
    refine (mdPlanPut_ok hR2.1.1 hG.1 hR2.2.2.2.2.2.1 hO.1).mono ?_
    rintro r' s' (⟨-, rfl, -⟩ | ⟨h, -⟩ | ⟨h, -⟩)
    · exact ⟨1, sK.refl _, Or.inr ⟨22, rfl, rfl, by decide⟩⟩
    · exact absurd h q
    · exact absurd h q
def thr3 (p1 p2 : Nat) (pc : Nat) : Int := if pc = p1 then 1 else if pc = p2 then 2 else 3
theorem jPlanTake {x A : Int} (hx32 : -2147483648 ≤ x ∧ x < 2147483648) (h : JV σ A) : wpS s_KP_planTake [some (.inr (.inl 0)), some (.inl x)] σ (fun r _ s => refC F_Md_planTake [.inr (.inl 14), .inl x] A (thr3 24 45) r s) := by
  obtain ⟨n, c, ar, st, rl, li, fs, sn, lv, od, rt, dp, rg, tr, lo, wt, sp, tk, pa, up, sf, ss, mv, sx, S, hg, hC, hP, hO, hR, hrl, hA⟩ := h
  have hG := hg.1
  have cW := hC.2.2.1
  have ha5 := hG.2.2.1
  have o1 := hO.1
  obtain ⟨good, hgood⟩ : ∃ good : Prop, good = ((0 ≤ x ∧ x < (ar : Int) ∧ th c li x.toNat) ∨ (x < 0 ∧ -1 - x < (st : Int) ∧ sp (-1 - x).toNat = 1)) := ⟨_, rfl⟩
  have key : ∀ s2 : kS, RR s2 n c ar st rl li fs sn lv od rg tr lo wt sp tk sf ss mv sx → wpF F_Md_planTake [.inr (.inl 14), .inl x] s2 (fun r s => (¬ good ∧ s = kup s2 14 22 1 ∧ r = some (.inl 0)) ∨ (good ∧ tkn sp tk x st ∧ s = kup s2 14 22 2 ∧ r = some (.inl 0)) ∨ (good ∧ ¬ tkn sp tk x st ∧ st = 60 ∧ s = kup s2 14 22 3 ∧ r = some (.inl 0)) ∨
      (good ∧ ¬ tkn sp tk x st ∧ st < 60 ∧ (∀ o k, ¬ (81 ≤ o ∧ o ≤ 84) → (o ≠ 14 ∨ (k ≠ 17 ∧ k ≠ 22)) → s o k = s2 o k) ∧ s 14 22 = 0 ∧ r = some (.inl (st : Int)) ∧ PlM s (st + 1) (fun k => if k = st then 0 else sp k) (fun k => if k = st then x else tk k) sf ss)) := by
    intro s2 hR2
    rw [hgood]
    exact mdPlanTake_ok hx32.1 hG hR2.1 hR2.2.2.2.2.2.1 hO
  have grange : good → ((0 ≤ x ∧ x < 5000) ∨ (x < 0 ∧ -61 < x)) := fun h => by rw [hgood] at h; omega
  unfold s_KP_planTake
  refine wpS_seq' (fun Q0 hQ0 => ?_)
  have bad : ¬ good → Q0 (rT 24) [some (.inr (.inl 0)), some (.inl x)] σ := by
    intro q
    rw [hQ0]
    refine kThen_T.mpr ?_
    refine refC_ask hg hC hP hO hR hrl hA (fun s2 hR2 => ?_)
    refine (key s2 hR2).mono ?_
    rintro r' s' (⟨-, rfl, -⟩ | ⟨h, -⟩ | ⟨h, -⟩ | ⟨h, -⟩)
    · exact ⟨1, sK.refl _, Or.inr ⟨24, rfl, rfl, by decide⟩⟩
    · exact absurd h q
    · exact absurd h q
    · exact absurd h q
  have ok : good → Q0 rN [some (.inr (.inl 0)), some (.inl x)] σ := by
    intro q
    rw [hQ0]
    refine kThen_N.mpr ?_
    refine wpS_seq' (fun Q1 hQ1 => ?_)
    simp only [wpS_skip, wpS_break, wpS_cont, wpS_retV, wpS_throw, wpS_seq, wpS_if, wpS_trunc, yS_let, yS_inc, kgK_i, kgK_r, kok_nil, kok_i0, kok_is, kok_r0, kok_rs, kok_n0, kok_ns, xS_put, xS_putOp, xS_ast0, xS_ast1, xS_astOp, wpS_E, wpS_call, wpS_callS, wpS_ret, kThen_N, kThen_B, kThen_C, kThen_R, kThen_T, kNext_N, kNext_C, kNext_B, kNext_R, wpE_K, wpE_KL, xE_I, xE_R, wpE_J, xE_bin, wpE_ladd, wpE_i2l, xE_get, xE_ald0, xE_ald1, wpE_if, xE_max, xE_min, wpE_len, wpA_nil, wpA_snoc, xE_call, xE_callS, xC_C, xC_L, xC_Z, wpC_and, wpC_or, wpC_not, wpC_if, kcmp_0, kcmp_1, kcmp_2, kcmp_3, kcmp_4, kcmp_5, rR_inj, kgO_some, kgO_add, kgO_sub, kgO_mul, kgO_div, kgO_rem, kgO_and, kvI_inl, kvJ_inl, kgI_0, kgI_s, kgR_0, kgR_s, kst_nil, kst_0, kst_s, kNLl_nil, kNLl_i, kNLl_r, kNLl_n, ktag_i, ktag_r, List.length_cons, List.length_nil, List.take_succ_cons, List.take_zero, List.take_nil, List.nil_append, List.cons_append, decide_eq_true_eq, Bool.not_eq_true, Bool.not_eq_true', decide_eq_false_iff_not, ne_eq, Decidable.not_not, true_and, and_true, Nat.reduceAdd, Nat.reduceLeDiff, Nat.reduceEqDiff, Nat.le_refl, not_true_eq_false, not_false_eq_true, reduceIte, eq_self, Int.reduceNeg, Int.reduceEq, Int.reduceLT, Int.reduceLE, Nat.zero_le, Nat.one_ne_zero, ev_kp]
    refine ⟨rfl, ?_⟩
    refine (takes_ok hP (grange q)).mono ?_
    rintro r s ⟨hs, hr⟩
    subst s
    rcases hr with ⟨ht, rfl⟩ | ⟨ht, rfl⟩
    · rw [kgO_some]
      simp only [wpS_skip, wpS_break, wpS_cont, wpS_retV, wpS_throw, wpS_seq, wpS_if, wpS_trunc, yS_let, yS_inc, kgK_i, kgK_r, kok_nil, kok_i0, kok_is, kok_r0, kok_rs, kok_n0, kok_ns, xS_put, xS_putOp, xS_ast0, xS_ast1, xS_astOp, wpS_E, wpS_call, wpS_callS, wpS_ret, kThen_N, kThen_B, kThen_C, kThen_R, kThen_T, kNext_N, kNext_C, kNext_B, kNext_R, wpE_K, wpE_KL, xE_I, xE_R, wpE_J, xE_bin, wpE_ladd, wpE_i2l, xE_get, xE_ald0, xE_ald1, wpE_if, xE_max, xE_min, wpE_len, wpA_nil, wpA_snoc, xE_call, xE_callS, xC_C, xC_L, xC_Z, wpC_and, wpC_or, wpC_not, wpC_if, kcmp_0, kcmp_1, kcmp_2, kcmp_3, kcmp_4, kcmp_5, rR_inj, kgO_some, kgO_add, kgO_sub, kgO_mul, kgO_div, kgO_rem, kgO_and, kvI_inl, kvJ_inl, kgI_0, kgI_s, kgR_0, kgR_s, kst_nil, kst_0, kst_s, kNLl_nil, kNLl_i, kNLl_r, kNLl_n, ktag_i, ktag_r, List.length_cons, List.length_nil, List.take_succ_cons, List.take_zero, List.take_nil, List.nil_append, List.cons_append, decide_eq_true_eq, Bool.not_eq_true, Bool.not_eq_true', decide_eq_false_iff_not, ne_eq, Decidable.not_not, true_and, and_true, Nat.reduceAdd, Nat.reduceLeDiff, Nat.reduceEqDiff, Nat.le_refl, not_true_eq_false, not_false_eq_true, reduceIte, eq_self, Int.reduceNeg, Int.reduceEq, Int.reduceLT, Int.reduceLE, Nat.zero_le, Nat.one_ne_zero, decide_true, decide_false, Bool.false_eq_true, if_true, if_false, true_and, and_true, not_true_eq_false, not_false_eq_true]
      rw [hQ1]
      refine kThen_T.mpr ?_
      refine refC_ask hg hC hP hO hR hrl hA (fun s2 hR2 => ?_)
      refine (key s2 hR2).mono ?_
      rintro r' s' (⟨h, -⟩ | ⟨-, -, rfl, -⟩ | ⟨-, h, -⟩ | ⟨-, h, -⟩)
      · exact absurd q h
      · exact ⟨2, sK.refl _, Or.inr ⟨45, rfl, rfl, by decide⟩⟩
      · exact absurd ht h
      · exact absurd ht h
    · rw [kgO_some]
      simp only [wpS_skip, wpS_break, wpS_cont, wpS_retV, wpS_throw, wpS_seq, wpS_if, wpS_trunc, yS_let, yS_inc, kgK_i, kgK_r, kok_nil, kok_i0, kok_is, kok_r0, kok_rs, kok_n0, kok_ns, xS_put, xS_putOp, xS_ast0, xS_ast1, xS_astOp, wpS_E, wpS_call, wpS_callS, wpS_ret, kThen_N, kThen_B, kThen_C, kThen_R, kThen_T, kNext_N, kNext_C, kNext_B, kNext_R, wpE_K, wpE_KL, xE_I, xE_R, wpE_J, xE_bin, wpE_ladd, wpE_i2l, xE_get, xE_ald0, xE_ald1, wpE_if, xE_max, xE_min, wpE_len, wpA_nil, wpA_snoc, xE_call, xE_callS, xC_C, xC_L, xC_Z, wpC_and, wpC_or, wpC_not, wpC_if, kcmp_0, kcmp_1, kcmp_2, kcmp_3, kcmp_4, kcmp_5, rR_inj, kgO_some, kgO_add, kgO_sub, kgO_mul, kgO_div, kgO_rem, kgO_and, kvI_inl, kvJ_inl, kgI_0, kgI_s, kgR_0, kgR_s, kst_nil, kst_0, kst_s, kNLl_nil, kNLl_i, kNLl_r, kNLl_n, ktag_i, ktag_r, List.length_cons, List.length_nil, List.take_succ_cons, List.take_zero, List.take_nil, List.nil_append, List.cons_append, decide_eq_true_eq, Bool.not_eq_true, Bool.not_eq_true', decide_eq_false_iff_not, ne_eq, Decidable.not_not, true_and, and_true, Nat.reduceAdd, Nat.reduceLeDiff, Nat.reduceEqDiff, Nat.le_refl, not_true_eq_false, not_false_eq_true, reduceIte, eq_self, Int.reduceNeg, Int.reduceEq, Int.reduceLT, Int.reduceLE, Nat.zero_le, Nat.one_ne_zero, decide_true, decide_false, Bool.false_eq_true, if_true, if_false, true_and, and_true, not_true_eq_false, not_false_eq_true]
      rw [hQ1]
      refine kThen_N.mpr ?_
      refine wpS_seq' (fun Q2 hQ2 => ?_)
      simp only [wpS_skip, wpS_break, wpS_cont, wpS_retV, wpS_throw, wpS_seq, wpS_if, wpS_trunc, yS_let, yS_inc, kgK_i, kgK_r, kok_nil, kok_i0, kok_is, kok_r0, kok_rs, kok_n0, kok_ns, xS_put, xS_putOp, xS_ast0, xS_ast1, xS_astOp, wpS_E, wpS_call, wpS_callS, wpS_ret, kThen_N, kThen_B, kThen_C, kThen_R, kThen_T, kNext_N, kNext_C, kNext_B, kNext_R, wpE_K, wpE_KL, xE_I, xE_R, wpE_J, xE_bin, wpE_ladd, wpE_i2l, xE_get, xE_ald0, xE_ald1, wpE_if, xE_max, xE_min, wpE_len, wpA_nil, wpA_snoc, xE_call, xE_callS, xC_C, xC_L, xC_Z, wpC_and, wpC_or, wpC_not, wpC_if, kcmp_0, kcmp_1, kcmp_2, kcmp_3, kcmp_4, kcmp_5, rR_inj, kgO_some, kgO_add, kgO_sub, kgO_mul, kgO_div, kgO_rem, kgO_and, kvI_inl, kvJ_inl, kgI_0, kgI_s, kgR_0, kgR_s, kst_nil, kst_0, kst_s, kNLl_nil, kNLl_i, kNLl_r, kNLl_n, ktag_i, ktag_r, List.length_cons, List.length_nil, List.take_succ_cons, List.take_zero, List.take_nil, List.nil_append, List.cons_append, decide_eq_true_eq, Bool.not_eq_true, Bool.not_eq_true', decide_eq_false_iff_not, ne_eq, Decidable.not_not, true_and, and_true, Nat.reduceAdd, Nat.reduceLeDiff, Nat.reduceEqDiff, Nat.le_refl, not_true_eq_false, not_false_eq_true, reduceIte, eq_self, Int.reduceNeg, Int.reduceEq, Int.reduceLT, Int.reduceLE, Nat.zero_le, Nat.one_ne_zero, ev_kp]
      refine ⟨rfl, ?_⟩
      refine (isFull_ok hP.1).mono ?_
      rintro r s ⟨hs, rfl⟩
      subst s
      rw [kgO_some]
      by_cases q2 : 60 ≤ st
      · rw [if_pos q2]
        simp only [wpS_skip, wpS_break, wpS_cont, wpS_retV, wpS_throw, wpS_seq, wpS_if, wpS_trunc, yS_let, yS_inc, kgK_i, kgK_r, kok_nil, kok_i0, kok_is, kok_r0, kok_rs, kok_n0, kok_ns, xS_put, xS_putOp, xS_ast0, xS_ast1, xS_astOp, wpS_E, wpS_call, wpS_callS, wpS_ret, kThen_N, kThen_B, kThen_C, kThen_R, kThen_T, kNext_N, kNext_C, kNext_B, kNext_R, wpE_K, wpE_KL, xE_I, xE_R, wpE_J, xE_bin, wpE_ladd, wpE_i2l, xE_get, xE_ald0, xE_ald1, wpE_if, xE_max, xE_min, wpE_len, wpA_nil, wpA_snoc, xE_call, xE_callS, xC_C, xC_L, xC_Z, wpC_and, wpC_or, wpC_not, wpC_if, kcmp_0, kcmp_1, kcmp_2, kcmp_3, kcmp_4, kcmp_5, rR_inj, kgO_some, kgO_add, kgO_sub, kgO_mul, kgO_div, kgO_rem, kgO_and, kvI_inl, kvJ_inl, kgI_0, kgI_s, kgR_0, kgR_s, kst_nil, kst_0, kst_s, kNLl_nil, kNLl_i, kNLl_r, kNLl_n, ktag_i, ktag_r, List.length_cons, List.length_nil, List.take_succ_cons, List.take_zero, List.take_nil, List.nil_append, List.cons_append, decide_eq_true_eq, Bool.not_eq_true, Bool.not_eq_true', decide_eq_false_iff_not, ne_eq, Decidable.not_not, true_and, and_true, Nat.reduceAdd, Nat.reduceLeDiff, Nat.reduceEqDiff, Nat.le_refl, not_true_eq_false, not_false_eq_true, reduceIte, eq_self, Int.reduceNeg, Int.reduceEq, Int.reduceLT, Int.reduceLE, Nat.zero_le, Nat.one_ne_zero, decide_true, decide_false, Bool.false_eq_true, if_true, if_false, true_and, and_true, not_true_eq_false, not_false_eq_true]
        rw [hQ2]
        refine kThen_T.mpr ?_
        refine refC_ask hg hC hP hO hR hrl hA (fun s2 hR2 => ?_)
        refine (key s2 hR2).mono ?_
        rintro r' s' (⟨h, -⟩ | ⟨-, h, -⟩ | ⟨-, -, -, rfl, -⟩ | ⟨-, -, h, -⟩)
        · exact absurd q h
        · exact absurd h ht
        · exact ⟨3, sK.refl _, Or.inr ⟨66, rfl, rfl, by decide⟩⟩
        · omega
      · rw [if_neg q2]
        simp only [wpS_skip, wpS_break, wpS_cont, wpS_retV, wpS_throw, wpS_seq, wpS_if, wpS_trunc, yS_let, yS_inc, kgK_i, kgK_r, kok_nil, kok_i0, kok_is, kok_r0, kok_rs, kok_n0, kok_ns, xS_put, xS_putOp, xS_ast0, xS_ast1, xS_astOp, wpS_E, wpS_call, wpS_callS, wpS_ret, kThen_N, kThen_B, kThen_C, kThen_R, kThen_T, kNext_N, kNext_C, kNext_B, kNext_R, wpE_K, wpE_KL, xE_I, xE_R, wpE_J, xE_bin, wpE_ladd, wpE_i2l, xE_get, xE_ald0, xE_ald1, wpE_if, xE_max, xE_min, wpE_len, wpA_nil, wpA_snoc, xE_call, xE_callS, xC_C, xC_L, xC_Z, wpC_and, wpC_or, wpC_not, wpC_if, kcmp_0, kcmp_1, kcmp_2, kcmp_3, kcmp_4, kcmp_5, rR_inj, kgO_some, kgO_add, kgO_sub, kgO_mul, kgO_div, kgO_rem, kgO_and, kvI_inl, kvJ_inl, kgI_0, kgI_s, kgR_0, kgR_s, kst_nil, kst_0, kst_s, kNLl_nil, kNLl_i, kNLl_r, kNLl_n, ktag_i, ktag_r, List.length_cons, List.length_nil, List.take_succ_cons, List.take_zero, List.take_nil, List.nil_append, List.cons_append, decide_eq_true_eq, Bool.not_eq_true, Bool.not_eq_true', decide_eq_false_iff_not, ne_eq, Decidable.not_not, true_and, and_true, Nat.reduceAdd, Nat.reduceLeDiff, Nat.reduceEqDiff, Nat.le_refl, not_true_eq_false, not_false_eq_true, reduceIte, eq_self, Int.reduceNeg, Int.reduceEq, Int.reduceLT, Int.reduceLE, Nat.zero_le, Nat.one_ne_zero, decide_true, decide_false, Bool.false_eq_true, if_true, if_false, true_and, and_true, not_true_eq_false, not_false_eq_true]
        rw [hQ2]
        refine kThen_N.mpr ?_
        refine wpS_gen (fun Q3 hQ3 => ?_)
        simp only [wpS_skip, wpS_break, wpS_cont, wpS_retV, wpS_throw, wpS_seq, wpS_if, wpS_trunc, yS_let, yS_inc, kgK_i, kgK_r, kok_nil, kok_i0, kok_is, kok_r0, kok_rs, kok_n0, kok_ns, xS_put, xS_putOp, xS_ast0, xS_ast1, xS_astOp, wpS_E, wpS_call, wpS_callS, wpS_ret, kThen_N, kThen_B, kThen_C, kThen_R, kThen_T, kNext_N, kNext_C, kNext_B, kNext_R, wpE_K, wpE_KL, xE_I, xE_R, wpE_J, xE_bin, wpE_ladd, wpE_i2l, xE_get, xE_ald0, xE_ald1, wpE_if, xE_max, xE_min, wpE_len, wpA_nil, wpA_snoc, xE_call, xE_callS, xC_C, xC_L, xC_Z, wpC_and, wpC_or, wpC_not, wpC_if, kcmp_0, kcmp_1, kcmp_2, kcmp_3, kcmp_4, kcmp_5, rR_inj, kgO_some, kgO_add, kgO_sub, kgO_mul, kgO_div, kgO_rem, kgO_and, kvI_inl, kvJ_inl, kgI_0, kgI_s, kgR_0, kgR_s, kst_nil, kst_0, kst_s, kNLl_nil, kNLl_i, kNLl_r, kNLl_n, ktag_i, ktag_r, List.length_cons, List.length_nil, List.take_succ_cons, List.take_zero, List.take_nil, List.nil_append, List.cons_append, decide_eq_true_eq, Bool.not_eq_true, Bool.not_eq_true', decide_eq_false_iff_not, ne_eq, Decidable.not_not, true_and, and_true, Nat.reduceAdd, Nat.reduceLeDiff, Nat.reduceEqDiff, Nat.le_refl, not_true_eq_false, not_false_eq_true, reduceIte, eq_self, Int.reduceNeg, Int.reduceEq, Int.reduceLT, Int.reduceLE, Nat.zero_le, Nat.one_ne_zero, ev_kp]
        refine ⟨rfl, ?_⟩
        refine (addTake_ok hP (by omega) (grange q) ht).mono ?_
        rintro r s ⟨rfl, k1, P1⟩
        rw [kgO_some]
        refine ⟨rfl, ?_⟩
        rw [hQ3]
        intro y
        have hR2 : RR (kup s 110 0 y) n c ar st rl li fs sn lv od rg tr lo wt sp tk sf ss mv sx := hR.agree (fun o k ho => by rw [kup_ne (by omega), k1 o k (by omega) (by omega)])
        refine (key _ hR2).mono ?_
        rintro r' s' (⟨h, -⟩ | ⟨-, h, -⟩ | ⟨-, -, h, -⟩ | ⟨-, -, -, k2, e22, rfl, M1⟩)
        · exact absurd q h
        · exact absurd h ht
        · omega
        · have := jv_step hg hC hR hrl hA k1 P1 ?_ k2 M1
          · exact ⟨this.1, this.2, Or.inl ⟨_, rfl, rfl, e22⟩⟩
          · obtain ⟨o1, o2, o3⟩ := hO
            rw [hgood] at q
            refine ⟨by omega, fun k hk => ?_, fun j k hjk hk h1 h2 => ?_⟩
            · by_cases e : k = st
              · simp only [e, if_true]
                refine Or.inr ⟨trivial, ?_⟩
                rcases q with q | q
                · exact Or.inl ⟨q.1, q.2.2⟩
                · refine Or.inr ⟨(-1 - x).toNat, by omega, by omega, ?_⟩
                  rw [if_neg (by omega)]; exact q.2.2
              · simp only [e, if_false]
                rcases o2 k (by omega) with h | ⟨h1, h2⟩
                · exact Or.inl h
                · refine Or.inr ⟨h1, h2.imp id (fun ⟨j, j1, j2, j3⟩ => ⟨j, j1, j2, ?_⟩)⟩
                  rw [if_neg (by omega)]; exact j3
            · dsimp only at h1 h2 ⊢
              rw [if_neg (show j ≠ st by omega)] at h1 ⊢
              by_cases e : k = st
              · rw [if_pos e]
                exact fun h => ht ⟨j, by omega, h1, h⟩
              · rw [if_neg e] at h2 ⊢
                exact o3 j k hjk (by omega) h1 h2
  simp only [wpS_skip, wpS_break, wpS_cont, wpS_retV, wpS_throw, wpS_seq, wpS_if, wpS_trunc, yS_let, yS_inc, kgK_i, kgK_r, kok_nil, kok_i0, kok_is, kok_r0, kok_rs, kok_n0, kok_ns, xS_put, xS_putOp, xS_ast0, xS_ast1, xS_astOp, wpS_E, wpS_call, wpS_callS, wpS_ret, kThen_N, kThen_B, kThen_C, kThen_R, kThen_T, kNext_N, kNext_C, kNext_B, kNext_R, wpE_K, wpE_KL, xE_I, xE_R, wpE_J, xE_bin, wpE_ladd, wpE_i2l, xE_get, xE_ald0, xE_ald1, wpE_if, xE_max, xE_min, wpE_len, wpA_nil, wpA_snoc, xE_call, xE_callS, xC_C, xC_L, xC_Z, wpC_and, wpC_or, wpC_not, wpC_if, kcmp_0, kcmp_1, kcmp_2, kcmp_3, kcmp_4, kcmp_5, rR_inj, kgO_some, kgO_add, kgO_sub, kgO_mul, kgO_div, kgO_rem, kgO_and, kvI_inl, kvJ_inl, kgI_0, kgI_s, kgR_0, kgR_s, kst_nil, kst_0, kst_s, kNLl_nil, kNLl_i, kNLl_r, kNLl_n, ktag_i, ktag_r, List.length_cons, List.length_nil, List.take_succ_cons, List.take_zero, List.take_nil, List.nil_append, List.cons_append, decide_eq_true_eq, Bool.not_eq_true, Bool.not_eq_true', decide_eq_false_iff_not, ne_eq, Decidable.not_not, true_and, and_true, Nat.reduceAdd, Nat.reduceLeDiff, Nat.reduceEqDiff, Nat.le_refl, not_true_eq_false, not_false_eq_true, reduceIte, eq_self, Int.reduceNeg, Int.reduceEq, Int.reduceLT, Int.reduceLE, Nat.zero_le, Nat.one_ne_zero, ev_kp]
  refine ⟨rfl, ?_⟩
  refine (webHasArc_ok cW ha5).mono ?_
  rintro r s ⟨hs, hr⟩
  subst s
  rcases hr with ⟨h1, h2, h3, rfl⟩ | ⟨h1, rfl⟩
  · rw [kgO_some]
    simp only [wpS_skip, wpS_break, wpS_cont, wpS_retV, wpS_throw, wpS_seq, wpS_if, wpS_trunc, yS_let, yS_inc, kgK_i, kgK_r, kok_nil, kok_i0, kok_is, kok_r0, kok_rs, kok_n0, kok_ns, xS_put, xS_putOp, xS_ast0, xS_ast1, xS_astOp, wpS_E, wpS_call, wpS_callS, wpS_ret, kThen_N, kThen_B, kThen_C, kThen_R, kThen_T, kNext_N, kNext_C, kNext_B, kNext_R, wpE_K, wpE_KL, xE_I, xE_R, wpE_J, xE_bin, wpE_ladd, wpE_i2l, xE_get, xE_ald0, xE_ald1, wpE_if, xE_max, xE_min, wpE_len, wpA_nil, wpA_snoc, xE_call, xE_callS, xC_C, xC_L, xC_Z, wpC_and, wpC_or, wpC_not, wpC_if, kcmp_0, kcmp_1, kcmp_2, kcmp_3, kcmp_4, kcmp_5, rR_inj, kgO_some, kgO_add, kgO_sub, kgO_mul, kgO_div, kgO_rem, kgO_and, kvI_inl, kvJ_inl, kgI_0, kgI_s, kgR_0, kgR_s, kst_nil, kst_0, kst_s, kNLl_nil, kNLl_i, kNLl_r, kNLl_n, ktag_i, ktag_r, List.length_cons, List.length_nil, List.take_succ_cons, List.take_zero, List.take_nil, List.nil_append, List.cons_append, decide_eq_true_eq, Bool.not_eq_true, Bool.not_eq_true', decide_eq_false_iff_not, ne_eq, Decidable.not_not, true_and, and_true, Nat.reduceAdd, Nat.reduceLeDiff, Nat.reduceEqDiff, Nat.le_refl, not_true_eq_false, not_false_eq_true, reduceIte, eq_self, Int.reduceNeg, Int.reduceEq, Int.reduceLT, Int.reduceLE, Nat.zero_le, Nat.one_ne_zero, decide_true, decide_false, Bool.false_eq_true, if_true, if_false, true_and, and_true, not_true_eq_false, not_false_eq_true]
    exact ok (by rw [hgood]; exact Or.inl ⟨h1, h2, h3⟩)
  · rw [kgO_some]
    simp only [wpS_skip, wpS_break, wpS_cont, wpS_retV, wpS_throw, wpS_seq, wpS_if, wpS_trunc, yS_let, yS_inc, kgK_i, kgK_r, kok_nil, kok_i0, kok_is, kok_r0, kok_rs, kok_n0, kok_ns, xS_put, xS_putOp, xS_ast0, xS_ast1, xS_astOp, wpS_E, wpS_call, wpS_callS, wpS_ret, kThen_N, kThen_B, kThen_C, kThen_R, kThen_T, kNext_N, kNext_C, kNext_B, kNext_R, wpE_K, wpE_KL, xE_I, xE_R, wpE_J, xE_bin, wpE_ladd, wpE_i2l, xE_get, xE_ald0, xE_ald1, wpE_if, xE_max, xE_min, wpE_len, wpA_nil, wpA_snoc, xE_call, xE_callS, xC_C, xC_L, xC_Z, wpC_and, wpC_or, wpC_not, wpC_if, kcmp_0, kcmp_1, kcmp_2, kcmp_3, kcmp_4, kcmp_5, rR_inj, kgO_some, kgO_add, kgO_sub, kgO_mul, kgO_div, kgO_rem, kgO_and, kvI_inl, kvJ_inl, kgI_0, kgI_s, kgR_0, kgR_s, kst_nil, kst_0, kst_s, kNLl_nil, kNLl_i, kNLl_r, kNLl_n, ktag_i, ktag_r, List.length_cons, List.length_nil, List.take_succ_cons, List.take_zero, List.take_nil, List.nil_append, List.cons_append, decide_eq_true_eq, Bool.not_eq_true, Bool.not_eq_true', decide_eq_false_iff_not, ne_eq, Decidable.not_not, true_and, and_true, Nat.reduceAdd, Nat.reduceLeDiff, Nat.reduceEqDiff, Nat.le_refl, not_true_eq_false, not_false_eq_true, reduceIte, eq_self, Int.reduceNeg, Int.reduceEq, Int.reduceLT, Int.reduceLE, Nat.zero_le, Nat.one_ne_zero, decide_true, decide_false, Bool.false_eq_true, if_true, if_false, true_and, and_true, not_true_eq_false, not_false_eq_true]
    refine ⟨by omega, ?_⟩
    refine ⟨rfl, ?_⟩
    refine (puts_ok (z := -1 - x) hP hO).mono ?_
    rintro r s ⟨hs, hr⟩
    subst s
    rcases hr with ⟨⟨z1, z2, z3⟩, rfl⟩ | ⟨hz, rfl⟩
    · rw [kgO_some]
      simp only [wpS_skip, wpS_break, wpS_cont, wpS_retV, wpS_throw, wpS_seq, wpS_if, wpS_trunc, yS_let, yS_inc, kgK_i, kgK_r, kok_nil, kok_i0, kok_is, kok_r0, kok_rs, kok_n0, kok_ns, xS_put, xS_putOp, xS_ast0, xS_ast1, xS_astOp, wpS_E, wpS_call, wpS_callS, wpS_ret, kThen_N, kThen_B, kThen_C, kThen_R, kThen_T, kNext_N, kNext_C, kNext_B, kNext_R, wpE_K, wpE_KL, xE_I, xE_R, wpE_J, xE_bin, wpE_ladd, wpE_i2l, xE_get, xE_ald0, xE_ald1, wpE_if, xE_max, xE_min, wpE_len, wpA_nil, wpA_snoc, xE_call, xE_callS, xC_C, xC_L, xC_Z, wpC_and, wpC_or, wpC_not, wpC_if, kcmp_0, kcmp_1, kcmp_2, kcmp_3, kcmp_4, kcmp_5, rR_inj, kgO_some, kgO_add, kgO_sub, kgO_mul, kgO_div, kgO_rem, kgO_and, kvI_inl, kvJ_inl, kgI_0, kgI_s, kgR_0, kgR_s, kst_nil, kst_0, kst_s, kNLl_nil, kNLl_i, kNLl_r, kNLl_n, ktag_i, ktag_r, List.length_cons, List.length_nil, List.take_succ_cons, List.take_zero, List.take_nil, List.nil_append, List.cons_append, decide_eq_true_eq, Bool.not_eq_true, Bool.not_eq_true', decide_eq_false_iff_not, ne_eq, Decidable.not_not, true_and, and_true, Nat.reduceAdd, Nat.reduceLeDiff, Nat.reduceEqDiff, Nat.le_refl, not_true_eq_false, not_false_eq_true, reduceIte, eq_self, Int.reduceNeg, Int.reduceEq, Int.reduceLT, Int.reduceLE, Nat.zero_le, Nat.one_ne_zero, decide_true, decide_false, Bool.false_eq_true, if_true, if_false, true_and, and_true, not_true_eq_false, not_false_eq_true]
      exact ok (by rw [hgood]; exact Or.inr ⟨by omega, z2, z3⟩)
    · rw [kgO_some]
      simp only [wpS_skip, wpS_break, wpS_cont, wpS_retV, wpS_throw, wpS_seq, wpS_if, wpS_trunc, yS_let, yS_inc, kgK_i, kgK_r, kok_nil, kok_i0, kok_is, kok_r0, kok_rs, kok_n0, kok_ns, xS_put, xS_putOp, xS_ast0, xS_ast1, xS_astOp, wpS_E, wpS_call, wpS_callS, wpS_ret, kThen_N, kThen_B, kThen_C, kThen_R, kThen_T, kNext_N, kNext_C, kNext_B, kNext_R, wpE_K, wpE_KL, xE_I, xE_R, wpE_J, xE_bin, wpE_ladd, wpE_i2l, xE_get, xE_ald0, xE_ald1, wpE_if, xE_max, xE_min, wpE_len, wpA_nil, wpA_snoc, xE_call, xE_callS, xC_C, xC_L, xC_Z, wpC_and, wpC_or, wpC_not, wpC_if, kcmp_0, kcmp_1, kcmp_2, kcmp_3, kcmp_4, kcmp_5, rR_inj, kgO_some, kgO_add, kgO_sub, kgO_mul, kgO_div, kgO_rem, kgO_and, kvI_inl, kvJ_inl, kgI_0, kgI_s, kgR_0, kgR_s, kst_nil, kst_0, kst_s, kNLl_nil, kNLl_i, kNLl_r, kNLl_n, ktag_i, ktag_r, List.length_cons, List.length_nil, List.take_succ_cons, List.take_zero, List.take_nil, List.nil_append, List.cons_append, decide_eq_true_eq, Bool.not_eq_true, Bool.not_eq_true', decide_eq_false_iff_not, ne_eq, Decidable.not_not, true_and, and_true, Nat.reduceAdd, Nat.reduceLeDiff, Nat.reduceEqDiff, Nat.le_refl, not_true_eq_false, not_false_eq_true, reduceIte, eq_self, Int.reduceNeg, Int.reduceEq, Int.reduceLT, Int.reduceLE, Nat.zero_le, Nat.one_ne_zero, decide_true, decide_false, Bool.false_eq_true, if_true, if_false, true_and, and_true, not_true_eq_false, not_false_eq_true]
      refine bad (fun h => ?_)
      rw [hgood] at h
      rcases h with h | h
      · exact h1 h
      · exact hz ⟨by omega, h.2.1, h.2.2⟩
end AW
