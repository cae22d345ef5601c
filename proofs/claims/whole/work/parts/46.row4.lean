/-! THE CLASS'S ROW: reaches, arcs come and go -/
theorem reaches_ok {σ : kS} {n c ar a b : Nat} {li fs sn od : Nat → Nat} {lo : Nat → Int} (hG : gOk n c ar li fs sn) (hW : Wb σ n c ar li fs sn) (hlo : ∀ x, σ 33 x = lo x) (hR : Rw σ n od) (ha : a < n) (hb : b < n)
    (hOr : rsp (fun y => th c li y ∧ lo y = 0) fs sn (ivO n od)) :
    wpF F_Row_reaches [.inr (.inl 7), .inl (b : Int), .inl (a : Int)] σ (fun r s => (∀ o k, o ≠ 37 → o ≠ 39 → s o k = σ o k) ∧
      ((rch (dE (fun y => th c li y ∧ lo y = 0) fs sn) b a ∧ r = some (.inl 1) ∧ (∀ v d, ds (fun u v => dE (fun y => th c li y ∧ lo y = 0) fs sn v u) a v d → s 37 v = (d : Int)) ∧ (∀ v, v < 300 → ¬ rch (fun u v => dE (fun y => th c li y ∧ lo y = 0) fs sn v u) a v → s 37 v = -1)) ∨
       (¬ rch (dE (fun y => th c li y ∧ lo y = 0) fs sn) b a ∧ r = some (.inl 0)))) := by
  have hn3 := hG.1
  obtain ⟨r1, r2, r3⟩ := id hR
  have ea := r2 a ha
  have eb := r2 b hb
  have mono : rch (dE (fun y => th c li y ∧ lo y = 0) fs sn) b a → ivO n od b ≤ ivO n od a := by
    intro hr
    refine rch.closed (S := fun v => ivO n od b ≤ ivO n od v) ?_ (Nat.le_refl _) hr
    rintro p q hp ⟨x, hx, rfl, rfl⟩
    have := hOr x hx
    omega
  unfold F_Row_reaches
  rw [wpF_kF]
  refine ⟨rfl, rfl, ?_⟩
  unfold s_Row_reaches
  simp only [List.map_cons, List.map_nil]
  by_cases h : ivO n od a < ivO n od b
  · have c1 : (ivO n od a : Int) < (ivO n od b : Int) := by omega
    refine wpS_seq' (fun Q101 hQ101 => ?_)
    simp only [wpS_skip, wpS_break, wpS_cont, wpS_retV, wpS_throw, wpS_seq, wpS_if, wpS_trunc, yS_let, yS_inc, kgK_i, kgK_r, kok_nil, kok_i0, kok_is, kok_r0, kok_rs, kok_n0, kok_ns, xS_put, xS_putOp, xS_ast0, xS_ast1, xS_astOp, wpS_E, wpS_call, wpS_callS, wpS_ret, kThen_N, kThen_B, kThen_C, kThen_R, kThen_T, kNext_N, kNext_C, kNext_B, kNext_R, wpE_K, wpE_KL, xE_I, xE_R, wpE_J, xE_bin, wpE_ladd, wpE_i2l, xE_get, xE_ald0, xE_ald1, wpE_if, xE_max, xE_min, wpE_len, wpA_nil, wpA_snoc, xE_call, xE_callS, xC_C, xC_L, xC_Z, wpC_and, wpC_or, wpC_not, wpC_if, kcmp_0, kcmp_1, kcmp_2, kcmp_3, kcmp_4, kcmp_5, rR_inj, kgO_some, kgO_add, kgO_sub, kgO_mul, kgO_div, kgO_rem, kgO_and, kvI_inl, kvJ_inl, kgI_0, kgI_s, kgR_0, kgR_s, kst_nil, kst_0, kst_s, kNLl_nil, kNLl_i, kNLl_r, kNLl_n, ktag_i, ktag_r, List.length_cons, List.length_nil, List.take_succ_cons, List.take_zero, List.take_nil, List.nil_append, List.cons_append, decide_eq_true_eq, Bool.not_eq_true, Bool.not_eq_true', decide_eq_false_iff_not, ne_eq, Decidable.not_not, true_and, and_true, Nat.reduceAdd, Nat.reduceLeDiff, Nat.reduceEqDiff, Nat.le_refl, not_true_eq_false, not_false_eq_true, reduceIte, eq_self, Int.reduceNeg, Int.reduceEq, Int.reduceLT, Int.reduceLE, Nat.zero_le, Nat.one_ne_zero, ev_row, ev_row_arr, Int.toNat_natCast, ea, eb, c1, decide_true, decide_false, Bool.false_eq_true, if_true, if_false, true_and, and_true, not_true_eq_false, not_false_eq_true]
    repeat refine And.intro (by omega) ?_
    rw [hQ101]
    exact kThen_R.mpr ⟨_, rfl, rfl, fun _ _ _ _ => rfl, Or.inr ⟨fun q => by have := mono q; omega, rfl⟩⟩
  · have c1 : ¬ (ivO n od a : Int) < (ivO n od b : Int) := by omega
    refine wpS_seq' (fun Q102 hQ102 => ?_)
    simp only [wpS_skip, wpS_break, wpS_cont, wpS_retV, wpS_throw, wpS_seq, wpS_if, wpS_trunc, yS_let, yS_inc, kgK_i, kgK_r, kok_nil, kok_i0, kok_is, kok_r0, kok_rs, kok_n0, kok_ns, xS_put, xS_putOp, xS_ast0, xS_ast1, xS_astOp, wpS_E, wpS_call, wpS_callS, wpS_ret, kThen_N, kThen_B, kThen_C, kThen_R, kThen_T, kNext_N, kNext_C, kNext_B, kNext_R, wpE_K, wpE_KL, xE_I, xE_R, wpE_J, xE_bin, wpE_ladd, wpE_i2l, xE_get, xE_ald0, xE_ald1, wpE_if, xE_max, xE_min, wpE_len, wpA_nil, wpA_snoc, xE_call, xE_callS, xC_C, xC_L, xC_Z, wpC_and, wpC_or, wpC_not, wpC_if, kcmp_0, kcmp_1, kcmp_2, kcmp_3, kcmp_4, kcmp_5, rR_inj, kgO_some, kgO_add, kgO_sub, kgO_mul, kgO_div, kgO_rem, kgO_and, kvI_inl, kvJ_inl, kgI_0, kgI_s, kgR_0, kgR_s, kst_nil, kst_0, kst_s, kNLl_nil, kNLl_i, kNLl_r, kNLl_n, ktag_i, ktag_r, List.length_cons, List.length_nil, List.take_succ_cons, List.take_zero, List.take_nil, List.nil_append, List.cons_append, decide_eq_true_eq, Bool.not_eq_true, Bool.not_eq_true', decide_eq_false_iff_not, ne_eq, Decidable.not_not, true_and, and_true, Nat.reduceAdd, Nat.reduceLeDiff, Nat.reduceEqDiff, Nat.le_refl, not_true_eq_false, not_false_eq_true, reduceIte, eq_self, Int.reduceNeg, Int.reduceEq, Int.reduceLT, Int.reduceLE, Nat.zero_le, Nat.one_ne_zero, ev_row, ev_row_arr, Int.toNat_natCast, ea, eb, c1, decide_true, decide_false, Bool.false_eq_true, if_true, if_false, true_and, and_true, not_true_eq_false, not_false_eq_true]
    repeat refine And.intro (by omega) ?_
    rw [hQ102]
    clear hQ102
    refine kThen_N.mpr ?_
    refine wpS_seq' (fun Q103 hQ103 => ?_)
    simp only [wpS_skip, wpS_break, wpS_cont, wpS_retV, wpS_throw, wpS_seq, wpS_if, wpS_trunc, yS_let, yS_inc, kgK_i, kgK_r, kok_nil, kok_i0, kok_is, kok_r0, kok_rs, kok_n0, kok_ns, xS_put, xS_putOp, xS_ast0, xS_ast1, xS_astOp, wpS_E, wpS_call, wpS_callS, wpS_ret, kThen_N, kThen_B, kThen_C, kThen_R, kThen_T, kNext_N, kNext_C, kNext_B, kNext_R, wpE_K, wpE_KL, xE_I, xE_R, wpE_J, xE_bin, wpE_ladd, wpE_i2l, xE_get, xE_ald0, xE_ald1, wpE_if, xE_max, xE_min, wpE_len, wpA_nil, wpA_snoc, xE_call, xE_callS, xC_C, xC_L, xC_Z, wpC_and, wpC_or, wpC_not, wpC_if, kcmp_0, kcmp_1, kcmp_2, kcmp_3, kcmp_4, kcmp_5, rR_inj, kgO_some, kgO_add, kgO_sub, kgO_mul, kgO_div, kgO_rem, kgO_and, kvI_inl, kvJ_inl, kgI_0, kgI_s, kgR_0, kgR_s, kst_nil, kst_0, kst_s, kNLl_nil, kNLl_i, kNLl_r, kNLl_n, ktag_i, ktag_r, List.length_cons, List.length_nil, List.take_succ_cons, List.take_zero, List.take_nil, List.nil_append, List.cons_append, decide_eq_true_eq, Bool.not_eq_true, Bool.not_eq_true', decide_eq_false_iff_not, ne_eq, Decidable.not_not, true_and, and_true, Nat.reduceAdd, Nat.reduceLeDiff, Nat.reduceEqDiff, Nat.le_refl, not_true_eq_false, not_false_eq_true, reduceIte, eq_self, Int.reduceNeg, Int.reduceEq, Int.reduceLT, Int.reduceLE, Nat.zero_le, Nat.one_ne_zero, ev_row, ev_web]
    refine (spreadBwd_ok hG hW hlo ha).mono ?_
    rintro r s ⟨rfl, b1, b2, b3, b4⟩
    refine ⟨rfl, ?_⟩
    rw [hQ103]
    clear hQ103
    refine kThen_N.mpr ?_
    refine wpS_gen (fun Q1 hQ1 => ?_)
    by_cases q : rch (fun u v => dE (fun y => th c li y ∧ lo y = 0) fs sn v u) a b
    · obtain ⟨d, hd⟩ := q.ds
      have e37 := b2 b d hd
      have c2 : ¬ (d : Int) = -1 := by omega
      simp only [wpS_skip, wpS_break, wpS_cont, wpS_retV, wpS_throw, wpS_seq, wpS_if, wpS_trunc, yS_let, yS_inc, kgK_i, kgK_r, kok_nil, kok_i0, kok_is, kok_r0, kok_rs, kok_n0, kok_ns, xS_put, xS_putOp, xS_ast0, xS_ast1, xS_astOp, wpS_E, wpS_call, wpS_callS, wpS_ret, kThen_N, kThen_B, kThen_C, kThen_R, kThen_T, kNext_N, kNext_C, kNext_B, kNext_R, wpE_K, wpE_KL, xE_I, xE_R, wpE_J, xE_bin, wpE_ladd, wpE_i2l, xE_get, xE_ald0, xE_ald1, wpE_if, xE_max, xE_min, wpE_len, wpA_nil, wpA_snoc, xE_call, xE_callS, xC_C, xC_L, xC_Z, wpC_and, wpC_or, wpC_not, wpC_if, kcmp_0, kcmp_1, kcmp_2, kcmp_3, kcmp_4, kcmp_5, rR_inj, kgO_some, kgO_add, kgO_sub, kgO_mul, kgO_div, kgO_rem, kgO_and, kvI_inl, kvJ_inl, kgI_0, kgI_s, kgR_0, kgR_s, kst_nil, kst_0, kst_s, kNLl_nil, kNLl_i, kNLl_r, kNLl_n, ktag_i, ktag_r, List.length_cons, List.length_nil, List.take_succ_cons, List.take_zero, List.take_nil, List.nil_append, List.cons_append, decide_eq_true_eq, Bool.not_eq_true, Bool.not_eq_true', decide_eq_false_iff_not, ne_eq, Decidable.not_not, true_and, and_true, Nat.reduceAdd, Nat.reduceLeDiff, Nat.reduceEqDiff, Nat.le_refl, not_true_eq_false, not_false_eq_true, reduceIte, eq_self, Int.reduceNeg, Int.reduceEq, Int.reduceLT, Int.reduceLE, Nat.zero_le, Nat.one_ne_zero, ev_row, ev_row_arr, Int.toNat_natCast, e37, c2, decide_true, decide_false, Bool.false_eq_true, if_true, if_false, true_and, and_true, not_true_eq_false, not_false_eq_true]
      repeat refine And.intro (by omega) ?_
      rw [hQ1]
      exact ⟨_, rfl, rfl, b1, Or.inl ⟨rch.flip_iff.mp q, rfl, b2, b3⟩⟩
    · have e37 := b3 b (by omega) q
      simp only [wpS_skip, wpS_break, wpS_cont, wpS_retV, wpS_throw, wpS_seq, wpS_if, wpS_trunc, yS_let, yS_inc, kgK_i, kgK_r, kok_nil, kok_i0, kok_is, kok_r0, kok_rs, kok_n0, kok_ns, xS_put, xS_putOp, xS_ast0, xS_ast1, xS_astOp, wpS_E, wpS_call, wpS_callS, wpS_ret, kThen_N, kThen_B, kThen_C, kThen_R, kThen_T, kNext_N, kNext_C, kNext_B, kNext_R, wpE_K, wpE_KL, xE_I, xE_R, wpE_J, xE_bin, wpE_ladd, wpE_i2l, xE_get, xE_ald0, xE_ald1, wpE_if, xE_max, xE_min, wpE_len, wpA_nil, wpA_snoc, xE_call, xE_callS, xC_C, xC_L, xC_Z, wpC_and, wpC_or, wpC_not, wpC_if, kcmp_0, kcmp_1, kcmp_2, kcmp_3, kcmp_4, kcmp_5, rR_inj, kgO_some, kgO_add, kgO_sub, kgO_mul, kgO_div, kgO_rem, kgO_and, kvI_inl, kvJ_inl, kgI_0, kgI_s, kgR_0, kgR_s, kst_nil, kst_0, kst_s, kNLl_nil, kNLl_i, kNLl_r, kNLl_n, ktag_i, ktag_r, List.length_cons, List.length_nil, List.take_succ_cons, List.take_zero, List.take_nil, List.nil_append, List.cons_append, decide_eq_true_eq, Bool.not_eq_true, Bool.not_eq_true', decide_eq_false_iff_not, ne_eq, Decidable.not_not, true_and, and_true, Nat.reduceAdd, Nat.reduceLeDiff, Nat.reduceEqDiff, Nat.le_refl, not_true_eq_false, not_false_eq_true, reduceIte, eq_self, Int.reduceNeg, Int.reduceEq, Int.reduceLT, Int.reduceLE, Nat.zero_le, Nat.one_ne_zero, ev_row, ev_row_arr, Int.toNat_natCast, e37, decide_true, decide_false, Bool.false_eq_true, if_true, if_false, true_and, and_true, not_true_eq_false, not_false_eq_true]
      repeat refine And.intro (by omega) ?_
      rw [hQ1]
      exact ⟨_, rfl, rfl, b1, Or.inr ⟨fun w => q (rch.flip_iff.mpr w), rfl⟩⟩
theorem rowArcAdded_ok {σ : kS} {n c ar x : Nat} {li fs sn od : Nat → Nat} {lo : Nat → Int} {fl : Int} {O : Nat → Prop} (hG : gOk n c ar li fs sn) (hW : Wb σ n c ar li fs sn) (hlo : ∀ x, σ 33 x = lo x) (hR : Rw σ n od) (hx : x < 5000) (hxt : th c li x)
    (hO : ∀ y, O y ↔ (th c li y ∧ lo y = 0 ∧ y ≠ x)) (hOr : rsp O fs sn (ivO n od)) (hfl : fl = 1 ∨ (fl = 0 ∧ fs x ≠ sn x ∧ ¬ rch (dE O fs sn) (sn x) (fs x))) :
    wpF F_Row_arcAdded [.inr (.inl 7), .inl (x : Int), .inl fl] σ (fun r s => r = none ∧ (∀ o k, ¬ (33 ≤ o ∧ o ≤ 39) → s o k = σ o k) ∧ (∀ y, s 33 y = if y = x then fl else lo y) ∧ Rw s n (if fl = 0 then reOd n O fs sn od (fs x) (sn x) else od)) := by
  obtain ⟨x1, x2, x3, x4⟩ := th_lt hG hxt
  obtain ⟨w1, w2, w3, w4, w5, -⟩ := id hW
  obtain ⟨s1, hs1⟩ : ∃ s1, s1 = kup σ 33 x fl := ⟨_, rfl⟩
  have k1 : ∀ o k, o ≠ 33 → s1 o k = σ o k := by intro o k ho; rw [hs1, kup_ne ho]
  have k2 : ∀ y, s1 33 y = if y = x then fl else lo y := by
    intro y; rw [hs1, kup_eq]; split
    · rfl
    · exact hlo y
  have hR1 : Rw s1 n od := ⟨fun p hp => by rw [k1 _ _ (by decide)]; exact hR.1 p hp, fun v hv => by rw [k1 _ _ (by decide)]; exact hR.2.1 v hv, hR.2.2⟩
  unfold F_Row_arcAdded
  rw [wpF_kF]
  refine ⟨rfl, rfl, ?_⟩
  unfold s_Row_arcAdded
  simp only [List.map_cons, List.map_nil]
  refine wpS_seq' (fun Q0 hQ0 => ?_)
  refine wpS_seq' (fun Q104 hQ104 => ?_)
  simp only [wpS_skip, wpS_break, wpS_cont, wpS_retV, wpS_throw, wpS_seq, wpS_if, wpS_trunc, yS_let, yS_inc, kgK_i, kgK_r, kok_nil, kok_i0, kok_is, kok_r0, kok_rs, kok_n0, kok_ns, xS_put, xS_putOp, xS_ast0, xS_ast1, xS_astOp, wpS_E, wpS_call, wpS_callS, wpS_ret, kThen_N, kThen_B, kThen_C, kThen_R, kThen_T, kNext_N, kNext_C, kNext_B, kNext_R, wpE_K, wpE_KL, xE_I, xE_R, wpE_J, xE_bin, wpE_ladd, wpE_i2l, xE_get, xE_ald0, xE_ald1, wpE_if, xE_max, xE_min, wpE_len, wpA_nil, wpA_snoc, xE_call, xE_callS, xC_C, xC_L, xC_Z, wpC_and, wpC_or, wpC_not, wpC_if, kcmp_0, kcmp_1, kcmp_2, kcmp_3, kcmp_4, kcmp_5, rR_inj, kgO_some, kgO_add, kgO_sub, kgO_mul, kgO_div, kgO_rem, kgO_and, kvI_inl, kvJ_inl, kgI_0, kgI_s, kgR_0, kgR_s, kst_nil, kst_0, kst_s, kNLl_nil, kNLl_i, kNLl_r, kNLl_n, ktag_i, ktag_r, List.length_cons, List.length_nil, List.take_succ_cons, List.take_zero, List.take_nil, List.nil_append, List.cons_append, decide_eq_true_eq, Bool.not_eq_true, Bool.not_eq_true', decide_eq_false_iff_not, ne_eq, Decidable.not_not, true_and, and_true, Nat.reduceAdd, Nat.reduceLeDiff, Nat.reduceEqDiff, Nat.le_refl, not_true_eq_false, not_false_eq_true, reduceIte, eq_self, Int.reduceNeg, Int.reduceEq, Int.reduceLT, Int.reduceLE, Nat.zero_le, Nat.one_ne_zero, ev_row, ev_row_arr, Int.toNat_natCast]
  refine ⟨by omega, by omega, ?_⟩
  rw [hQ104]
  clear hQ104
  refine kThen_N.mpr ?_
  rw [← hs1]
  refine wpS_gen (fun Q1 hQ1 => ?_)
  rcases hfl with rfl | ⟨rfl, hne, hno⟩
  · simp only [wpS_skip, wpS_break, wpS_cont, wpS_retV, wpS_throw, wpS_seq, wpS_if, wpS_trunc, yS_let, yS_inc, kgK_i, kgK_r, kok_nil, kok_i0, kok_is, kok_r0, kok_rs, kok_n0, kok_ns, xS_put, xS_putOp, xS_ast0, xS_ast1, xS_astOp, wpS_E, wpS_call, wpS_callS, wpS_ret, kThen_N, kThen_B, kThen_C, kThen_R, kThen_T, kNext_N, kNext_C, kNext_B, kNext_R, wpE_K, wpE_KL, xE_I, xE_R, wpE_J, xE_bin, wpE_ladd, wpE_i2l, xE_get, xE_ald0, xE_ald1, wpE_if, xE_max, xE_min, wpE_len, wpA_nil, wpA_snoc, xE_call, xE_callS, xC_C, xC_L, xC_Z, wpC_and, wpC_or, wpC_not, wpC_if, kcmp_0, kcmp_1, kcmp_2, kcmp_3, kcmp_4, kcmp_5, rR_inj, kgO_some, kgO_add, kgO_sub, kgO_mul, kgO_div, kgO_rem, kgO_and, kvI_inl, kvJ_inl, kgI_0, kgI_s, kgR_0, kgR_s, kst_nil, kst_0, kst_s, kNLl_nil, kNLl_i, kNLl_r, kNLl_n, ktag_i, ktag_r, List.length_cons, List.length_nil, List.take_succ_cons, List.take_zero, List.take_nil, List.nil_append, List.cons_append, decide_eq_true_eq, Bool.not_eq_true, Bool.not_eq_true', decide_eq_false_iff_not, ne_eq, Decidable.not_not, true_and, and_true, Nat.reduceAdd, Nat.reduceLeDiff, Nat.reduceEqDiff, Nat.le_refl, not_true_eq_false, not_false_eq_true, reduceIte, eq_self, Int.reduceNeg, Int.reduceEq, Int.reduceLT, Int.reduceLE, Nat.zero_le, Nat.one_ne_zero, decide_true, decide_false, Bool.false_eq_true, if_true, if_false, true_and, and_true, not_true_eq_false, not_false_eq_true]
    rw [hQ1]
    rw [hQ0]
    refine kThen_N.mpr (wpS_retV.mpr ⟨none, rfl, rfl, ?_⟩)
    exact ⟨rfl, fun o k ho => k1 o k (by omega), k2, by simpa using hR1⟩
  · have e15 : s1 15 x = fs x := by rw [k1 _ _ (by decide)]; exact w4 x
    have e16 : s1 16 x = sn x := by rw [k1 _ _ (by decide)]; exact w5 x
    simp only [wpS_skip, wpS_break, wpS_cont, wpS_retV, wpS_throw, wpS_seq, wpS_if, wpS_trunc, yS_let, yS_inc, kgK_i, kgK_r, kok_nil, kok_i0, kok_is, kok_r0, kok_rs, kok_n0, kok_ns, xS_put, xS_putOp, xS_ast0, xS_ast1, xS_astOp, wpS_E, wpS_call, wpS_callS, wpS_ret, kThen_N, kThen_B, kThen_C, kThen_R, kThen_T, kNext_N, kNext_C, kNext_B, kNext_R, wpE_K, wpE_KL, xE_I, xE_R, wpE_J, xE_bin, wpE_ladd, wpE_i2l, xE_get, xE_ald0, xE_ald1, wpE_if, xE_max, xE_min, wpE_len, wpA_nil, wpA_snoc, xE_call, xE_callS, xC_C, xC_L, xC_Z, wpC_and, wpC_or, wpC_not, wpC_if, kcmp_0, kcmp_1, kcmp_2, kcmp_3, kcmp_4, kcmp_5, rR_inj, kgO_some, kgO_add, kgO_sub, kgO_mul, kgO_div, kgO_rem, kgO_and, kvI_inl, kvJ_inl, kgI_0, kgI_s, kgR_0, kgR_s, kst_nil, kst_0, kst_s, kNLl_nil, kNLl_i, kNLl_r, kNLl_n, ktag_i, ktag_r, List.length_cons, List.length_nil, List.take_succ_cons, List.take_zero, List.take_nil, List.nil_append, List.cons_append, decide_eq_true_eq, Bool.not_eq_true, Bool.not_eq_true', decide_eq_false_iff_not, ne_eq, Decidable.not_not, true_and, and_true, Nat.reduceAdd, Nat.reduceLeDiff, Nat.reduceEqDiff, Nat.le_refl, not_true_eq_false, not_false_eq_true, reduceIte, eq_self, Int.reduceNeg, Int.reduceEq, Int.reduceLT, Int.reduceLE, Nat.zero_le, Nat.one_ne_zero, ev_row, ev_web, ev_web_arr, Int.toNat_natCast, e15, e16, decide_true, decide_false, Bool.false_eq_true, if_true, if_false, true_and, and_true, not_true_eq_false, not_false_eq_true]
    repeat refine And.intro (by omega) ?_
    refine (setRight_ok hG (hW.agree (fun o k ho => k1 o k (by unfold isWb at ho; omega))) k2 hR1 (O := O) (x := x) (fun y => ?_) ⟨rfl, rfl⟩ hOr hno hne).mono ?_
    · rw [hO]
      by_cases e : y = x
      · subst e; simp [hxt]
      · simp [e]
    · rintro r s ⟨rfl, a1, a2⟩
      refine ⟨rfl, ?_⟩
      rw [hQ1]
      rw [hQ0]
      refine kThen_N.mpr (wpS_retV.mpr ⟨none, rfl, rfl, ?_⟩)
      exact ⟨rfl, fun o k ho => by rw [a1 o k (by omega), k1 o k (by omega)], fun y => by rw [a1 _ _ (by omega)]; exact k2 y, by simpa using a2⟩
/-- the loose arcs, one after another: is it ordered now -/
noncomputable def oStp (n c : Nat) (li fs sn : Nat → Nat) (st : (Nat → Int) × (Nat → Nat)) (x : Nat) : (Nat → Int) × (Nat → Nat) :=
  @ite _ (st.1 x ≠ 0 ∧ fs x ≠ sn x ∧ ¬ rch (dE (fun y => th c li y ∧ st.1 y = 0) fs sn) (sn x) (fs x)) (Classical.propDecidable _) (fun y => if y = x then 0 else st.1 y, reOd n (fun y => th c li y ∧ st.1 y = 0) fs sn st.2 (fs x) (sn x)) st
noncomputable def oRun (n c : Nat) (li fs sn : Nat → Nat) (st : (Nat → Int) × (Nat → Nat)) : Nat → (Nat → Int) × (Nat → Nat)
  | 0 => st
  | k + 1 => oStp n c li fs sn (oRun n c li fs sn st k) (li k)
def oInv (n c : Nat) (li fs sn : Nat → Nat) (st : (Nat → Int) × (Nat → Nat)) : Prop := prm n st.2 (ivO n st.2) ∧ rsp (fun y => th c li y ∧ st.1 y = 0) fs sn (ivO n st.2) ∧ ∀ y, st.1 y = 0 ∨ st.1 y = 1
theorem oStp_inv {n c ar x : Nat} {li fs sn : Nat → Nat} {st : (Nat → Int) × (Nat → Nat)} (hG : gOk n c ar li fs sn) (hx : th c li x) (h : oInv n c li fs sn st) : oInv n c li fs sn (oStp n c li fs sn st x) := by
  obtain ⟨h1, h2, h3⟩ := id h
  obtain ⟨x1, x2, x3, x4⟩ := th_lt hG hx
  unfold oStp
  split
  · rename_i q
    obtain ⟨q1, q2, q3⟩ := q
    obtain ⟨r1, r2, r3⟩ := reOd_ok h1 h2 (fun y hy => (th_lt hG hy.1).2.2) x3 x4 q2 q3
    refine ⟨r1, fun y hy => ?_, fun y => ?_⟩
    · by_cases e : y = x
      · subst e; exact r3
      · exact r2 y ⟨hy.1, by have := hy.2; dsimp only at this; rw [if_neg e] at this; exact this⟩
    · dsimp only
      split
      · exact Or.inl rfl
      · exact h3 y
  · exact h
theorem oRun_inv {n c ar : Nat} {li fs sn : Nat → Nat} {st : (Nat → Int) × (Nat → Nat)} (hG : gOk n c ar li fs sn) (h : oInv n c li fs sn st) : ∀ k, k ≤ c → oInv n c li fs sn (oRun n c li fs sn st k) := by
  intro k
  induction k with
  | zero => intro _; exact h
  | succ k ih => intro hk; exact oStp_inv hG ⟨k, by omega, rfl⟩ (ih (by omega))
theorem rowArcRemoved_ok {σ : kS} {n c ar x0 : Nat} {li fs sn od : Nat → Nat} {lo : Nat → Int} (hG : gOk n c ar li fs sn) (hW : Wb σ n c ar li fs sn) (hlo : ∀ x, σ 33 x = lo x) (hR : Rw σ n od) (hx : x0 < 5000) (hI : oInv n c li fs sn (lo, od)) :
    wpF F_Row_arcRemoved [.inr (.inl 7), .inl (x0 : Int)] σ (fun r s => r = none ∧ (∀ o k, ¬ (33 ≤ o ∧ o ≤ 39) → s o k = σ o k) ∧ (∀ y, s 33 y = (if lo x0 ≠ 0 then lo else (oRun n c li fs sn (lo, od) c).1) y) ∧ Rw s n (if lo x0 ≠ 0 then od else (oRun n c li fs sn (lo, od) c).2)) := by
  have hc9 := hG.2.1
  obtain ⟨w1, w2, w3, w4, w5, w6, -⟩ := id hW
  have e33 := hlo x0
  unfold F_Row_arcRemoved
  rw [wpF_kF]
  refine ⟨rfl, rfl, ?_⟩
  unfold s_Row_arcRemoved
  simp only [List.map_cons, List.map_nil]
  refine wpS_seq' (fun Q0 hQ0 => ?_)
  by_cases h0 : lo x0 = 0
  · refine wpS_seq' (fun Q105 hQ105 => ?_)
    simp only [wpS_skip, wpS_break, wpS_cont, wpS_retV, wpS_throw, wpS_seq, wpS_if, wpS_trunc, yS_let, yS_inc, kgK_i, kgK_r, kok_nil, kok_i0, kok_is, kok_r0, kok_rs, kok_n0, kok_ns, xS_put, xS_putOp, xS_ast0, xS_ast1, xS_astOp, wpS_E, wpS_call, wpS_callS, wpS_ret, kThen_N, kThen_B, kThen_C, kThen_R, kThen_T, kNext_N, kNext_C, kNext_B, kNext_R, wpE_K, wpE_KL, xE_I, xE_R, wpE_J, xE_bin, wpE_ladd, wpE_i2l, xE_get, xE_ald0, xE_ald1, wpE_if, xE_max, xE_min, wpE_len, wpA_nil, wpA_snoc, xE_call, xE_callS, xC_C, xC_L, xC_Z, wpC_and, wpC_or, wpC_not, wpC_if, kcmp_0, kcmp_1, kcmp_2, kcmp_3, kcmp_4, kcmp_5, rR_inj, kgO_some, kgO_add, kgO_sub, kgO_mul, kgO_div, kgO_rem, kgO_and, kvI_inl, kvJ_inl, kgI_0, kgI_s, kgR_0, kgR_s, kst_nil, kst_0, kst_s, kNLl_nil, kNLl_i, kNLl_r, kNLl_n, ktag_i, ktag_r, List.length_cons, List.length_nil, List.take_succ_cons, List.take_zero, List.take_nil, List.nil_append, List.cons_append, decide_eq_true_eq, Bool.not_eq_true, Bool.not_eq_true', decide_eq_false_iff_not, ne_eq, Decidable.not_not, true_and, and_true, Nat.reduceAdd, Nat.reduceLeDiff, Nat.reduceEqDiff, Nat.le_refl, not_true_eq_false, not_false_eq_true, reduceIte, eq_self, Int.reduceNeg, Int.reduceEq, Int.reduceLT, Int.reduceLE, Nat.zero_le, Nat.one_ne_zero, ev_row, ev_row_arr, Int.toNat_natCast, e33, h0, decide_true, decide_false, Bool.false_eq_true, if_true, if_false, true_and, and_true, not_true_eq_false, not_false_eq_true]
    refine ⟨by omega, ?_⟩
    rw [hQ105]
    clear hQ105
    refine kThen_N.mpr ?_
    refine wpS_gen (fun Q1 hQ1 => ?_)
    unfold l_Row_arcRemoved_1
    refine wpS_fp (fun k s => (∀ o j, ¬ (33 ≤ o ∧ o ≤ 39) → s o j = σ o j) ∧ (∀ y, s 33 y = (oRun n c li fs sn (lo, od) k).1 y) ∧ Rw s n (oRun n c li fs sn (lo, od) k).2) 0 c rfl rfl ?_ ?_ ?_ ?_ ?_ ?_
    · simp only [wpS_skip, wpS_break, wpS_cont, wpS_retV, wpS_throw, wpS_seq, wpS_if, wpS_trunc, yS_let, yS_inc, kgK_i, kgK_r, kok_nil, kok_i0, kok_is, kok_r0, kok_rs, kok_n0, kok_ns, xS_put, xS_putOp, xS_ast0, xS_ast1, xS_astOp, wpS_E, wpS_call, wpS_callS, wpS_ret, kThen_N, kThen_B, kThen_C, kThen_R, kThen_T, kNext_N, kNext_C, kNext_B, kNext_R, wpE_K, wpE_KL, xE_I, xE_R, wpE_J, xE_bin, wpE_ladd, wpE_i2l, xE_get, xE_ald0, xE_ald1, wpE_if, xE_max, xE_min, wpE_len, wpA_nil, wpA_snoc, xE_call, xE_callS, xC_C, xC_L, xC_Z, wpC_and, wpC_or, wpC_not, wpC_if, kcmp_0, kcmp_1, kcmp_2, kcmp_3, kcmp_4, kcmp_5, rR_inj, kgO_some, kgO_add, kgO_sub, kgO_mul, kgO_div, kgO_rem, kgO_and, kvI_inl, kvJ_inl, kgI_0, kgI_s, kgR_0, kgR_s, kst_nil, kst_0, kst_s, kNLl_nil, kNLl_i, kNLl_r, kNLl_n, ktag_i, ktag_r, List.length_cons, List.length_nil, List.take_succ_cons, List.take_zero, List.take_nil, List.nil_append, List.cons_append, decide_eq_true_eq, Bool.not_eq_true, Bool.not_eq_true', decide_eq_false_iff_not, ne_eq, Decidable.not_not, true_and, and_true, Nat.reduceAdd, Nat.reduceLeDiff, Nat.reduceEqDiff, Nat.le_refl, not_true_eq_false, not_false_eq_true, reduceIte, eq_self, Int.reduceNeg, Int.reduceEq, Int.reduceLT, Int.reduceLE, Nat.zero_le, Nat.one_ne_zero]; trivial
    · omega
    · exact ⟨fun _ _ _ => rfl, hlo, hR⟩
    · rintro k s - - ⟨S1, -⟩
      simp only [wpS_skip, wpS_break, wpS_cont, wpS_retV, wpS_throw, wpS_seq, wpS_if, wpS_trunc, yS_let, yS_inc, kgK_i, kgK_r, kok_nil, kok_i0, kok_is, kok_r0, kok_rs, kok_n0, kok_ns, xS_put, xS_putOp, xS_ast0, xS_ast1, xS_astOp, wpS_E, wpS_call, wpS_callS, wpS_ret, kThen_N, kThen_B, kThen_C, kThen_R, kThen_T, kNext_N, kNext_C, kNext_B, kNext_R, wpE_K, wpE_KL, xE_I, xE_R, wpE_J, xE_bin, wpE_ladd, wpE_i2l, xE_get, xE_ald0, xE_ald1, wpE_if, xE_max, xE_min, wpE_len, wpA_nil, wpA_snoc, xE_call, xE_callS, xC_C, xC_L, xC_Z, wpC_and, wpC_or, wpC_not, wpC_if, kcmp_0, kcmp_1, kcmp_2, kcmp_3, kcmp_4, kcmp_5, rR_inj, kgO_some, kgO_add, kgO_sub, kgO_mul, kgO_div, kgO_rem, kgO_and, kvI_inl, kvJ_inl, kgI_0, kgI_s, kgR_0, kgR_s, kst_nil, kst_0, kst_s, kNLl_nil, kNLl_i, kNLl_r, kNLl_n, ktag_i, ktag_r, List.length_cons, List.length_nil, List.take_succ_cons, List.take_zero, List.take_nil, List.nil_append, List.cons_append, decide_eq_true_eq, Bool.not_eq_true, Bool.not_eq_true', decide_eq_false_iff_not, ne_eq, Decidable.not_not, true_and, and_true, Nat.reduceAdd, Nat.reduceLeDiff, Nat.reduceEqDiff, Nat.le_refl, not_true_eq_false, not_false_eq_true, reduceIte, eq_self, Int.reduceNeg, Int.reduceEq, Int.reduceLT, Int.reduceLE, Nat.zero_le, Nat.one_ne_zero, ev_row, ev_web, show s 1 4 = (c : Int) by rw [S1 _ _ (by omega)]; exact w2]
    · rintro k s h1 hk ⟨S1, S2, S3⟩
      obtain ⟨x, hxx⟩ : ∃ x, x = li k := ⟨_, rfl⟩
      have hxt : th c li x := ⟨k, hk, hxx.symm⟩
      obtain ⟨x1, x2, x3, x4⟩ := th_lt hG hxt
      have hInv := oRun_inv hG hI k (by omega)
      obtain ⟨st, hst⟩ : ∃ st, st = oRun n c li fs sn (lo, od) k := ⟨_, rfl⟩
      have hst2 : oRun n c li fs sn (lo, od) (k + 1) = oStp n c li fs sn st x := by rw [hst, hxx]; rfl
      rw [← hst] at S2 S3 hInv
      rw [hst2]
      obtain ⟨i1, i2, i3⟩ := id hInv
      have e17 : s 17 k = x := by rw [S1 _ _ (by omega), w6 k hk, hxx]
      have e15 : s 15 x = fs x := by rw [S1 _ _ (by omega), w4]
      have e16 : s 16 x = sn x := by rw [S1 _ _ (by omega), w5]
      have e33 := S2 x
      have hWs := hW.agree (s' := s) (fun o k ho => S1 o k (by unfold isWb at ho; omega))
      rw [wpS_trunc]
      refine wpS_seq' (fun Q106 hQ106 => ?_)
      simp only [wpS_skip, wpS_break, wpS_cont, wpS_retV, wpS_throw, wpS_seq, wpS_if, wpS_trunc, yS_let, yS_inc, kgK_i, kgK_r, kok_nil, kok_i0, kok_is, kok_r0, kok_rs, kok_n0, kok_ns, xS_put, xS_putOp, xS_ast0, xS_ast1, xS_astOp, wpS_E, wpS_call, wpS_callS, wpS_ret, kThen_N, kThen_B, kThen_C, kThen_R, kThen_T, kNext_N, kNext_C, kNext_B, kNext_R, wpE_K, wpE_KL, xE_I, xE_R, wpE_J, xE_bin, wpE_ladd, wpE_i2l, xE_get, xE_ald0, xE_ald1, wpE_if, xE_max, xE_min, wpE_len, wpA_nil, wpA_snoc, xE_call, xE_callS, xC_C, xC_L, xC_Z, wpC_and, wpC_or, wpC_not, wpC_if, kcmp_0, kcmp_1, kcmp_2, kcmp_3, kcmp_4, kcmp_5, rR_inj, kgO_some, kgO_add, kgO_sub, kgO_mul, kgO_div, kgO_rem, kgO_and, kvI_inl, kvJ_inl, kgI_0, kgI_s, kgR_0, kgR_s, kst_nil, kst_0, kst_s, kNLl_nil, kNLl_i, kNLl_r, kNLl_n, ktag_i, ktag_r, List.length_cons, List.length_nil, List.take_succ_cons, List.take_zero, List.take_nil, List.nil_append, List.cons_append, decide_eq_true_eq, Bool.not_eq_true, Bool.not_eq_true', decide_eq_false_iff_not, ne_eq, Decidable.not_not, true_and, and_true, Nat.reduceAdd, Nat.reduceLeDiff, Nat.reduceEqDiff, Nat.le_refl, not_true_eq_false, not_false_eq_true, reduceIte, eq_self, Int.reduceNeg, Int.reduceEq, Int.reduceLT, Int.reduceLE, Nat.zero_le, Nat.one_ne_zero, ev_row, ev_web, ev_web_arr, Int.toNat_natCast, e17]
      repeat refine And.intro (by omega) ?_
      rw [hQ106]
      clear hQ106 Q106
      refine kThen_N.mpr ?_
      refine wpS_seq' (fun Q107 hQ107 => ?_)
      simp only [wpS_skip, wpS_break, wpS_cont, wpS_retV, wpS_throw, wpS_seq, wpS_if, wpS_trunc, yS_let, yS_inc, kgK_i, kgK_r, kok_nil, kok_i0, kok_is, kok_r0, kok_rs, kok_n0, kok_ns, xS_put, xS_putOp, xS_ast0, xS_ast1, xS_astOp, wpS_E, wpS_call, wpS_callS, wpS_ret, kThen_N, kThen_B, kThen_C, kThen_R, kThen_T, kNext_N, kNext_C, kNext_B, kNext_R, wpE_K, wpE_KL, xE_I, xE_R, wpE_J, xE_bin, wpE_ladd, wpE_i2l, xE_get, xE_ald0, xE_ald1, wpE_if, xE_max, xE_min, wpE_len, wpA_nil, wpA_snoc, xE_call, xE_callS, xC_C, xC_L, xC_Z, wpC_and, wpC_or, wpC_not, wpC_if, kcmp_0, kcmp_1, kcmp_2, kcmp_3, kcmp_4, kcmp_5, rR_inj, kgO_some, kgO_add, kgO_sub, kgO_mul, kgO_div, kgO_rem, kgO_and, kvI_inl, kvJ_inl, kgI_0, kgI_s, kgR_0, kgR_s, kst_nil, kst_0, kst_s, kNLl_nil, kNLl_i, kNLl_r, kNLl_n, ktag_i, ktag_r, List.length_cons, List.length_nil, List.take_succ_cons, List.take_zero, List.take_nil, List.nil_append, List.cons_append, decide_eq_true_eq, Bool.not_eq_true, Bool.not_eq_true', decide_eq_false_iff_not, ne_eq, Decidable.not_not, true_and, and_true, Nat.reduceAdd, Nat.reduceLeDiff, Nat.reduceEqDiff, Nat.le_refl, not_true_eq_false, not_false_eq_true, reduceIte, eq_self, Int.reduceNeg, Int.reduceEq, Int.reduceLT, Int.reduceLE, Nat.zero_le, Nat.one_ne_zero, ev_row, ev_web, ev_web_arr, Int.toNat_natCast, e15]
      repeat refine And.intro (by omega) ?_
      rw [hQ107]
      clear hQ107 Q107
      refine kThen_N.mpr ?_
      refine wpS_seq' (fun Q108 hQ108 => ?_)
      simp only [wpS_skip, wpS_break, wpS_cont, wpS_retV, wpS_throw, wpS_seq, wpS_if, wpS_trunc, yS_let, yS_inc, kgK_i, kgK_r, kok_nil, kok_i0, kok_is, kok_r0, kok_rs, kok_n0, kok_ns, xS_put, xS_putOp, xS_ast0, xS_ast1, xS_astOp, wpS_E, wpS_call, wpS_callS, wpS_ret, kThen_N, kThen_B, kThen_C, kThen_R, kThen_T, kNext_N, kNext_C, kNext_B, kNext_R, wpE_K, wpE_KL, xE_I, xE_R, wpE_J, xE_bin, wpE_ladd, wpE_i2l, xE_get, xE_ald0, xE_ald1, wpE_if, xE_max, xE_min, wpE_len, wpA_nil, wpA_snoc, xE_call, xE_callS, xC_C, xC_L, xC_Z, wpC_and, wpC_or, wpC_not, wpC_if, kcmp_0, kcmp_1, kcmp_2, kcmp_3, kcmp_4, kcmp_5, rR_inj, kgO_some, kgO_add, kgO_sub, kgO_mul, kgO_div, kgO_rem, kgO_and, kvI_inl, kvJ_inl, kgI_0, kgI_s, kgR_0, kgR_s, kst_nil, kst_0, kst_s, kNLl_nil, kNLl_i, kNLl_r, kNLl_n, ktag_i, ktag_r, List.length_cons, List.length_nil, List.take_succ_cons, List.take_zero, List.take_nil, List.nil_append, List.cons_append, decide_eq_true_eq, Bool.not_eq_true, Bool.not_eq_true', decide_eq_false_iff_not, ne_eq, Decidable.not_not, true_and, and_true, Nat.reduceAdd, Nat.reduceLeDiff, Nat.reduceEqDiff, Nat.le_refl, not_true_eq_false, not_false_eq_true, reduceIte, eq_self, Int.reduceNeg, Int.reduceEq, Int.reduceLT, Int.reduceLE, Nat.zero_le, Nat.one_ne_zero, ev_row, ev_web, ev_web_arr, Int.toNat_natCast, e16]
      repeat refine And.intro (by omega) ?_
      rw [hQ108]
      clear hQ108 Q108
      refine kThen_N.mpr ?_
      refine wpS_gen (fun Q3 hQ3 => ?_)
      have skip : ∀ s', (∀ o k, o ≠ 37 → o ≠ 39 → s' o k = s o k) → ¬ (st.1 x ≠ 0 ∧ fs x ≠ sn x ∧ ¬ rch (dE (fun y => th c li y ∧ st.1 y = 0) fs sn) (sn x) (fs x)) → Q3 rN [some (.inr (.inl 7)), some (.inl (x0 : Int)), some (.inl (k : Int)), some (.inl (x : Int)), some (.inl (fs x : Int)), some (.inl (sn x : Int))] s' := by
        intro s' hs' hn
        have e : oStp n c li fs sn st x = st := by unfold oStp; rw [if_neg hn]
        rw [hQ3, e]
        exact kStep_N rfl ⟨rfl, fun o k ho => by rw [hs' o k (by omega) (by omega)]; exact S1 o k ho, fun y => by rw [hs' _ _ (by decide) (by decide)]; exact S2 y, fun p hp => by rw [hs' _ _ (by decide) (by decide)]; exact S3.1 p hp, fun v hv => by rw [hs' _ _ (by decide) (by decide)]; exact S3.2.1 v hv, S3.2.2⟩
      by_cases a1 : st.1 x = 0
      · simp only [wpS_skip, wpS_break, wpS_cont, wpS_retV, wpS_throw, wpS_seq, wpS_if, wpS_trunc, yS_let, yS_inc, kgK_i, kgK_r, kok_nil, kok_i0, kok_is, kok_r0, kok_rs, kok_n0, kok_ns, xS_put, xS_putOp, xS_ast0, xS_ast1, xS_astOp, wpS_E, wpS_call, wpS_callS, wpS_ret, kThen_N, kThen_B, kThen_C, kThen_R, kThen_T, kNext_N, kNext_C, kNext_B, kNext_R, wpE_K, wpE_KL, xE_I, xE_R, wpE_J, xE_bin, wpE_ladd, wpE_i2l, xE_get, xE_ald0, xE_ald1, wpE_if, xE_max, xE_min, wpE_len, wpA_nil, wpA_snoc, xE_call, xE_callS, xC_C, xC_L, xC_Z, wpC_and, wpC_or, wpC_not, wpC_if, kcmp_0, kcmp_1, kcmp_2, kcmp_3, kcmp_4, kcmp_5, rR_inj, kgO_some, kgO_add, kgO_sub, kgO_mul, kgO_div, kgO_rem, kgO_and, kvI_inl, kvJ_inl, kgI_0, kgI_s, kgR_0, kgR_s, kst_nil, kst_0, kst_s, kNLl_nil, kNLl_i, kNLl_r, kNLl_n, ktag_i, ktag_r, List.length_cons, List.length_nil, List.take_succ_cons, List.take_zero, List.take_nil, List.nil_append, List.cons_append, decide_eq_true_eq, Bool.not_eq_true, Bool.not_eq_true', decide_eq_false_iff_not, ne_eq, Decidable.not_not, true_and, and_true, Nat.reduceAdd, Nat.reduceLeDiff, Nat.reduceEqDiff, Nat.le_refl, not_true_eq_false, not_false_eq_true, reduceIte, eq_self, Int.reduceNeg, Int.reduceEq, Int.reduceLT, Int.reduceLE, Nat.zero_le, Nat.one_ne_zero, ev_row, ev_row_arr, Int.toNat_natCast, e33, a1, decide_true, decide_false, Bool.false_eq_true, if_true, if_false, true_and, and_true, not_true_eq_false, not_false_eq_true]
        refine ⟨by omega, ?_⟩
        exact skip s (fun _ _ _ _ => rfl) (fun q => q.1 a1)
      · by_cases a2 : fs x = sn x
        · have a2' : (fs x : Int) = (sn x : Int) := by omega
          simp only [wpS_skip, wpS_break, wpS_cont, wpS_retV, wpS_throw, wpS_seq, wpS_if, wpS_trunc, yS_let, yS_inc, kgK_i, kgK_r, kok_nil, kok_i0, kok_is, kok_r0, kok_rs, kok_n0, kok_ns, xS_put, xS_putOp, xS_ast0, xS_ast1, xS_astOp, wpS_E, wpS_call, wpS_callS, wpS_ret, kThen_N, kThen_B, kThen_C, kThen_R, kThen_T, kNext_N, kNext_C, kNext_B, kNext_R, wpE_K, wpE_KL, xE_I, xE_R, wpE_J, xE_bin, wpE_ladd, wpE_i2l, xE_get, xE_ald0, xE_ald1, wpE_if, xE_max, xE_min, wpE_len, wpA_nil, wpA_snoc, xE_call, xE_callS, xC_C, xC_L, xC_Z, wpC_and, wpC_or, wpC_not, wpC_if, kcmp_0, kcmp_1, kcmp_2, kcmp_3, kcmp_4, kcmp_5, rR_inj, kgO_some, kgO_add, kgO_sub, kgO_mul, kgO_div, kgO_rem, kgO_and, kvI_inl, kvJ_inl, kgI_0, kgI_s, kgR_0, kgR_s, kst_nil, kst_0, kst_s, kNLl_nil, kNLl_i, kNLl_r, kNLl_n, ktag_i, ktag_r, List.length_cons, List.length_nil, List.take_succ_cons, List.take_zero, List.take_nil, List.nil_append, List.cons_append, decide_eq_true_eq, Bool.not_eq_true, Bool.not_eq_true', decide_eq_false_iff_not, ne_eq, Decidable.not_not, true_and, and_true, Nat.reduceAdd, Nat.reduceLeDiff, Nat.reduceEqDiff, Nat.le_refl, not_true_eq_false, not_false_eq_true, reduceIte, eq_self, Int.reduceNeg, Int.reduceEq, Int.reduceLT, Int.reduceLE, Nat.zero_le, Nat.one_ne_zero, ev_row, ev_row_arr, Int.toNat_natCast, e33, a1, a2', decide_true, decide_false, Bool.false_eq_true, if_true, if_false, true_and, and_true, not_true_eq_false, not_false_eq_true]
          refine ⟨by omega, ?_⟩
          rw [← a2']
          have := skip s (fun _ _ _ _ => rfl) (fun q => q.2.1 a2)
          rw [← a2'] at this
          exact this
        · have a2' : ¬ (fs x : Int) = (sn x : Int) := by omega
          simp only [wpS_skip, wpS_break, wpS_cont, wpS_retV, wpS_throw, wpS_seq, wpS_if, wpS_trunc, yS_let, yS_inc, kgK_i, kgK_r, kok_nil, kok_i0, kok_is, kok_r0, kok_rs, kok_n0, kok_ns, xS_put, xS_putOp, xS_ast0, xS_ast1, xS_astOp, wpS_E, wpS_call, wpS_callS, wpS_ret, kThen_N, kThen_B, kThen_C, kThen_R, kThen_T, kNext_N, kNext_C, kNext_B, kNext_R, wpE_K, wpE_KL, xE_I, xE_R, wpE_J, xE_bin, wpE_ladd, wpE_i2l, xE_get, xE_ald0, xE_ald1, wpE_if, xE_max, xE_min, wpE_len, wpA_nil, wpA_snoc, xE_call, xE_callS, xC_C, xC_L, xC_Z, wpC_and, wpC_or, wpC_not, wpC_if, kcmp_0, kcmp_1, kcmp_2, kcmp_3, kcmp_4, kcmp_5, rR_inj, kgO_some, kgO_add, kgO_sub, kgO_mul, kgO_div, kgO_rem, kgO_and, kvI_inl, kvJ_inl, kgI_0, kgI_s, kgR_0, kgR_s, kst_nil, kst_0, kst_s, kNLl_nil, kNLl_i, kNLl_r, kNLl_n, ktag_i, ktag_r, List.length_cons, List.length_nil, List.take_succ_cons, List.take_zero, List.take_nil, List.nil_append, List.cons_append, decide_eq_true_eq, Bool.not_eq_true, Bool.not_eq_true', decide_eq_false_iff_not, ne_eq, Decidable.not_not, true_and, and_true, Nat.reduceAdd, Nat.reduceLeDiff, Nat.reduceEqDiff, Nat.le_refl, not_true_eq_false, not_false_eq_true, reduceIte, eq_self, Int.reduceNeg, Int.reduceEq, Int.reduceLT, Int.reduceLE, Nat.zero_le, Nat.one_ne_zero, ev_row, ev_row_arr, Int.toNat_natCast, e33, a1, a2', decide_true, decide_false, Bool.false_eq_true, if_true, if_false, true_and, and_true, not_true_eq_false, not_false_eq_true]
          refine ⟨by omega, ?_⟩
          refine (reaches_ok hG hWs S2 S3 x3 x4 i2).mono ?_
          rintro r s' ⟨c1, ⟨c2, rfl, -⟩ | ⟨c2, rfl⟩⟩
          · rw [kgO_some]
            simp only [wpS_skip, wpS_break, wpS_cont, wpS_retV, wpS_throw, wpS_seq, wpS_if, wpS_trunc, yS_let, yS_inc, kgK_i, kgK_r, kok_nil, kok_i0, kok_is, kok_r0, kok_rs, kok_n0, kok_ns, xS_put, xS_putOp, xS_ast0, xS_ast1, xS_astOp, wpS_E, wpS_call, wpS_callS, wpS_ret, kThen_N, kThen_B, kThen_C, kThen_R, kThen_T, kNext_N, kNext_C, kNext_B, kNext_R, wpE_K, wpE_KL, xE_I, xE_R, wpE_J, xE_bin, wpE_ladd, wpE_i2l, xE_get, xE_ald0, xE_ald1, wpE_if, xE_max, xE_min, wpE_len, wpA_nil, wpA_snoc, xE_call, xE_callS, xC_C, xC_L, xC_Z, wpC_and, wpC_or, wpC_not, wpC_if, kcmp_0, kcmp_1, kcmp_2, kcmp_3, kcmp_4, kcmp_5, rR_inj, kgO_some, kgO_add, kgO_sub, kgO_mul, kgO_div, kgO_rem, kgO_and, kvI_inl, kvJ_inl, kgI_0, kgI_s, kgR_0, kgR_s, kst_nil, kst_0, kst_s, kNLl_nil, kNLl_i, kNLl_r, kNLl_n, ktag_i, ktag_r, List.length_cons, List.length_nil, List.take_succ_cons, List.take_zero, List.take_nil, List.nil_append, List.cons_append, decide_eq_true_eq, Bool.not_eq_true, Bool.not_eq_true', decide_eq_false_iff_not, ne_eq, Decidable.not_not, true_and, and_true, Nat.reduceAdd, Nat.reduceLeDiff, Nat.reduceEqDiff, Nat.le_refl, not_true_eq_false, not_false_eq_true, reduceIte, eq_self, Int.reduceNeg, Int.reduceEq, Int.reduceLT, Int.reduceLE, Nat.zero_le, Nat.one_ne_zero, decide_true, decide_false, Bool.false_eq_true, if_true, if_false, true_and, and_true, not_true_eq_false, not_false_eq_true]
            exact skip s' c1 (fun q => q.2.2 c2)
          · rw [kgO_some]
            have g33 : s' 33 x = st.1 x := by rw [c1 _ _ (by decide) (by decide)]; exact S2 x
            simp only [wpS_skip, wpS_break, wpS_cont, wpS_retV, wpS_throw, wpS_seq, wpS_if, wpS_trunc, yS_let, yS_inc, kgK_i, kgK_r, kok_nil, kok_i0, kok_is, kok_r0, kok_rs, kok_n0, kok_ns, xS_put, xS_putOp, xS_ast0, xS_ast1, xS_astOp, wpS_E, wpS_call, wpS_callS, wpS_ret, kThen_N, kThen_B, kThen_C, kThen_R, kThen_T, kNext_N, kNext_C, kNext_B, kNext_R, wpE_K, wpE_KL, xE_I, xE_R, wpE_J, xE_bin, wpE_ladd, wpE_i2l, xE_get, xE_ald0, xE_ald1, wpE_if, xE_max, xE_min, wpE_len, wpA_nil, wpA_snoc, xE_call, xE_callS, xC_C, xC_L, xC_Z, wpC_and, wpC_or, wpC_not, wpC_if, kcmp_0, kcmp_1, kcmp_2, kcmp_3, kcmp_4, kcmp_5, rR_inj, kgO_some, kgO_add, kgO_sub, kgO_mul, kgO_div, kgO_rem, kgO_and, kvI_inl, kvJ_inl, kgI_0, kgI_s, kgR_0, kgR_s, kst_nil, kst_0, kst_s, kNLl_nil, kNLl_i, kNLl_r, kNLl_n, ktag_i, ktag_r, List.length_cons, List.length_nil, List.take_succ_cons, List.take_zero, List.take_nil, List.nil_append, List.cons_append, decide_eq_true_eq, Bool.not_eq_true, Bool.not_eq_true', decide_eq_false_iff_not, ne_eq, Decidable.not_not, true_and, and_true, Nat.reduceAdd, Nat.reduceLeDiff, Nat.reduceEqDiff, Nat.le_refl, not_true_eq_false, not_false_eq_true, reduceIte, eq_self, Int.reduceNeg, Int.reduceEq, Int.reduceLT, Int.reduceLE, Nat.zero_le, Nat.one_ne_zero, ev_row, ev_row_arr, Int.toNat_natCast, decide_true, decide_false, Bool.false_eq_true, if_true, if_false, true_and, and_true, not_true_eq_false, not_false_eq_true, true_or]
            repeat refine And.intro (by omega) ?_
            have hO : ∀ y, (th c li y ∧ (if y = x then 0 else st.1 y) = 0) ↔ ((th c li y ∧ st.1 y = 0) ∨ y = x) := by
              intro y
              by_cases e : y = x
              · subst e; simp [hxt]
              · simp [e]
            have hW2 := hWs.agree (s' := kup s' 33 x 0) (fun o k ho => by rw [kup_ne (by unfold isWb at ho; omega)]; exact c1 o k (by unfold isWb at ho; omega) (by unfold isWb at ho; omega))
            have hlo2 : ∀ y, kup s' 33 x 0 33 y = (fun y => if y = x then 0 else st.1 y) y := by
              intro y
              rw [kup_eq]
              dsimp only
              split
              · rfl
              · rw [c1 _ _ (by decide) (by decide)]; exact S2 y
            have hR2 : Rw (kup s' 33 x 0) n st.2 := ⟨fun p hp => by rw [kup_ne (by decide), c1 _ _ (by decide) (by decide)]; exact S3.1 p hp, fun v hv => by rw [kup_ne (by decide), c1 _ _ (by decide) (by decide)]; exact S3.2.1 v hv, S3.2.2⟩
            refine (setRight_ok hG hW2 hlo2 hR2 (O := fun y => th c li y ∧ st.1 y = 0) (x := x) hO ⟨rfl, rfl⟩ i2 c2 a2).mono ?_
            rintro r s2 ⟨rfl, d1, d2⟩
            refine ⟨rfl, ?_⟩
            have e : oStp n c li fs sn st x = (fun y => if y = x then 0 else st.1 y, reOd n (fun y => th c li y ∧ st.1 y = 0) fs sn st.2 (fs x) (sn x)) := by unfold oStp; rw [if_pos ⟨a1, a2, c2⟩]
            rw [hQ3, e]
            exact kStep_N rfl ⟨rfl, fun o k ho => by rw [d1 o k (by omega), kup_ne (by omega), c1 o k (by omega) (by omega)]; exact S1 o k ho, fun y => by rw [d1 _ _ (by omega)]; exact hlo2 y, d2⟩
    · rintro s ⟨S1, S2, S3⟩
      rw [hQ1]
      rw [hQ0]
      refine kThen_N.mpr (wpS_retV.mpr ⟨none, rfl, rfl, ?_⟩)
      simp only [h0, decide_true, decide_false, Bool.false_eq_true, if_true, if_false, true_and, and_true, not_true_eq_false, not_false_eq_true, ne_eq]
      exact ⟨S1, S2, S3⟩
  · refine wpS_seq' (fun Q109 hQ109 => ?_)
    simp only [wpS_skip, wpS_break, wpS_cont, wpS_retV, wpS_throw, wpS_seq, wpS_if, wpS_trunc, yS_let, yS_inc, kgK_i, kgK_r, kok_nil, kok_i0, kok_is, kok_r0, kok_rs, kok_n0, kok_ns, xS_put, xS_putOp, xS_ast0, xS_ast1, xS_astOp, wpS_E, wpS_call, wpS_callS, wpS_ret, kThen_N, kThen_B, kThen_C, kThen_R, kThen_T, kNext_N, kNext_C, kNext_B, kNext_R, wpE_K, wpE_KL, xE_I, xE_R, wpE_J, xE_bin, wpE_ladd, wpE_i2l, xE_get, xE_ald0, xE_ald1, wpE_if, xE_max, xE_min, wpE_len, wpA_nil, wpA_snoc, xE_call, xE_callS, xC_C, xC_L, xC_Z, wpC_and, wpC_or, wpC_not, wpC_if, kcmp_0, kcmp_1, kcmp_2, kcmp_3, kcmp_4, kcmp_5, rR_inj, kgO_some, kgO_add, kgO_sub, kgO_mul, kgO_div, kgO_rem, kgO_and, kvI_inl, kvJ_inl, kgI_0, kgI_s, kgR_0, kgR_s, kst_nil, kst_0, kst_s, kNLl_nil, kNLl_i, kNLl_r, kNLl_n, ktag_i, ktag_r, List.length_cons, List.length_nil, List.take_succ_cons, List.take_zero, List.take_nil, List.nil_append, List.cons_append, decide_eq_true_eq, Bool.not_eq_true, Bool.not_eq_true', decide_eq_false_iff_not, ne_eq, Decidable.not_not, true_and, and_true, Nat.reduceAdd, Nat.reduceLeDiff, Nat.reduceEqDiff, Nat.le_refl, not_true_eq_false, not_false_eq_true, reduceIte, eq_self, Int.reduceNeg, Int.reduceEq, Int.reduceLT, Int.reduceLE, Nat.zero_le, Nat.one_ne_zero, ev_row, ev_row_arr, Int.toNat_natCast, e33, h0, decide_true, decide_false, Bool.false_eq_true, if_true, if_false, true_and, and_true, not_true_eq_false, not_false_eq_true]
    refine ⟨by omega, ?_⟩
    rw [hQ109, hQ0]
    refine kThen_R.mpr (kThen_R.mpr ⟨none, rfl, rfl, rfl, fun _ _ _ => rfl, fun y => ?_, ?_⟩)
    · rw [if_pos h0]; exact hlo y
    · rw [if_pos h0]; exact hR
