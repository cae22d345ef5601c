/-! THE WEB CHANGES -/
theorem fan_inj {n c : Nat} {li key F S : Nat → Nat} (h : fanOk n c li key F S) {i j : Nat} (a : i < c) (b : j < c) (e : F i = F j) : i = j := by
  rcases Nat.lt_trichotomy i j with r | r | r
  · have := h.2.2.2.2.1 i j r b (by rw [e]); omega
  · exact r
  · have := h.2.2.2.2.1 j i r a (by rw [e]); omega
theorem th_add {c x y : Nat} {li : Nat → Nat} : th (c + 1) (fun k => if k = c then x else li k) y ↔ th c li y ∨ y = x := by
  unfold th
  constructor
  · rintro ⟨k, h1, h2⟩
    dsimp only at h2
    split at h2
    · exact Or.inr h2.symm
    · exact Or.inl ⟨k, by omega, h2⟩
  · rintro (⟨k, h1, h2⟩ | h)
    · exact ⟨k, by omega, by dsimp only; rw [if_neg (by omega)]; exact h2⟩
    · exact ⟨c, by omega, by simp [h]⟩
theorem th_rem {c q y : Nat} {li li' : Nat → Nat} (hi : ∀ i j, i < c → j < c → li i = li j → i = j) (hq : q < c) (h : ∀ k, k < c - 1 → li' k = if k < q then li k else li (k + 1)) : th (c - 1) li' y ↔ th c li y ∧ y ≠ li q := by
  unfold th
  constructor
  · rintro ⟨k, h1, h2⟩
    rw [h k h1] at h2
    split at h2
    · exact ⟨⟨k, by omega, h2⟩, fun e => by have := hi k q (by omega) hq (by rw [h2, e]); omega⟩
    · exact ⟨⟨k + 1, by omega, h2⟩, fun e => by have := hi (k + 1) q (by omega) hq (by rw [h2, e]); omega⟩
  · rintro ⟨⟨k, h1, h2⟩, h3⟩
    rcases Nat.lt_trichotomy k q with r | r | r
    · exact ⟨k, by omega, by rw [h k (by omega), if_pos r]; exact h2⟩
    · subst r; exact absurd h2.symm h3
    · exact ⟨k - 1, by omega, by rw [h (k - 1) (by omega), if_neg (by omega), show k - 1 + 1 = k by omega]; exact h2⟩
section W2
variable {σ : kS} {n c ar : Nat} {li fs sn : Nat → Nat}
theorem webAddNode_ok (h : Wb σ n c ar li fs sn) (hn : n < 300) (hc : c ≤ 900) (hg : 0 ≤ σ 1 5 ∧ σ 1 5 < 2147483647) :
    wpF F_Web_addNode [.inr (.inl 1)] σ (fun r s => r = some (.inl (n : Int)) ∧ (∀ o k, ¬ isWb o → s o k = σ o k) ∧ s 1 5 = σ 1 5 + 1 ∧ Wb s (n + 1) c ar li fs sn) := by
  obtain ⟨h1, h2, h3, h4, h5, h6, h7, Fo, So, Fi, Si, h8, h9, h10, h11⟩ := h
  unfold F_Web_addNode
  rw [wpF_kF]
  refine ⟨rfl, rfl, ?_⟩
  unfold s_Web_addNode
  simp only [List.map_cons, List.map_nil]
  refine wpS_seq' (fun Q101 hQ101 => ?_)
  simp only [wpS_skip, wpS_break, wpS_cont, wpS_retV, wpS_throw, wpS_seq, wpS_if, wpS_trunc, yS_let, yS_inc, kgK_i, kgK_r, kok_nil, kok_i0, kok_is, kok_r0, kok_rs, kok_n0, kok_ns, xS_put, xS_putOp, xS_ast0, xS_ast1, xS_astOp, wpS_E, wpS_call, wpS_callS, wpS_ret, kThen_N, kThen_B, kThen_C, kThen_R, kThen_T, kNext_N, kNext_C, kNext_B, kNext_R, wpE_K, wpE_KL, xE_I, xE_R, wpE_J, xE_bin, wpE_ladd, wpE_i2l, xE_get, xE_ald0, xE_ald1, wpE_if, xE_max, xE_min, wpE_len, wpA_nil, wpA_snoc, xE_call, xE_callS, xC_C, xC_L, xC_Z, wpC_and, wpC_or, wpC_not, wpC_if, kcmp_0, kcmp_1, kcmp_2, kcmp_3, kcmp_4, kcmp_5, rR_inj, kgO_some, kgO_add, kgO_sub, kgO_mul, kgO_div, kgO_rem, kgO_and, kvI_inl, kvJ_inl, kgI_0, kgI_s, kgR_0, kgR_s, kst_nil, kst_0, kst_s, kNLl_nil, kNLl_i, kNLl_r, kNLl_n, ktag_i, ktag_r, List.length_cons, List.length_nil, List.take_succ_cons, List.take_zero, List.take_nil, List.nil_append, List.cons_append, decide_eq_true_eq, Bool.not_eq_true, Bool.not_eq_true', decide_eq_false_iff_not, ne_eq, Decidable.not_not, true_and, and_true, Nat.reduceAdd, Nat.reduceLeDiff, Nat.reduceEqDiff, Nat.le_refl, not_true_eq_false, not_false_eq_true, reduceIte, eq_self, Int.reduceNeg, Int.reduceEq, Int.reduceLT, Int.reduceLE, Nat.zero_le, Nat.one_ne_zero, ev_web, ev_web_arr, h1]
  repeat refine And.intro (by omega) ?_
  rw [hQ101]
  clear hQ101 Q101
  refine kThen_N.mpr ?_
  refine wpS_seq' (fun Q102 hQ102 => ?_)
  simp only [wpS_skip, wpS_break, wpS_cont, wpS_retV, wpS_throw, wpS_seq, wpS_if, wpS_trunc, yS_let, yS_inc, kgK_i, kgK_r, kok_nil, kok_i0, kok_is, kok_r0, kok_rs, kok_n0, kok_ns, xS_put, xS_putOp, xS_ast0, xS_ast1, xS_astOp, wpS_E, wpS_call, wpS_callS, wpS_ret, kThen_N, kThen_B, kThen_C, kThen_R, kThen_T, kNext_N, kNext_C, kNext_B, kNext_R, wpE_K, wpE_KL, xE_I, xE_R, wpE_J, xE_bin, wpE_ladd, wpE_i2l, xE_get, xE_ald0, xE_ald1, wpE_if, xE_max, xE_min, wpE_len, wpA_nil, wpA_snoc, xE_call, xE_callS, xC_C, xC_L, xC_Z, wpC_and, wpC_or, wpC_not, wpC_if, kcmp_0, kcmp_1, kcmp_2, kcmp_3, kcmp_4, kcmp_5, rR_inj, kgO_some, kgO_add, kgO_sub, kgO_mul, kgO_div, kgO_rem, kgO_and, kvI_inl, kvJ_inl, kgI_0, kgI_s, kgR_0, kgR_s, kst_nil, kst_0, kst_s, kNLl_nil, kNLl_i, kNLl_r, kNLl_n, ktag_i, ktag_r, List.length_cons, List.length_nil, List.take_succ_cons, List.take_zero, List.take_nil, List.nil_append, List.cons_append, decide_eq_true_eq, Bool.not_eq_true, Bool.not_eq_true', decide_eq_false_iff_not, ne_eq, Decidable.not_not, true_and, and_true, Nat.reduceAdd, Nat.reduceLeDiff, Nat.reduceEqDiff, Nat.le_refl, not_true_eq_false, not_false_eq_true, reduceIte, eq_self, Int.reduceNeg, Int.reduceEq, Int.reduceLT, Int.reduceLE, Nat.zero_le, Nat.one_ne_zero, ev_web, ev_web_arr, ev_fout]
  refine (foutAddNode_ok h8 hn hc).mono ?_
  rintro r s1 ⟨rfl, a1, a2⟩
  refine ⟨rfl, ?_⟩
  rw [hQ102]
  clear hQ102
  refine kThen_N.mpr ?_
  refine wpS_seq' (fun Q103 hQ103 => ?_)
  simp only [wpS_skip, wpS_break, wpS_cont, wpS_retV, wpS_throw, wpS_seq, wpS_if, wpS_trunc, yS_let, yS_inc, kgK_i, kgK_r, kok_nil, kok_i0, kok_is, kok_r0, kok_rs, kok_n0, kok_ns, xS_put, xS_putOp, xS_ast0, xS_ast1, xS_astOp, wpS_E, wpS_call, wpS_callS, wpS_ret, kThen_N, kThen_B, kThen_C, kThen_R, kThen_T, kNext_N, kNext_C, kNext_B, kNext_R, wpE_K, wpE_KL, xE_I, xE_R, wpE_J, xE_bin, wpE_ladd, wpE_i2l, xE_get, xE_ald0, xE_ald1, wpE_if, xE_max, xE_min, wpE_len, wpA_nil, wpA_snoc, xE_call, xE_callS, xC_C, xC_L, xC_Z, wpC_and, wpC_or, wpC_not, wpC_if, kcmp_0, kcmp_1, kcmp_2, kcmp_3, kcmp_4, kcmp_5, rR_inj, kgO_some, kgO_add, kgO_sub, kgO_mul, kgO_div, kgO_rem, kgO_and, kvI_inl, kvJ_inl, kgI_0, kgI_s, kgR_0, kgR_s, kst_nil, kst_0, kst_s, kNLl_nil, kNLl_i, kNLl_r, kNLl_n, ktag_i, ktag_r, List.length_cons, List.length_nil, List.take_succ_cons, List.take_zero, List.take_nil, List.nil_append, List.cons_append, decide_eq_true_eq, Bool.not_eq_true, Bool.not_eq_true', decide_eq_false_iff_not, ne_eq, Decidable.not_not, true_and, and_true, Nat.reduceAdd, Nat.reduceLeDiff, Nat.reduceEqDiff, Nat.le_refl, not_true_eq_false, not_false_eq_true, reduceIte, eq_self, Int.reduceNeg, Int.reduceEq, Int.reduceLT, Int.reduceLE, Nat.zero_le, Nat.one_ne_zero, ev_web, ev_web_arr, ev_fin]
  refine (finAddNode_ok (h10.agree (fun k => a1 _ _ (by decide) (by decide)) (fun k => a1 _ _ (by decide) (by decide)) (fun k => a1 _ _ (by decide) (by decide))) hn hc).mono ?_
  rintro r s2 ⟨rfl, b1, b2⟩
  refine ⟨rfl, ?_⟩
  rw [hQ103]
  clear hQ103
  refine kThen_N.mpr ?_
  have e3 : s2 1 3 = n := by rw [b1 1 3 (by decide) (by decide), a1 1 3 (by decide) (by decide)]; exact h1
  have e5 : s2 1 5 = σ 1 5 := by rw [b1 1 5 (by decide) (by decide), a1 1 5 (by decide) (by decide)]
  refine wpS_seq' (fun Q104 hQ104 => ?_)
  simp only [wpS_skip, wpS_break, wpS_cont, wpS_retV, wpS_throw, wpS_seq, wpS_if, wpS_trunc, yS_let, yS_inc, kgK_i, kgK_r, kok_nil, kok_i0, kok_is, kok_r0, kok_rs, kok_n0, kok_ns, xS_put, xS_putOp, xS_ast0, xS_ast1, xS_astOp, wpS_E, wpS_call, wpS_callS, wpS_ret, kThen_N, kThen_B, kThen_C, kThen_R, kThen_T, kNext_N, kNext_C, kNext_B, kNext_R, wpE_K, wpE_KL, xE_I, xE_R, wpE_J, xE_bin, wpE_ladd, wpE_i2l, xE_get, xE_ald0, xE_ald1, wpE_if, xE_max, xE_min, wpE_len, wpA_nil, wpA_snoc, xE_call, xE_callS, xC_C, xC_L, xC_Z, wpC_and, wpC_or, wpC_not, wpC_if, kcmp_0, kcmp_1, kcmp_2, kcmp_3, kcmp_4, kcmp_5, rR_inj, kgO_some, kgO_add, kgO_sub, kgO_mul, kgO_div, kgO_rem, kgO_and, kvI_inl, kvJ_inl, kgI_0, kgI_s, kgR_0, kgR_s, kst_nil, kst_0, kst_s, kNLl_nil, kNLl_i, kNLl_r, kNLl_n, ktag_i, ktag_r, List.length_cons, List.length_nil, List.take_succ_cons, List.take_zero, List.take_nil, List.nil_append, List.cons_append, decide_eq_true_eq, Bool.not_eq_true, Bool.not_eq_true', decide_eq_false_iff_not, ne_eq, Decidable.not_not, true_and, and_true, Nat.reduceAdd, Nat.reduceLeDiff, Nat.reduceEqDiff, Nat.le_refl, not_true_eq_false, not_false_eq_true, reduceIte, eq_self, Int.reduceNeg, Int.reduceEq, Int.reduceLT, Int.reduceLE, Nat.zero_le, Nat.one_ne_zero, ev_web, ev_web_arr, e3]
  repeat refine And.intro (by omega) ?_
  rw [hQ104]
  clear hQ104 Q104
  refine kThen_N.mpr ?_
  have e5' : kup s2 1 3 ((n : Int) + 1) 1 5 = σ 1 5 := by rw [kup_eq, if_neg (by decide)]; exact e5
  refine wpS_seq' (fun Q105 hQ105 => ?_)
  simp only [wpS_skip, wpS_break, wpS_cont, wpS_retV, wpS_throw, wpS_seq, wpS_if, wpS_trunc, yS_let, yS_inc, kgK_i, kgK_r, kok_nil, kok_i0, kok_is, kok_r0, kok_rs, kok_n0, kok_ns, xS_put, xS_putOp, xS_ast0, xS_ast1, xS_astOp, wpS_E, wpS_call, wpS_callS, wpS_ret, kThen_N, kThen_B, kThen_C, kThen_R, kThen_T, kNext_N, kNext_C, kNext_B, kNext_R, wpE_K, wpE_KL, xE_I, xE_R, wpE_J, xE_bin, wpE_ladd, wpE_i2l, xE_get, xE_ald0, xE_ald1, wpE_if, xE_max, xE_min, wpE_len, wpA_nil, wpA_snoc, xE_call, xE_callS, xC_C, xC_L, xC_Z, wpC_and, wpC_or, wpC_not, wpC_if, kcmp_0, kcmp_1, kcmp_2, kcmp_3, kcmp_4, kcmp_5, rR_inj, kgO_some, kgO_add, kgO_sub, kgO_mul, kgO_div, kgO_rem, kgO_and, kvI_inl, kvJ_inl, kgI_0, kgI_s, kgR_0, kgR_s, kst_nil, kst_0, kst_s, kNLl_nil, kNLl_i, kNLl_r, kNLl_n, ktag_i, ktag_r, List.length_cons, List.length_nil, List.take_succ_cons, List.take_zero, List.take_nil, List.nil_append, List.cons_append, decide_eq_true_eq, Bool.not_eq_true, Bool.not_eq_true', decide_eq_false_iff_not, ne_eq, Decidable.not_not, true_and, and_true, Nat.reduceAdd, Nat.reduceLeDiff, Nat.reduceEqDiff, Nat.le_refl, not_true_eq_false, not_false_eq_true, reduceIte, eq_self, Int.reduceNeg, Int.reduceEq, Int.reduceLT, Int.reduceLE, Nat.zero_le, Nat.one_ne_zero, ev_web, ev_web_arr, e5']
  repeat refine And.intro (by omega) ?_
  rw [hQ105]
  clear hQ105 Q105
  refine kThen_N.mpr ?_
  refine wpS_gen (fun Q106 hQ106 => ?_)
  simp only [wpS_skip, wpS_break, wpS_cont, wpS_retV, wpS_throw, wpS_seq, wpS_if, wpS_trunc, yS_let, yS_inc, kgK_i, kgK_r, kok_nil, kok_i0, kok_is, kok_r0, kok_rs, kok_n0, kok_ns, xS_put, xS_putOp, xS_ast0, xS_ast1, xS_astOp, wpS_E, wpS_call, wpS_callS, wpS_ret, kThen_N, kThen_B, kThen_C, kThen_R, kThen_T, kNext_N, kNext_C, kNext_B, kNext_R, wpE_K, wpE_KL, xE_I, xE_R, wpE_J, xE_bin, wpE_ladd, wpE_i2l, xE_get, xE_ald0, xE_ald1, wpE_if, xE_max, xE_min, wpE_len, wpA_nil, wpA_snoc, xE_call, xE_callS, xC_C, xC_L, xC_Z, wpC_and, wpC_or, wpC_not, wpC_if, kcmp_0, kcmp_1, kcmp_2, kcmp_3, kcmp_4, kcmp_5, rR_inj, kgO_some, kgO_add, kgO_sub, kgO_mul, kgO_div, kgO_rem, kgO_and, kvI_inl, kvJ_inl, kgI_0, kgI_s, kgR_0, kgR_s, kst_nil, kst_0, kst_s, kNLl_nil, kNLl_i, kNLl_r, kNLl_n, ktag_i, ktag_r, List.length_cons, List.length_nil, List.take_succ_cons, List.take_zero, List.take_nil, List.nil_append, List.cons_append, decide_eq_true_eq, Bool.not_eq_true, Bool.not_eq_true', decide_eq_false_iff_not, ne_eq, Decidable.not_not, true_and, and_true, Nat.reduceAdd, Nat.reduceLeDiff, Nat.reduceEqDiff, Nat.le_refl, not_true_eq_false, not_false_eq_true, reduceIte, eq_self, Int.reduceNeg, Int.reduceEq, Int.reduceLT, Int.reduceLE, Nat.zero_le, Nat.one_ne_zero, ev_web]
  repeat refine And.intro (by omega) ?_
  rw [hQ106]
  clear hQ106 Q106
  refine ⟨_, rfl, rfl, ?_⟩
  have k2 : ∀ o k, o ≠ 2 → o ≠ 20 → o ≠ 3 → o ≠ 22 → s2 o k = σ o k := fun o k q1 q2 q3 q4 => by rw [b1 o k q3 q4, a1 o k q1 q2]
  obtain ⟨s3, hs3⟩ : ∃ s3, s3 = kup (kup s2 1 3 ((n : Int) + 1)) 1 5 (σ 1 5 + 1) := ⟨_, rfl⟩
  rw [← hs3]
  have k3 : ∀ o k, o ≠ 1 → s3 o k = s2 o k := by intro o k q; rw [hs3]; simp [kup, q]
  have k4 : ∀ k, k ≠ 3 → k ≠ 5 → s3 1 k = σ 1 k := by intro k q1 q2; rw [hs3]; simp [kup, q1, q2]; rw [b1 _ _ (by decide) (by decide), a1 _ _ (by decide) (by decide)]
  have k5 : s3 1 3 = n + 1 ∧ s3 1 5 = σ 1 5 + 1 := by rw [hs3]; simp [kup]
  refine ⟨rfl, fun o k ho => ?_, k5.2, ?_⟩
  · unfold isWb at ho
    rw [k3 o k (by omega), k2 o k (by omega) (by omega) (by omega) (by omega)]
  · refine ⟨by rw [k5.1]; omega, by rw [k4 _ (by decide) (by decide)]; exact h2, by rw [k4 _ (by decide) (by decide)]; exact h3, fun x => by rw [k3 _ _ (by decide), k2 _ _ (by decide) (by decide) (by decide) (by decide)]; exact h4 x,
      fun x => by rw [k3 _ _ (by decide), k2 _ _ (by decide) (by decide) (by decide) (by decide)]; exact h5 x, fun k hk => by rw [k3 _ _ (by decide), k2 _ _ (by decide) (by decide) (by decide) (by decide)]; exact h6 k hk,
      fun x hx => by rw [k3 _ _ (by decide), k2 _ _ (by decide) (by decide) (by decide) (by decide)]; exact h7 x hx, _, _, _, _, (a2.agree (fun k => b1 _ _ (by decide) (by decide)) (fun k => b1 _ _ (by decide) (by decide)) (fun k => b1 _ _ (by decide) (by decide))).agree (fun k => k3 _ _ (by decide)) (fun k => k3 _ _ (by decide)) (fun k => k3 _ _ (by decide)), fan_node h9, b2.agree (fun k => k3 _ _ (by decide)) (fun k => k3 _ _ (by decide)) (fun k => k3 _ _ (by decide)), fan_node h11⟩
theorem webAddArc_ok {a b : Nat} (h : Wb σ n c ar li fs sn) (hG : gOk n c ar li fs sn) (hc : c < 900) (har : ar < 5000) (ha : a < n) (hb : b < n) (hg : 0 ≤ σ 1 5 ∧ σ 1 5 < 2147483647) :
    wpF F_Web_addArc [.inr (.inl 1), .inl (a : Int), .inl (b : Int)] σ (fun r s => r = some (.inl (ar : Int)) ∧ (∀ o k, ¬ isWb o → s o k = σ o k) ∧ s 1 5 = σ 1 5 + 1 ∧
      Wb s n (c + 1) (ar + 1) (fun k => if k = c then ar else li k) (fun y => if y = ar then a else fs y) (fun y => if y = ar then b else sn y)) := by
  obtain ⟨h1, h2, h3, h4, h5, h6, h7, Fo, So, Fi, Si, h8, h9, h10, h11⟩ := h
  obtain ⟨g1, g2, g3, g4, g5⟩ := hG
  have lo := fun w (hw : w ≤ n) => fan_le h9 hw
  have ln := fun w (hw : w ≤ n) => fan_le h11 hw
  unfold F_Web_addArc
  rw [wpF_kF]
  refine ⟨rfl, rfl, ?_⟩
  unfold s_Web_addArc
  simp only [List.map_cons, List.map_nil]
  refine wpS_seq' (fun Q107 hQ107 => ?_)
  simp only [wpS_skip, wpS_break, wpS_cont, wpS_retV, wpS_throw, wpS_seq, wpS_if, wpS_trunc, yS_let, yS_inc, kgK_i, kgK_r, kok_nil, kok_i0, kok_is, kok_r0, kok_rs, kok_n0, kok_ns, xS_put, xS_putOp, xS_ast0, xS_ast1, xS_astOp, wpS_E, wpS_call, wpS_callS, wpS_ret, kThen_N, kThen_B, kThen_C, kThen_R, kThen_T, kNext_N, kNext_C, kNext_B, kNext_R, wpE_K, wpE_KL, xE_I, xE_R, wpE_J, xE_bin, wpE_ladd, wpE_i2l, xE_get, xE_ald0, xE_ald1, wpE_if, xE_max, xE_min, wpE_len, wpA_nil, wpA_snoc, xE_call, xE_callS, xC_C, xC_L, xC_Z, wpC_and, wpC_or, wpC_not, wpC_if, kcmp_0, kcmp_1, kcmp_2, kcmp_3, kcmp_4, kcmp_5, rR_inj, kgO_some, kgO_add, kgO_sub, kgO_mul, kgO_div, kgO_rem, kgO_and, kvI_inl, kvJ_inl, kgI_0, kgI_s, kgR_0, kgR_s, kst_nil, kst_0, kst_s, kNLl_nil, kNLl_i, kNLl_r, kNLl_n, ktag_i, ktag_r, List.length_cons, List.length_nil, List.take_succ_cons, List.take_zero, List.take_nil, List.nil_append, List.cons_append, decide_eq_true_eq, Bool.not_eq_true, Bool.not_eq_true', decide_eq_false_iff_not, ne_eq, Decidable.not_not, true_and, and_true, Nat.reduceAdd, Nat.reduceLeDiff, Nat.reduceEqDiff, Nat.le_refl, not_true_eq_false, not_false_eq_true, reduceIte, eq_self, Int.reduceNeg, Int.reduceEq, Int.reduceLT, Int.reduceLE, Nat.zero_le, Nat.one_ne_zero, ev_web, ev_web_arr, h3]
  repeat refine And.intro (by omega) ?_
  rw [hQ107]
  clear hQ107 Q107
  refine kThen_N.mpr ?_
  refine wpS_seq' (fun Q108 hQ108 => ?_)
  simp only [wpS_skip, wpS_break, wpS_cont, wpS_retV, wpS_throw, wpS_seq, wpS_if, wpS_trunc, yS_let, yS_inc, kgK_i, kgK_r, kok_nil, kok_i0, kok_is, kok_r0, kok_rs, kok_n0, kok_ns, xS_put, xS_putOp, xS_ast0, xS_ast1, xS_astOp, wpS_E, wpS_call, wpS_callS, wpS_ret, kThen_N, kThen_B, kThen_C, kThen_R, kThen_T, kNext_N, kNext_C, kNext_B, kNext_R, wpE_K, wpE_KL, xE_I, xE_R, wpE_J, xE_bin, wpE_ladd, wpE_i2l, xE_get, xE_ald0, xE_ald1, wpE_if, xE_max, xE_min, wpE_len, wpA_nil, wpA_snoc, xE_call, xE_callS, xC_C, xC_L, xC_Z, wpC_and, wpC_or, wpC_not, wpC_if, kcmp_0, kcmp_1, kcmp_2, kcmp_3, kcmp_4, kcmp_5, rR_inj, kgO_some, kgO_add, kgO_sub, kgO_mul, kgO_div, kgO_rem, kgO_and, kvI_inl, kvJ_inl, kgI_0, kgI_s, kgR_0, kgR_s, kst_nil, kst_0, kst_s, kNLl_nil, kNLl_i, kNLl_r, kNLl_n, ktag_i, ktag_r, List.length_cons, List.length_nil, List.take_succ_cons, List.take_zero, List.take_nil, List.nil_append, List.cons_append, decide_eq_true_eq, Bool.not_eq_true, Bool.not_eq_true', decide_eq_false_iff_not, ne_eq, Decidable.not_not, true_and, and_true, Nat.reduceAdd, Nat.reduceLeDiff, Nat.reduceEqDiff, Nat.le_refl, not_true_eq_false, not_false_eq_true, reduceIte, eq_self, Int.reduceNeg, Int.reduceEq, Int.reduceLT, Int.reduceLE, Nat.zero_le, Nat.one_ne_zero, ev_web, ev_web_arr, Int.toNat_natCast]
  repeat refine And.intro (by omega) ?_
  rw [hQ108]
  clear hQ108 Q108
  refine kThen_N.mpr ?_
  refine wpS_seq' (fun Q109 hQ109 => ?_)
  simp only [wpS_skip, wpS_break, wpS_cont, wpS_retV, wpS_throw, wpS_seq, wpS_if, wpS_trunc, yS_let, yS_inc, kgK_i, kgK_r, kok_nil, kok_i0, kok_is, kok_r0, kok_rs, kok_n0, kok_ns, xS_put, xS_putOp, xS_ast0, xS_ast1, xS_astOp, wpS_E, wpS_call, wpS_callS, wpS_ret, kThen_N, kThen_B, kThen_C, kThen_R, kThen_T, kNext_N, kNext_C, kNext_B, kNext_R, wpE_K, wpE_KL, xE_I, xE_R, wpE_J, xE_bin, wpE_ladd, wpE_i2l, xE_get, xE_ald0, xE_ald1, wpE_if, xE_max, xE_min, wpE_len, wpA_nil, wpA_snoc, xE_call, xE_callS, xC_C, xC_L, xC_Z, wpC_and, wpC_or, wpC_not, wpC_if, kcmp_0, kcmp_1, kcmp_2, kcmp_3, kcmp_4, kcmp_5, rR_inj, kgO_some, kgO_add, kgO_sub, kgO_mul, kgO_div, kgO_rem, kgO_and, kvI_inl, kvJ_inl, kgI_0, kgI_s, kgR_0, kgR_s, kst_nil, kst_0, kst_s, kNLl_nil, kNLl_i, kNLl_r, kNLl_n, ktag_i, ktag_r, List.length_cons, List.length_nil, List.take_succ_cons, List.take_zero, List.take_nil, List.nil_append, List.cons_append, decide_eq_true_eq, Bool.not_eq_true, Bool.not_eq_true', decide_eq_false_iff_not, ne_eq, Decidable.not_not, true_and, and_true, Nat.reduceAdd, Nat.reduceLeDiff, Nat.reduceEqDiff, Nat.le_refl, not_true_eq_false, not_false_eq_true, reduceIte, eq_self, Int.reduceNeg, Int.reduceEq, Int.reduceLT, Int.reduceLE, Nat.zero_le, Nat.one_ne_zero, ev_web, ev_web_arr, Int.toNat_natCast]
  repeat refine And.intro (by omega) ?_
  rw [hQ109]
  clear hQ109 Q109
  refine kThen_N.mpr ?_
  refine wpS_seq' (fun Q110 hQ110 => ?_)
  simp only [wpS_skip, wpS_break, wpS_cont, wpS_retV, wpS_throw, wpS_seq, wpS_if, wpS_trunc, yS_let, yS_inc, kgK_i, kgK_r, kok_nil, kok_i0, kok_is, kok_r0, kok_rs, kok_n0, kok_ns, xS_put, xS_putOp, xS_ast0, xS_ast1, xS_astOp, wpS_E, wpS_call, wpS_callS, wpS_ret, kThen_N, kThen_B, kThen_C, kThen_R, kThen_T, kNext_N, kNext_C, kNext_B, kNext_R, wpE_K, wpE_KL, xE_I, xE_R, wpE_J, xE_bin, wpE_ladd, wpE_i2l, xE_get, xE_ald0, xE_ald1, wpE_if, xE_max, xE_min, wpE_len, wpA_nil, wpA_snoc, xE_call, xE_callS, xC_C, xC_L, xC_Z, wpC_and, wpC_or, wpC_not, wpC_if, kcmp_0, kcmp_1, kcmp_2, kcmp_3, kcmp_4, kcmp_5, rR_inj, kgO_some, kgO_add, kgO_sub, kgO_mul, kgO_div, kgO_rem, kgO_and, kvI_inl, kvJ_inl, kgI_0, kgI_s, kgR_0, kgR_s, kst_nil, kst_0, kst_s, kNLl_nil, kNLl_i, kNLl_r, kNLl_n, ktag_i, ktag_r, List.length_cons, List.length_nil, List.take_succ_cons, List.take_zero, List.take_nil, List.nil_append, List.cons_append, decide_eq_true_eq, Bool.not_eq_true, Bool.not_eq_true', decide_eq_false_iff_not, ne_eq, Decidable.not_not, true_and, and_true, Nat.reduceAdd, Nat.reduceLeDiff, Nat.reduceEqDiff, Nat.le_refl, not_true_eq_false, not_false_eq_true, reduceIte, eq_self, Int.reduceNeg, Int.reduceEq, Int.reduceLT, Int.reduceLE, Nat.zero_le, Nat.one_ne_zero, ev_web, ev_web_arr, Int.toNat_natCast, or_true]
  repeat refine And.intro (by omega) ?_
  rw [hQ110]
  clear hQ110 Q110
  refine kThen_N.mpr ?_
  refine wpS_seq' (fun Q111 hQ111 => ?_)
  simp only [wpS_skip, wpS_break, wpS_cont, wpS_retV, wpS_throw, wpS_seq, wpS_if, wpS_trunc, yS_let, yS_inc, kgK_i, kgK_r, kok_nil, kok_i0, kok_is, kok_r0, kok_rs, kok_n0, kok_ns, xS_put, xS_putOp, xS_ast0, xS_ast1, xS_astOp, wpS_E, wpS_call, wpS_callS, wpS_ret, kThen_N, kThen_B, kThen_C, kThen_R, kThen_T, kNext_N, kNext_C, kNext_B, kNext_R, wpE_K, wpE_KL, xE_I, xE_R, wpE_J, xE_bin, wpE_ladd, wpE_i2l, xE_get, xE_ald0, xE_ald1, wpE_if, xE_max, xE_min, wpE_len, wpA_nil, wpA_snoc, xE_call, xE_callS, xC_C, xC_L, xC_Z, wpC_and, wpC_or, wpC_not, wpC_if, kcmp_0, kcmp_1, kcmp_2, kcmp_3, kcmp_4, kcmp_5, rR_inj, kgO_some, kgO_add, kgO_sub, kgO_mul, kgO_div, kgO_rem, kgO_and, kvI_inl, kvJ_inl, kgI_0, kgI_s, kgR_0, kgR_s, kst_nil, kst_0, kst_s, kNLl_nil, kNLl_i, kNLl_r, kNLl_n, ktag_i, ktag_r, List.length_cons, List.length_nil, List.take_succ_cons, List.take_zero, List.take_nil, List.nil_append, List.cons_append, decide_eq_true_eq, Bool.not_eq_true, Bool.not_eq_true', decide_eq_false_iff_not, ne_eq, Decidable.not_not, true_and, and_true, Nat.reduceAdd, Nat.reduceLeDiff, Nat.reduceEqDiff, Nat.le_refl, not_true_eq_false, not_false_eq_true, reduceIte, eq_self, Int.reduceNeg, Int.reduceEq, Int.reduceLT, Int.reduceLE, Nat.zero_le, Nat.one_ne_zero, ev_web, ev_web_arr, Int.toNat_natCast, h2, kup_ne, ne_eq, Nat.reduceEqDiff, not_false_eq_true, not_true_eq_false]
  repeat refine And.intro (by omega) ?_
  rw [hQ111]
  clear hQ111 Q111
  refine kThen_N.mpr ?_
  obtain ⟨s1, hs1⟩ : ∃ s1, s1 = kup (kup (kup (kup σ 15 ar (a : Int)) 16 ar (b : Int)) 18 ar 1) 17 c (ar : Int) := ⟨_, rfl⟩
  rw [← hs1]
  have k1 : ∀ o k, o ≠ 15 → o ≠ 16 → o ≠ 17 → o ≠ 18 → s1 o k = σ o k := by intro o k q1 q2 q3 q4; rw [hs1, kup_ne q3, kup_ne q4, kup_ne q2, kup_ne q1]
  have j1 : ∀ x, s1 15 x = ((if x = ar then a else fs x : Nat) : Int) := by intro x; rw [hs1]; by_cases e : x = ar <;> simp [kup, e, h4]
  have j2 : ∀ x, s1 16 x = ((if x = ar then b else sn x : Nat) : Int) := by intro x; rw [hs1]; by_cases e : x = ar <;> simp [kup, e, h5]
  have j3 : ∀ k, k < c + 1 → s1 17 k = ((if k = c then ar else li k : Nat) : Int) := by
    intro k hk; rw [hs1]; by_cases e : k = c
    · simp [kup, e]
    · simp [kup, e]; exact h6 k (by omega)
  have j4 : ∀ x, s1 18 x = if x = ar then 1 else σ 18 x := by intro x; rw [hs1]; simp [kup]
  clear hs1
  refine wpS_seq' (fun Q112 hQ112 => ?_)
  simp only [wpS_skip, wpS_break, wpS_cont, wpS_retV, wpS_throw, wpS_seq, wpS_if, wpS_trunc, yS_let, yS_inc, kgK_i, kgK_r, kok_nil, kok_i0, kok_is, kok_r0, kok_rs, kok_n0, kok_ns, xS_put, xS_putOp, xS_ast0, xS_ast1, xS_astOp, wpS_E, wpS_call, wpS_callS, wpS_ret, kThen_N, kThen_B, kThen_C, kThen_R, kThen_T, kNext_N, kNext_C, kNext_B, kNext_R, wpE_K, wpE_KL, xE_I, xE_R, wpE_J, xE_bin, wpE_ladd, wpE_i2l, xE_get, xE_ald0, xE_ald1, wpE_if, xE_max, xE_min, wpE_len, wpA_nil, wpA_snoc, xE_call, xE_callS, xC_C, xC_L, xC_Z, wpC_and, wpC_or, wpC_not, wpC_if, kcmp_0, kcmp_1, kcmp_2, kcmp_3, kcmp_4, kcmp_5, rR_inj, kgO_some, kgO_add, kgO_sub, kgO_mul, kgO_div, kgO_rem, kgO_and, kvI_inl, kvJ_inl, kgI_0, kgI_s, kgR_0, kgR_s, kst_nil, kst_0, kst_s, kNLl_nil, kNLl_i, kNLl_r, kNLl_n, ktag_i, ktag_r, List.length_cons, List.length_nil, List.take_succ_cons, List.take_zero, List.take_nil, List.nil_append, List.cons_append, decide_eq_true_eq, Bool.not_eq_true, Bool.not_eq_true', decide_eq_false_iff_not, ne_eq, Decidable.not_not, true_and, and_true, Nat.reduceAdd, Nat.reduceLeDiff, Nat.reduceEqDiff, Nat.le_refl, not_true_eq_false, not_false_eq_true, reduceIte, eq_self, Int.reduceNeg, Int.reduceEq, Int.reduceLT, Int.reduceLE, Nat.zero_le, Nat.one_ne_zero, ev_web, ev_web_arr, ev_fout]
  refine (foutAddArc_ok (h8.agree (fun k => k1 _ _ (by decide) (by decide) (by decide) (by decide)) (fun k => k1 _ _ (by decide) (by decide) (by decide) (by decide)) (fun k => k1 _ _ (by decide) (by decide) (by decide) (by decide))) g1 hc ha (lo _ (by omega)) lo).mono ?_
  rintro r s2 ⟨rfl, a1, a2⟩
  refine ⟨rfl, ?_⟩
  rw [hQ112]
  clear hQ112
  refine kThen_N.mpr ?_
  refine wpS_seq' (fun Q113 hQ113 => ?_)
  simp only [wpS_skip, wpS_break, wpS_cont, wpS_retV, wpS_throw, wpS_seq, wpS_if, wpS_trunc, yS_let, yS_inc, kgK_i, kgK_r, kok_nil, kok_i0, kok_is, kok_r0, kok_rs, kok_n0, kok_ns, xS_put, xS_putOp, xS_ast0, xS_ast1, xS_astOp, wpS_E, wpS_call, wpS_callS, wpS_ret, kThen_N, kThen_B, kThen_C, kThen_R, kThen_T, kNext_N, kNext_C, kNext_B, kNext_R, wpE_K, wpE_KL, xE_I, xE_R, wpE_J, xE_bin, wpE_ladd, wpE_i2l, xE_get, xE_ald0, xE_ald1, wpE_if, xE_max, xE_min, wpE_len, wpA_nil, wpA_snoc, xE_call, xE_callS, xC_C, xC_L, xC_Z, wpC_and, wpC_or, wpC_not, wpC_if, kcmp_0, kcmp_1, kcmp_2, kcmp_3, kcmp_4, kcmp_5, rR_inj, kgO_some, kgO_add, kgO_sub, kgO_mul, kgO_div, kgO_rem, kgO_and, kvI_inl, kvJ_inl, kgI_0, kgI_s, kgR_0, kgR_s, kst_nil, kst_0, kst_s, kNLl_nil, kNLl_i, kNLl_r, kNLl_n, ktag_i, ktag_r, List.length_cons, List.length_nil, List.take_succ_cons, List.take_zero, List.take_nil, List.nil_append, List.cons_append, decide_eq_true_eq, Bool.not_eq_true, Bool.not_eq_true', decide_eq_false_iff_not, ne_eq, Decidable.not_not, true_and, and_true, Nat.reduceAdd, Nat.reduceLeDiff, Nat.reduceEqDiff, Nat.le_refl, not_true_eq_false, not_false_eq_true, reduceIte, eq_self, Int.reduceNeg, Int.reduceEq, Int.reduceLT, Int.reduceLE, Nat.zero_le, Nat.one_ne_zero, ev_web, ev_web_arr, ev_fin]
  refine (finAddArc_ok ((h10.agree (fun k => k1 _ _ (by decide) (by decide) (by decide) (by decide)) (fun k => k1 _ _ (by decide) (by decide) (by decide) (by decide)) (fun k => k1 _ _ (by decide) (by decide) (by decide) (by decide))).agree (fun k => a1 _ _ (by decide) (by decide) (by decide)) (fun k => a1 _ _ (by decide) (by decide) (by decide)) (fun k => a1 _ _ (by decide) (by decide) (by decide))) g1 hc hb (ln _ (by omega)) ln).mono ?_
  rintro r s3 ⟨rfl, b1, b2⟩
  refine ⟨rfl, ?_⟩
  rw [hQ113]
  clear hQ113
  refine kThen_N.mpr ?_
  have k3 : ∀ o k, ¬ (o = 2 ∨ o = 19 ∨ o = 20 ∨ o = 3 ∨ o = 21 ∨ o = 22) → s3 o k = s1 o k := fun o k q => by rw [b1 o k (by omega) (by omega) (by omega), a1 o k (by omega) (by omega) (by omega)]
  have e9 : s3 1 9 = ar := by rw [k3 _ _ (by omega), k1 _ _ (by decide) (by decide) (by decide) (by decide)]; exact h3
  have e4 : s3 1 4 = c := by rw [k3 _ _ (by omega), k1 _ _ (by decide) (by decide) (by decide) (by decide)]; exact h2
  have e5 : s3 1 5 = σ 1 5 := by rw [k3 _ _ (by omega), k1 _ _ (by decide) (by decide) (by decide) (by decide)]
  refine wpS_seq' (fun Q114 hQ114 => ?_)
  simp only [wpS_skip, wpS_break, wpS_cont, wpS_retV, wpS_throw, wpS_seq, wpS_if, wpS_trunc, yS_let, yS_inc, kgK_i, kgK_r, kok_nil, kok_i0, kok_is, kok_r0, kok_rs, kok_n0, kok_ns, xS_put, xS_putOp, xS_ast0, xS_ast1, xS_astOp, wpS_E, wpS_call, wpS_callS, wpS_ret, kThen_N, kThen_B, kThen_C, kThen_R, kThen_T, kNext_N, kNext_C, kNext_B, kNext_R, wpE_K, wpE_KL, xE_I, xE_R, wpE_J, xE_bin, wpE_ladd, wpE_i2l, xE_get, xE_ald0, xE_ald1, wpE_if, xE_max, xE_min, wpE_len, wpA_nil, wpA_snoc, xE_call, xE_callS, xC_C, xC_L, xC_Z, wpC_and, wpC_or, wpC_not, wpC_if, kcmp_0, kcmp_1, kcmp_2, kcmp_3, kcmp_4, kcmp_5, rR_inj, kgO_some, kgO_add, kgO_sub, kgO_mul, kgO_div, kgO_rem, kgO_and, kvI_inl, kvJ_inl, kgI_0, kgI_s, kgR_0, kgR_s, kst_nil, kst_0, kst_s, kNLl_nil, kNLl_i, kNLl_r, kNLl_n, ktag_i, ktag_r, List.length_cons, List.length_nil, List.take_succ_cons, List.take_zero, List.take_nil, List.nil_append, List.cons_append, decide_eq_true_eq, Bool.not_eq_true, Bool.not_eq_true', decide_eq_false_iff_not, ne_eq, Decidable.not_not, true_and, and_true, Nat.reduceAdd, Nat.reduceLeDiff, Nat.reduceEqDiff, Nat.le_refl, not_true_eq_false, not_false_eq_true, reduceIte, eq_self, Int.reduceNeg, Int.reduceEq, Int.reduceLT, Int.reduceLE, Nat.zero_le, Nat.one_ne_zero, ev_web, ev_web_arr, e9]
  repeat refine And.intro (by omega) ?_
  rw [hQ114]
  clear hQ114 Q114
  refine kThen_N.mpr ?_
  have e4' : kup s3 1 9 ((ar : Int) + 1) 1 4 = c := by rw [kup_eq, if_neg (by decide)]; exact e4
  refine wpS_seq' (fun Q115 hQ115 => ?_)
  simp only [wpS_skip, wpS_break, wpS_cont, wpS_retV, wpS_throw, wpS_seq, wpS_if, wpS_trunc, yS_let, yS_inc, kgK_i, kgK_r, kok_nil, kok_i0, kok_is, kok_r0, kok_rs, kok_n0, kok_ns, xS_put, xS_putOp, xS_ast0, xS_ast1, xS_astOp, wpS_E, wpS_call, wpS_callS, wpS_ret, kThen_N, kThen_B, kThen_C, kThen_R, kThen_T, kNext_N, kNext_C, kNext_B, kNext_R, wpE_K, wpE_KL, xE_I, xE_R, wpE_J, xE_bin, wpE_ladd, wpE_i2l, xE_get, xE_ald0, xE_ald1, wpE_if, xE_max, xE_min, wpE_len, wpA_nil, wpA_snoc, xE_call, xE_callS, xC_C, xC_L, xC_Z, wpC_and, wpC_or, wpC_not, wpC_if, kcmp_0, kcmp_1, kcmp_2, kcmp_3, kcmp_4, kcmp_5, rR_inj, kgO_some, kgO_add, kgO_sub, kgO_mul, kgO_div, kgO_rem, kgO_and, kvI_inl, kvJ_inl, kgI_0, kgI_s, kgR_0, kgR_s, kst_nil, kst_0, kst_s, kNLl_nil, kNLl_i, kNLl_r, kNLl_n, ktag_i, ktag_r, List.length_cons, List.length_nil, List.take_succ_cons, List.take_zero, List.take_nil, List.nil_append, List.cons_append, decide_eq_true_eq, Bool.not_eq_true, Bool.not_eq_true', decide_eq_false_iff_not, ne_eq, Decidable.not_not, true_and, and_true, Nat.reduceAdd, Nat.reduceLeDiff, Nat.reduceEqDiff, Nat.le_refl, not_true_eq_false, not_false_eq_true, reduceIte, eq_self, Int.reduceNeg, Int.reduceEq, Int.reduceLT, Int.reduceLE, Nat.zero_le, Nat.one_ne_zero, ev_web, ev_web_arr, e4']
  repeat refine And.intro (by omega) ?_
  rw [hQ115]
  clear hQ115 Q115
  refine kThen_N.mpr ?_
  have e5' : kup (kup s3 1 9 ((ar : Int) + 1)) 1 4 ((c : Int) + 1) 1 5 = σ 1 5 := by rw [kup_eq, if_neg (by decide), kup_eq, if_neg (by decide)]; exact e5
  refine wpS_seq' (fun Q116 hQ116 => ?_)
  simp only [wpS_skip, wpS_break, wpS_cont, wpS_retV, wpS_throw, wpS_seq, wpS_if, wpS_trunc, yS_let, yS_inc, kgK_i, kgK_r, kok_nil, kok_i0, kok_is, kok_r0, kok_rs, kok_n0, kok_ns, xS_put, xS_putOp, xS_ast0, xS_ast1, xS_astOp, wpS_E, wpS_call, wpS_callS, wpS_ret, kThen_N, kThen_B, kThen_C, kThen_R, kThen_T, kNext_N, kNext_C, kNext_B, kNext_R, wpE_K, wpE_KL, xE_I, xE_R, wpE_J, xE_bin, wpE_ladd, wpE_i2l, xE_get, xE_ald0, xE_ald1, wpE_if, xE_max, xE_min, wpE_len, wpA_nil, wpA_snoc, xE_call, xE_callS, xC_C, xC_L, xC_Z, wpC_and, wpC_or, wpC_not, wpC_if, kcmp_0, kcmp_1, kcmp_2, kcmp_3, kcmp_4, kcmp_5, rR_inj, kgO_some, kgO_add, kgO_sub, kgO_mul, kgO_div, kgO_rem, kgO_and, kvI_inl, kvJ_inl, kgI_0, kgI_s, kgR_0, kgR_s, kst_nil, kst_0, kst_s, kNLl_nil, kNLl_i, kNLl_r, kNLl_n, ktag_i, ktag_r, List.length_cons, List.length_nil, List.take_succ_cons, List.take_zero, List.take_nil, List.nil_append, List.cons_append, decide_eq_true_eq, Bool.not_eq_true, Bool.not_eq_true', decide_eq_false_iff_not, ne_eq, Decidable.not_not, true_and, and_true, Nat.reduceAdd, Nat.reduceLeDiff, Nat.reduceEqDiff, Nat.le_refl, not_true_eq_false, not_false_eq_true, reduceIte, eq_self, Int.reduceNeg, Int.reduceEq, Int.reduceLT, Int.reduceLE, Nat.zero_le, Nat.one_ne_zero, ev_web, ev_web_arr, e5']
  repeat refine And.intro (by omega) ?_
  rw [hQ116]
  clear hQ116 Q116
  refine kThen_N.mpr ?_
  refine wpS_gen (fun Q117 hQ117 => ?_)
  simp only [wpS_skip, wpS_break, wpS_cont, wpS_retV, wpS_throw, wpS_seq, wpS_if, wpS_trunc, yS_let, yS_inc, kgK_i, kgK_r, kok_nil, kok_i0, kok_is, kok_r0, kok_rs, kok_n0, kok_ns, xS_put, xS_putOp, xS_ast0, xS_ast1, xS_astOp, wpS_E, wpS_call, wpS_callS, wpS_ret, kThen_N, kThen_B, kThen_C, kThen_R, kThen_T, kNext_N, kNext_C, kNext_B, kNext_R, wpE_K, wpE_KL, xE_I, xE_R, wpE_J, xE_bin, wpE_ladd, wpE_i2l, xE_get, xE_ald0, xE_ald1, wpE_if, xE_max, xE_min, wpE_len, wpA_nil, wpA_snoc, xE_call, xE_callS, xC_C, xC_L, xC_Z, wpC_and, wpC_or, wpC_not, wpC_if, kcmp_0, kcmp_1, kcmp_2, kcmp_3, kcmp_4, kcmp_5, rR_inj, kgO_some, kgO_add, kgO_sub, kgO_mul, kgO_div, kgO_rem, kgO_and, kvI_inl, kvJ_inl, kgI_0, kgI_s, kgR_0, kgR_s, kst_nil, kst_0, kst_s, kNLl_nil, kNLl_i, kNLl_r, kNLl_n, ktag_i, ktag_r, List.length_cons, List.length_nil, List.take_succ_cons, List.take_zero, List.take_nil, List.nil_append, List.cons_append, decide_eq_true_eq, Bool.not_eq_true, Bool.not_eq_true', decide_eq_false_iff_not, ne_eq, Decidable.not_not, true_and, and_true, Nat.reduceAdd, Nat.reduceLeDiff, Nat.reduceEqDiff, Nat.le_refl, not_true_eq_false, not_false_eq_true, reduceIte, eq_self, Int.reduceNeg, Int.reduceEq, Int.reduceLT, Int.reduceLE, Nat.zero_le, Nat.one_ne_zero, ev_web]
  repeat refine And.intro (by omega) ?_
  rw [hQ117]
  clear hQ117 Q117
  refine ⟨_, rfl, rfl, ?_⟩
  obtain ⟨s4, hs4⟩ : ∃ s4, s4 = kup (kup (kup s3 1 9 ((ar : Int) + 1)) 1 4 ((c : Int) + 1)) 1 5 (σ 1 5 + 1) := ⟨_, rfl⟩
  rw [← hs4]
  have k4 : ∀ o k, o ≠ 1 → s4 o k = s3 o k := by intro o k q; rw [hs4]; simp [kup, q]
  have k5 : s4 1 3 = s3 1 3 ∧ s4 1 9 = ar + 1 ∧ s4 1 4 = c + 1 ∧ s4 1 5 = σ 1 5 + 1 := by rw [hs4]; simp [kup]
  refine ⟨rfl, fun o k ho => ?_, k5.2.2.2, ?_⟩
  · unfold isWb at ho
    rw [k4 o k (by omega), k3 o k (by omega), k1 o k (by omega) (by omega) (by omega) (by omega)]
  · have hlx : ∀ k, k < c → li k < ar := fun k hk => (g4 k hk).1
    refine ⟨by rw [k5.1, k3 _ _ (by omega), k1 _ _ (by decide) (by decide) (by decide) (by decide)]; exact h1, by rw [k5.2.2.1]; omega, by rw [k5.2.1]; omega, fun x => by rw [k4 _ _ (by decide), k3 _ _ (by omega)]; exact j1 x,
      fun x => by rw [k4 _ _ (by decide), k3 _ _ (by omega)]; exact j2 x, fun k hk => by rw [k4 _ _ (by decide), k3 _ _ (by omega)]; exact j3 k hk,
      fun x hx => ?_, _, _, _, _, (a2.agree (fun k => b1 _ _ (by decide) (by decide) (by decide)) (fun k => b1 _ _ (by decide) (by decide) (by decide)) (fun k => b1 _ _ (by decide) (by decide) (by decide))).agree (fun k => k4 _ _ (by decide)) (fun k => k4 _ _ (by decide)) (fun k => k4 _ _ (by decide)), ?_, b2.agree (fun k => k4 _ _ (by decide)) (fun k => k4 _ _ (by decide)) (fun k => k4 _ _ (by decide)), ?_⟩
    · rw [k4 _ _ (by decide), k3 _ _ (by omega), j4]
      rw [th_add]
      by_cases e : x = ar
      · subst e
        simp
      · rw [if_neg e]
        obtain ⟨m1, m2⟩ := h7 x (by omega)
        exact ⟨m1, m2.trans (by grind)⟩
    · have := fan_add (x := ar) (li' := fun k => if k = c then ar else li k) (key' := fun y => if y = ar then a else fs y) h9 (by simpa using ha) hlx (fun k => rfl) (fun y hy => by simp [hy])
      simpa using this
    · have := fan_add (x := ar) (li' := fun k => if k = c then ar else li k) (key' := fun y => if y = ar then b else sn y) h11 (by simpa using hb) hlx (fun k => rfl) (fun y hy => by simp [hy])
      simpa using this
theorem webEmpty_ok (h : Wb σ n c ar li fs sn) (hG : gOk n c ar li fs sn) (hg : 0 ≤ σ 1 5 ∧ σ 1 5 < 2147483647) (hz : σ 20 0 = 0 ∧ σ 22 0 = 0) :
    wpF F_Web_empty [.inr (.inl 1)] σ (fun r s => r = none ∧ (∀ o k, ¬ isWb o → s o k = σ o k) ∧ s 1 5 = σ 1 5 + 1 ∧ Wb s 0 0 0 li fs sn) := by
  obtain ⟨h1, h2, h3, h4, h5, h6, h7, Fo, So, Fi, Si, h8, h9, h10, h11⟩ := h
  unfold F_Web_empty
  rw [wpF_kF]
  refine ⟨rfl, rfl, ?_⟩
  unfold s_Web_empty
  simp only [List.map_cons, List.map_nil]
  refine wpS_seq' (fun Q0 hQ0 => ?_)
  refine wpS_seq' (fun Q118 hQ118 => ?_)
  simp only [wpS_skip, wpS_break, wpS_cont, wpS_retV, wpS_throw, wpS_seq, wpS_if, wpS_trunc, yS_let, yS_inc, kgK_i, kgK_r, kok_nil, kok_i0, kok_is, kok_r0, kok_rs, kok_n0, kok_ns, xS_put, xS_putOp, xS_ast0, xS_ast1, xS_astOp, wpS_E, wpS_call, wpS_callS, wpS_ret, kThen_N, kThen_B, kThen_C, kThen_R, kThen_T, kNext_N, kNext_C, kNext_B, kNext_R, wpE_K, wpE_KL, xE_I, xE_R, wpE_J, xE_bin, wpE_ladd, wpE_i2l, xE_get, xE_ald0, xE_ald1, wpE_if, xE_max, xE_min, wpE_len, wpA_nil, wpA_snoc, xE_call, xE_callS, xC_C, xC_L, xC_Z, wpC_and, wpC_or, wpC_not, wpC_if, kcmp_0, kcmp_1, kcmp_2, kcmp_3, kcmp_4, kcmp_5, rR_inj, kgO_some, kgO_add, kgO_sub, kgO_mul, kgO_div, kgO_rem, kgO_and, kvI_inl, kvJ_inl, kgI_0, kgI_s, kgR_0, kgR_s, kst_nil, kst_0, kst_s, kNLl_nil, kNLl_i, kNLl_r, kNLl_n, ktag_i, ktag_r, List.length_cons, List.length_nil, List.take_succ_cons, List.take_zero, List.take_nil, List.nil_append, List.cons_append, decide_eq_true_eq, Bool.not_eq_true, Bool.not_eq_true', decide_eq_false_iff_not, ne_eq, Decidable.not_not, true_and, and_true, Nat.reduceAdd, Nat.reduceLeDiff, Nat.reduceEqDiff, Nat.le_refl, not_true_eq_false, not_false_eq_true, reduceIte, eq_self, Int.reduceNeg, Int.reduceEq, Int.reduceLT, Int.reduceLE, Nat.zero_le, Nat.one_ne_zero, ev_web]
  repeat refine And.intro (by omega) ?_
  rw [hQ118]
  clear hQ118 Q118
  refine kThen_N.mpr ?_
  refine wpS_seq' (fun Q119 hQ119 => ?_)
  simp only [wpS_skip, wpS_break, wpS_cont, wpS_retV, wpS_throw, wpS_seq, wpS_if, wpS_trunc, yS_let, yS_inc, kgK_i, kgK_r, kok_nil, kok_i0, kok_is, kok_r0, kok_rs, kok_n0, kok_ns, xS_put, xS_putOp, xS_ast0, xS_ast1, xS_astOp, wpS_E, wpS_call, wpS_callS, wpS_ret, kThen_N, kThen_B, kThen_C, kThen_R, kThen_T, kNext_N, kNext_C, kNext_B, kNext_R, wpE_K, wpE_KL, xE_I, xE_R, wpE_J, xE_bin, wpE_ladd, wpE_i2l, xE_get, xE_ald0, xE_ald1, wpE_if, xE_max, xE_min, wpE_len, wpA_nil, wpA_snoc, xE_call, xE_callS, xC_C, xC_L, xC_Z, wpC_and, wpC_or, wpC_not, wpC_if, kcmp_0, kcmp_1, kcmp_2, kcmp_3, kcmp_4, kcmp_5, rR_inj, kgO_some, kgO_add, kgO_sub, kgO_mul, kgO_div, kgO_rem, kgO_and, kvI_inl, kvJ_inl, kgI_0, kgI_s, kgR_0, kgR_s, kst_nil, kst_0, kst_s, kNLl_nil, kNLl_i, kNLl_r, kNLl_n, ktag_i, ktag_r, List.length_cons, List.length_nil, List.take_succ_cons, List.take_zero, List.take_nil, List.nil_append, List.cons_append, decide_eq_true_eq, Bool.not_eq_true, Bool.not_eq_true', decide_eq_false_iff_not, ne_eq, Decidable.not_not, true_and, and_true, Nat.reduceAdd, Nat.reduceLeDiff, Nat.reduceEqDiff, Nat.le_refl, not_true_eq_false, not_false_eq_true, reduceIte, eq_self, Int.reduceNeg, Int.reduceEq, Int.reduceLT, Int.reduceLE, Nat.zero_le, Nat.one_ne_zero, ev_web]
  repeat refine And.intro (by omega) ?_
  rw [hQ119]
  clear hQ119 Q119
  refine kThen_N.mpr ?_
  refine wpS_seq' (fun Q120 hQ120 => ?_)
  simp only [wpS_skip, wpS_break, wpS_cont, wpS_retV, wpS_throw, wpS_seq, wpS_if, wpS_trunc, yS_let, yS_inc, kgK_i, kgK_r, kok_nil, kok_i0, kok_is, kok_r0, kok_rs, kok_n0, kok_ns, xS_put, xS_putOp, xS_ast0, xS_ast1, xS_astOp, wpS_E, wpS_call, wpS_callS, wpS_ret, kThen_N, kThen_B, kThen_C, kThen_R, kThen_T, kNext_N, kNext_C, kNext_B, kNext_R, wpE_K, wpE_KL, xE_I, xE_R, wpE_J, xE_bin, wpE_ladd, wpE_i2l, xE_get, xE_ald0, xE_ald1, wpE_if, xE_max, xE_min, wpE_len, wpA_nil, wpA_snoc, xE_call, xE_callS, xC_C, xC_L, xC_Z, wpC_and, wpC_or, wpC_not, wpC_if, kcmp_0, kcmp_1, kcmp_2, kcmp_3, kcmp_4, kcmp_5, rR_inj, kgO_some, kgO_add, kgO_sub, kgO_mul, kgO_div, kgO_rem, kgO_and, kvI_inl, kvJ_inl, kgI_0, kgI_s, kgR_0, kgR_s, kst_nil, kst_0, kst_s, kNLl_nil, kNLl_i, kNLl_r, kNLl_n, ktag_i, ktag_r, List.length_cons, List.length_nil, List.take_succ_cons, List.take_zero, List.take_nil, List.nil_append, List.cons_append, decide_eq_true_eq, Bool.not_eq_true, Bool.not_eq_true', decide_eq_false_iff_not, ne_eq, Decidable.not_not, true_and, and_true, Nat.reduceAdd, Nat.reduceLeDiff, Nat.reduceEqDiff, Nat.le_refl, not_true_eq_false, not_false_eq_true, reduceIte, eq_self, Int.reduceNeg, Int.reduceEq, Int.reduceLT, Int.reduceLE, Nat.zero_le, Nat.one_ne_zero, ev_web]
  repeat refine And.intro (by omega) ?_
  rw [hQ120]
  clear hQ120 Q120
  refine kThen_N.mpr ?_
  refine wpS_seq' (fun Q121 hQ121 => ?_)
  simp only [wpS_skip, wpS_break, wpS_cont, wpS_retV, wpS_throw, wpS_seq, wpS_if, wpS_trunc, yS_let, yS_inc, kgK_i, kgK_r, kok_nil, kok_i0, kok_is, kok_r0, kok_rs, kok_n0, kok_ns, xS_put, xS_putOp, xS_ast0, xS_ast1, xS_astOp, wpS_E, wpS_call, wpS_callS, wpS_ret, kThen_N, kThen_B, kThen_C, kThen_R, kThen_T, kNext_N, kNext_C, kNext_B, kNext_R, wpE_K, wpE_KL, xE_I, xE_R, wpE_J, xE_bin, wpE_ladd, wpE_i2l, xE_get, xE_ald0, xE_ald1, wpE_if, xE_max, xE_min, wpE_len, wpA_nil, wpA_snoc, xE_call, xE_callS, xC_C, xC_L, xC_Z, wpC_and, wpC_or, wpC_not, wpC_if, kcmp_0, kcmp_1, kcmp_2, kcmp_3, kcmp_4, kcmp_5, rR_inj, kgO_some, kgO_add, kgO_sub, kgO_mul, kgO_div, kgO_rem, kgO_and, kvI_inl, kvJ_inl, kgI_0, kgI_s, kgR_0, kgR_s, kst_nil, kst_0, kst_s, kNLl_nil, kNLl_i, kNLl_r, kNLl_n, ktag_i, ktag_r, List.length_cons, List.length_nil, List.take_succ_cons, List.take_zero, List.take_nil, List.nil_append, List.cons_append, decide_eq_true_eq, Bool.not_eq_true, Bool.not_eq_true', decide_eq_false_iff_not, ne_eq, Decidable.not_not, true_and, and_true, Nat.reduceAdd, Nat.reduceLeDiff, Nat.reduceEqDiff, Nat.le_refl, not_true_eq_false, not_false_eq_true, reduceIte, eq_self, Int.reduceNeg, Int.reduceEq, Int.reduceLT, Int.reduceLE, Nat.zero_le, Nat.one_ne_zero, ev_web, ev_fout]
  refine foutEmpty_ok.mono ?_
  rintro r s1 ⟨rfl, a1, a2, a3⟩
  refine ⟨rfl, ?_⟩
  rw [hQ121]
  clear hQ121
  refine kThen_N.mpr ?_
  refine wpS_seq' (fun Q122 hQ122 => ?_)
  simp only [wpS_skip, wpS_break, wpS_cont, wpS_retV, wpS_throw, wpS_seq, wpS_if, wpS_trunc, yS_let, yS_inc, kgK_i, kgK_r, kok_nil, kok_i0, kok_is, kok_r0, kok_rs, kok_n0, kok_ns, xS_put, xS_putOp, xS_ast0, xS_ast1, xS_astOp, wpS_E, wpS_call, wpS_callS, wpS_ret, kThen_N, kThen_B, kThen_C, kThen_R, kThen_T, kNext_N, kNext_C, kNext_B, kNext_R, wpE_K, wpE_KL, xE_I, xE_R, wpE_J, xE_bin, wpE_ladd, wpE_i2l, xE_get, xE_ald0, xE_ald1, wpE_if, xE_max, xE_min, wpE_len, wpA_nil, wpA_snoc, xE_call, xE_callS, xC_C, xC_L, xC_Z, wpC_and, wpC_or, wpC_not, wpC_if, kcmp_0, kcmp_1, kcmp_2, kcmp_3, kcmp_4, kcmp_5, rR_inj, kgO_some, kgO_add, kgO_sub, kgO_mul, kgO_div, kgO_rem, kgO_and, kvI_inl, kvJ_inl, kgI_0, kgI_s, kgR_0, kgR_s, kst_nil, kst_0, kst_s, kNLl_nil, kNLl_i, kNLl_r, kNLl_n, ktag_i, ktag_r, List.length_cons, List.length_nil, List.take_succ_cons, List.take_zero, List.take_nil, List.nil_append, List.cons_append, decide_eq_true_eq, Bool.not_eq_true, Bool.not_eq_true', decide_eq_false_iff_not, ne_eq, Decidable.not_not, true_and, and_true, Nat.reduceAdd, Nat.reduceLeDiff, Nat.reduceEqDiff, Nat.le_refl, not_true_eq_false, not_false_eq_true, reduceIte, eq_self, Int.reduceNeg, Int.reduceEq, Int.reduceLT, Int.reduceLE, Nat.zero_le, Nat.one_ne_zero, ev_web, ev_fin]
  refine finEmpty_ok.mono ?_
  rintro r s2 ⟨rfl, b1, b2, b3⟩
  refine ⟨rfl, ?_⟩
  rw [hQ122]
  clear hQ122
  refine kThen_N.mpr ?_
  have k1 : ∀ k, s2 1 k = if k = 3 ∨ k = 4 ∨ k = 9 then 0 else σ 1 k := by intro k; rw [b1 _ _ (by decide), a1 _ _ (by decide)]; simp only [kup]; grind
  have k2 : ∀ o k, o ≠ 1 → o ≠ 2 → o ≠ 3 → s2 o k = σ o k := by intro o k q1 q2 q3; rw [b1 _ _ (by omega), a1 _ _ (by omega), kup_ne q1, kup_ne q1, kup_ne q1]
  have e5 : s2 1 5 = σ 1 5 := by rw [k1, if_neg (by decide)]
  refine wpS_gen (fun Q123 hQ123 => ?_)
  simp only [wpS_skip, wpS_break, wpS_cont, wpS_retV, wpS_throw, wpS_seq, wpS_if, wpS_trunc, yS_let, yS_inc, kgK_i, kgK_r, kok_nil, kok_i0, kok_is, kok_r0, kok_rs, kok_n0, kok_ns, xS_put, xS_putOp, xS_ast0, xS_ast1, xS_astOp, wpS_E, wpS_call, wpS_callS, wpS_ret, kThen_N, kThen_B, kThen_C, kThen_R, kThen_T, kNext_N, kNext_C, kNext_B, kNext_R, wpE_K, wpE_KL, xE_I, xE_R, wpE_J, xE_bin, wpE_ladd, wpE_i2l, xE_get, xE_ald0, xE_ald1, wpE_if, xE_max, xE_min, wpE_len, wpA_nil, wpA_snoc, xE_call, xE_callS, xC_C, xC_L, xC_Z, wpC_and, wpC_or, wpC_not, wpC_if, kcmp_0, kcmp_1, kcmp_2, kcmp_3, kcmp_4, kcmp_5, rR_inj, kgO_some, kgO_add, kgO_sub, kgO_mul, kgO_div, kgO_rem, kgO_and, kvI_inl, kvJ_inl, kgI_0, kgI_s, kgR_0, kgR_s, kst_nil, kst_0, kst_s, kNLl_nil, kNLl_i, kNLl_r, kNLl_n, ktag_i, ktag_r, List.length_cons, List.length_nil, List.take_succ_cons, List.take_zero, List.take_nil, List.nil_append, List.cons_append, decide_eq_true_eq, Bool.not_eq_true, Bool.not_eq_true', decide_eq_false_iff_not, ne_eq, Decidable.not_not, true_and, and_true, Nat.reduceAdd, Nat.reduceLeDiff, Nat.reduceEqDiff, Nat.le_refl, not_true_eq_false, not_false_eq_true, reduceIte, eq_self, Int.reduceNeg, Int.reduceEq, Int.reduceLT, Int.reduceLE, Nat.zero_le, Nat.one_ne_zero, ev_web, e5]
  repeat refine And.intro (by omega) ?_
  rw [hQ123]
  clear hQ123 Q123
  rw [hQ0]
  refine kThen_N.mpr (wpS_retV.mpr ⟨none, rfl, rfl, ?_⟩)
  obtain ⟨s3, hs3⟩ : ∃ s3, s3 = kup s2 1 5 (σ 1 5 + 1) := ⟨_, rfl⟩
  rw [← hs3]
  have k3 : ∀ o k, o ≠ 1 → s3 o k = s2 o k := by intro o k q; rw [hs3]; simp [kup, q]
  have k4 : ∀ k, k ≠ 5 → s3 1 k = s2 1 k := by intro k q; rw [hs3]; simp [kup, q]
  have k5 : s3 1 5 = σ 1 5 + 1 := by rw [hs3, kup_eq, if_pos rfl]
  have z2 : s3 2 2 = 0 ∧ s3 2 3 = 0 ∧ s3 20 0 = 0 := ⟨by rw [k3 _ _ (by decide), b1 _ _ (by decide)]; exact a2, by rw [k3 _ _ (by decide), b1 _ _ (by decide)]; exact a3, by rw [k3 _ _ (by decide), k2 _ _ (by decide) (by decide) (by decide)]; exact hz.1⟩
  have z3 : s3 3 2 = 0 ∧ s3 3 3 = 0 ∧ s3 22 0 = 0 := ⟨by rw [k3 _ _ (by decide)]; exact b2, by rw [k3 _ _ (by decide)]; exact b3, by rw [k3 _ _ (by decide), k2 _ _ (by decide) (by decide) (by decide)]; exact hz.2⟩
  have zf : ∀ key : Nat → Nat, fanOk 0 0 li key (fun _ => 0) (fun _ => 0) := fun key => ⟨rfl, rfl, fun v hv => by omega, fun i hi => by omega, fun i j h1 h2 => by omega, fun k hk => by omega⟩
  refine ⟨rfl, fun o k ho => ?_, k5, ?_⟩
  · unfold isWb at ho
    rw [k3 o k (by omega), k2 o k (by omega) (by omega) (by omega)]
  · refine ⟨by rw [k4 _ (by decide), k1]; rfl, by rw [k4 _ (by decide), k1]; rfl, by rw [k4 _ (by decide), k1]; rfl, fun x => by rw [k3 _ _ (by decide), k2 _ _ (by decide) (by decide) (by decide)]; exact h4 x, fun x => by rw [k3 _ _ (by decide), k2 _ _ (by decide) (by decide) (by decide)]; exact h5 x,
      fun k hk => by omega, fun x hx => by omega, fun _ => 0, fun _ => 0, fun _ => 0, fun _ => 0, ⟨z2.1, z2.2.1, fun i hi => by omega, fun v hv => ?_⟩, zf _, ⟨z3.1, z3.2.1, fun i hi => by omega, fun v hv => ?_⟩, zf _⟩
    · have : v = 0 := by omega
      subst this; exact z2.2.2
    · have : v = 0 := by omega
      subst this; exact z3.2.2
theorem foutRemArc_ok {σ : kS} {n c v x p : Nat} {F S : Nat → Nat} (h : Fr σ 2 19 20 n c F S) (hn : n ≤ 300) (hc : c ≤ 900) (hv : v < n) (hp : p < c) (hpx : F p = x) (hu : ∀ i, i < c → F i = x → i = p) (hS : ∀ w, v < w → w ≤ n → 0 < S w ∧ S w ≤ c) :
    wpF F_Fan_removeArc [.inr (.inl 2), .inl (v : Int), .inl (x : Int)] σ (fun r s => r = none ∧ (∀ o k, o ≠ 2 → o ≠ 20 → o ≠ 19 → s o k = σ o k) ∧
      Fr s 2 19 20 n (c - 1) (fun i => if i < p then F i else F (i + 1)) (fun w => if w ≤ v then S w else S w - 1)) := by
  obtain ⟨h1, h2, h3, h4⟩ := h
  unfold F_Fan_removeArc
  rw [wpF_kF]
  refine ⟨rfl, rfl, ?_⟩
  unfold s_Fan_removeArc
  simp only [List.map_cons, List.map_nil]
  refine wpS_seq' (fun Q0 hQ0 => ?_)
  refine wpS_seq' (fun Q124 hQ124 => ?_)
  simp only [wpS_skip, wpS_break, wpS_cont, wpS_retV, wpS_throw, wpS_seq, wpS_if, wpS_trunc, yS_let, yS_inc, kgK_i, kgK_r, kok_nil, kok_i0, kok_is, kok_r0, kok_rs, kok_n0, kok_ns, xS_put, xS_putOp, xS_ast0, xS_ast1, xS_astOp, wpS_E, wpS_call, wpS_callS, wpS_ret, kThen_N, kThen_B, kThen_C, kThen_R, kThen_T, kNext_N, kNext_C, kNext_B, kNext_R, wpE_K, wpE_KL, xE_I, xE_R, wpE_J, xE_bin, wpE_ladd, wpE_i2l, xE_get, xE_ald0, xE_ald1, wpE_if, xE_max, xE_min, wpE_len, wpA_nil, wpA_snoc, xE_call, xE_callS, xC_C, xC_L, xC_Z, wpC_and, wpC_or, wpC_not, wpC_if, kcmp_0, kcmp_1, kcmp_2, kcmp_3, kcmp_4, kcmp_5, rR_inj, kgO_some, kgO_add, kgO_sub, kgO_mul, kgO_div, kgO_rem, kgO_and, kvI_inl, kvJ_inl, kgI_0, kgI_s, kgR_0, kgR_s, kst_nil, kst_0, kst_s, kNLl_nil, kNLl_i, kNLl_r, kNLl_n, ktag_i, ktag_r, List.length_cons, List.length_nil, List.take_succ_cons, List.take_zero, List.take_nil, List.nil_append, List.cons_append, decide_eq_true_eq, Bool.not_eq_true, Bool.not_eq_true', decide_eq_false_iff_not, ne_eq, Decidable.not_not, true_and, and_true, Nat.reduceAdd, Nat.reduceLeDiff, Nat.reduceEqDiff, Nat.le_refl, not_true_eq_false, not_false_eq_true, reduceIte, eq_self, Int.reduceNeg, Int.reduceEq, Int.reduceLT, Int.reduceLE, Nat.zero_le, Nat.one_ne_zero, ev_fout, ev_fout_arr, h2]
  have hF := h3 p hp
  refine (leaveOut_ok (len := 900) (p := p) rfl (by omega) (by omega) hp (by omega) (fun i hi e => hu i hi (by have := h3 i hi; omega))).mono ?_
  rintro r s1 ⟨rfl, a1, a2⟩
  rw [kgO_some]
  simp only [ev_fout, kgO_some]
  rw [hQ124]
  clear hQ124
  refine kThen_N.mpr ?_
  obtain ⟨s2, hs2⟩ : ∃ s2, s2 = kup s1 2 3 ((c - 1 : Nat) : Int) := ⟨_, rfl⟩
  rw [← hs2]
  have k2 : ∀ o k, o ≠ 2 → s2 o k = s1 o k := by intro o k q; rw [hs2]; simp [kup, q]
  have k3 : s2 2 3 = ((c - 1 : Nat) : Int) ∧ s2 2 2 = n := by rw [hs2]; simp [kup]; rw [a1 _ _ (by decide)]; exact h1
  have k4 : ∀ w, w ≤ n → s2 20 w = S w := fun w hw => by rw [k2 _ _ (by decide), a1 _ _ (by decide)]; exact h4 w hw
  refine wpS_gen (fun Q3 hQ3 => ?_)
  unfold l_Fan_removeArc_1
  refine wpS_fp (fun i s3 => (∀ o k, o ≠ 20 → s3 o k = s2 o k) ∧ (∀ w, w ≤ n → s3 20 w = if w ≤ v then (S w : Int) else if w < i then (S w : Int) - 1 else S w)) (v + 1) (n + 1) rfl rfl ?_ ?_ ?_ ?_ ?_ ?_
  · simp only [wpS_skip, wpS_break, wpS_cont, wpS_retV, wpS_throw, wpS_seq, wpS_if, wpS_trunc, yS_let, yS_inc, kgK_i, kgK_r, kok_nil, kok_i0, kok_is, kok_r0, kok_rs, kok_n0, kok_ns, xS_put, xS_putOp, xS_ast0, xS_ast1, xS_astOp, wpS_E, wpS_call, wpS_callS, wpS_ret, kThen_N, kThen_B, kThen_C, kThen_R, kThen_T, kNext_N, kNext_C, kNext_B, kNext_R, wpE_K, wpE_KL, xE_I, xE_R, wpE_J, xE_bin, wpE_ladd, wpE_i2l, xE_get, xE_ald0, xE_ald1, wpE_if, xE_max, xE_min, wpE_len, wpA_nil, wpA_snoc, xE_call, xE_callS, xC_C, xC_L, xC_Z, wpC_and, wpC_or, wpC_not, wpC_if, kcmp_0, kcmp_1, kcmp_2, kcmp_3, kcmp_4, kcmp_5, rR_inj, kgO_some, kgO_add, kgO_sub, kgO_mul, kgO_div, kgO_rem, kgO_and, kvI_inl, kvJ_inl, kgI_0, kgI_s, kgR_0, kgR_s, kst_nil, kst_0, kst_s, kNLl_nil, kNLl_i, kNLl_r, kNLl_n, ktag_i, ktag_r, List.length_cons, List.length_nil, List.take_succ_cons, List.take_zero, List.take_nil, List.nil_append, List.cons_append, decide_eq_true_eq, Bool.not_eq_true, Bool.not_eq_true', decide_eq_false_iff_not, ne_eq, Decidable.not_not, true_and, and_true, Nat.reduceAdd, Nat.reduceLeDiff, Nat.reduceEqDiff, Nat.le_refl, not_true_eq_false, not_false_eq_true, reduceIte, eq_self, Int.reduceNeg, Int.reduceEq, Int.reduceLT, Int.reduceLE, Nat.zero_le, Nat.one_ne_zero]
    repeat refine And.intro (by omega) ?_
    trivial
  · omega
  · refine ⟨fun _ _ _ => rfl, fun w hw => ?_⟩
    rw [k4 w hw]
    split
    · rfl
    · rw [if_neg (by omega)]
  · rintro i s3 - - ⟨q1, q2⟩
    have g3 : s3 2 2 = (n : Int) := by rw [q1 _ _ (by decide)]; exact k3.2
    simp only [wpS_skip, wpS_break, wpS_cont, wpS_retV, wpS_throw, wpS_seq, wpS_if, wpS_trunc, yS_let, yS_inc, kgK_i, kgK_r, kok_nil, kok_i0, kok_is, kok_r0, kok_rs, kok_n0, kok_ns, xS_put, xS_putOp, xS_ast0, xS_ast1, xS_astOp, wpS_E, wpS_call, wpS_callS, wpS_ret, kThen_N, kThen_B, kThen_C, kThen_R, kThen_T, kNext_N, kNext_C, kNext_B, kNext_R, wpE_K, wpE_KL, xE_I, xE_R, wpE_J, xE_bin, wpE_ladd, wpE_i2l, xE_get, xE_ald0, xE_ald1, wpE_if, xE_max, xE_min, wpE_len, wpA_nil, wpA_snoc, xE_call, xE_callS, xC_C, xC_L, xC_Z, wpC_and, wpC_or, wpC_not, wpC_if, kcmp_0, kcmp_1, kcmp_2, kcmp_3, kcmp_4, kcmp_5, rR_inj, kgO_some, kgO_add, kgO_sub, kgO_mul, kgO_div, kgO_rem, kgO_and, kvI_inl, kvJ_inl, kgI_0, kgI_s, kgR_0, kgR_s, kst_nil, kst_0, kst_s, kNLl_nil, kNLl_i, kNLl_r, kNLl_n, ktag_i, ktag_r, List.length_cons, List.length_nil, List.take_succ_cons, List.take_zero, List.take_nil, List.nil_append, List.cons_append, decide_eq_true_eq, Bool.not_eq_true, Bool.not_eq_true', decide_eq_false_iff_not, ne_eq, Decidable.not_not, true_and, and_true, Nat.reduceAdd, Nat.reduceLeDiff, Nat.reduceEqDiff, Nat.le_refl, not_true_eq_false, not_false_eq_true, reduceIte, eq_self, Int.reduceNeg, Int.reduceEq, Int.reduceLT, Int.reduceLE, Nat.zero_le, Nat.one_ne_zero, ev_fout, ev_fout_arr, g3]
    omega
  · rintro i s3 p1 p2 ⟨q1, q2⟩
    refine wpS_gen (fun Q4 hQ4 => ?_)
    have g4 := q2 i (by omega)
    rw [if_neg (by omega), if_neg (by omega)] at g4
    have g5 := hS i (by omega) (by omega)
    simp only [wpS_skip, wpS_break, wpS_cont, wpS_retV, wpS_throw, wpS_seq, wpS_if, wpS_trunc, yS_let, yS_inc, kgK_i, kgK_r, kok_nil, kok_i0, kok_is, kok_r0, kok_rs, kok_n0, kok_ns, xS_put, xS_putOp, xS_ast0, xS_ast1, xS_astOp, wpS_E, wpS_call, wpS_callS, wpS_ret, kThen_N, kThen_B, kThen_C, kThen_R, kThen_T, kNext_N, kNext_C, kNext_B, kNext_R, wpE_K, wpE_KL, xE_I, xE_R, wpE_J, xE_bin, wpE_ladd, wpE_i2l, xE_get, xE_ald0, xE_ald1, wpE_if, xE_max, xE_min, wpE_len, wpA_nil, wpA_snoc, xE_call, xE_callS, xC_C, xC_L, xC_Z, wpC_and, wpC_or, wpC_not, wpC_if, kcmp_0, kcmp_1, kcmp_2, kcmp_3, kcmp_4, kcmp_5, rR_inj, kgO_some, kgO_add, kgO_sub, kgO_mul, kgO_div, kgO_rem, kgO_and, kvI_inl, kvJ_inl, kgI_0, kgI_s, kgR_0, kgR_s, kst_nil, kst_0, kst_s, kNLl_nil, kNLl_i, kNLl_r, kNLl_n, ktag_i, ktag_r, List.length_cons, List.length_nil, List.take_succ_cons, List.take_zero, List.take_nil, List.nil_append, List.cons_append, decide_eq_true_eq, Bool.not_eq_true, Bool.not_eq_true', decide_eq_false_iff_not, ne_eq, Decidable.not_not, true_and, and_true, Nat.reduceAdd, Nat.reduceLeDiff, Nat.reduceEqDiff, Nat.le_refl, not_true_eq_false, not_false_eq_true, reduceIte, eq_self, Int.reduceNeg, Int.reduceEq, Int.reduceLT, Int.reduceLE, Nat.zero_le, Nat.one_ne_zero, ev_fout, ev_fout_arr, Int.toNat_natCast, g4]
    repeat refine And.intro (by omega) ?_
    rw [hQ4]
    refine kStep_N rfl ⟨rfl, fun o k ho => by rw [kup_ne ho]; exact q1 o k ho, fun w hw => ?_⟩
    rw [kup_eq, q2 w hw]
    have ew : w = i → S w = S i := fun e => by rw [e]
    split <;> split <;> (try split) <;> (try split) <;> omega
  · rintro s3 ⟨q1, q2⟩
    rw [hQ3]
    rw [hQ0]
    refine kThen_N.mpr (wpS_retV.mpr ⟨none, rfl, rfl, ?_⟩)
    refine ⟨rfl, fun o k e1 e2 e3 => by rw [q1 _ _ e2, k2 _ _ e1, a1 _ _ e3], by rw [q1 _ _ (by decide)]; exact k3.2, by rw [q1 _ _ (by decide)]; exact k3.1, fun i hi => ?_, fun w hw => ?_⟩
    · rw [q1 _ _ (by decide), k2 _ _ (by decide), a2 i hi]
      dsimp only
      split
      · exact h3 i (by omega)
      · exact h3 (i + 1) (by omega)
    · rw [q2 w hw]
      have := hS w
      dsimp only
      split
      · rfl
      · rw [if_pos (by omega)]; omega
theorem finRemArc_ok {σ : kS} {n c v x p : Nat} {F S : Nat → Nat} (h : Fr σ 3 21 22 n c F S) (hn : n ≤ 300) (hc : c ≤ 900) (hv : v < n) (hp : p < c) (hpx : F p = x) (hu : ∀ i, i < c → F i = x → i = p) (hS : ∀ w, v < w → w ≤ n → 0 < S w ∧ S w ≤ c) :
    wpF F_Fan_removeArc [.inr (.inl 3), .inl (v : Int), .inl (x : Int)] σ (fun r s => r = none ∧ (∀ o k, o ≠ 3 → o ≠ 22 → o ≠ 21 → s o k = σ o k) ∧
      Fr s 3 21 22 n (c - 1) (fun i => if i < p then F i else F (i + 1)) (fun w => if w ≤ v then S w else S w - 1)) := by
  obtain ⟨h1, h2, h3, h4⟩ := h
  unfold F_Fan_removeArc
  rw [wpF_kF]
  refine ⟨rfl, rfl, ?_⟩
  unfold s_Fan_removeArc
  simp only [List.map_cons, List.map_nil]
  refine wpS_seq' (fun Q0 hQ0 => ?_)
  refine wpS_seq' (fun Q125 hQ125 => ?_)
  simp only [wpS_skip, wpS_break, wpS_cont, wpS_retV, wpS_throw, wpS_seq, wpS_if, wpS_trunc, yS_let, yS_inc, kgK_i, kgK_r, kok_nil, kok_i0, kok_is, kok_r0, kok_rs, kok_n0, kok_ns, xS_put, xS_putOp, xS_ast0, xS_ast1, xS_astOp, wpS_E, wpS_call, wpS_callS, wpS_ret, kThen_N, kThen_B, kThen_C, kThen_R, kThen_T, kNext_N, kNext_C, kNext_B, kNext_R, wpE_K, wpE_KL, xE_I, xE_R, wpE_J, xE_bin, wpE_ladd, wpE_i2l, xE_get, xE_ald0, xE_ald1, wpE_if, xE_max, xE_min, wpE_len, wpA_nil, wpA_snoc, xE_call, xE_callS, xC_C, xC_L, xC_Z, wpC_and, wpC_or, wpC_not, wpC_if, kcmp_0, kcmp_1, kcmp_2, kcmp_3, kcmp_4, kcmp_5, rR_inj, kgO_some, kgO_add, kgO_sub, kgO_mul, kgO_div, kgO_rem, kgO_and, kvI_inl, kvJ_inl, kgI_0, kgI_s, kgR_0, kgR_s, kst_nil, kst_0, kst_s, kNLl_nil, kNLl_i, kNLl_r, kNLl_n, ktag_i, ktag_r, List.length_cons, List.length_nil, List.take_succ_cons, List.take_zero, List.take_nil, List.nil_append, List.cons_append, decide_eq_true_eq, Bool.not_eq_true, Bool.not_eq_true', decide_eq_false_iff_not, ne_eq, Decidable.not_not, true_and, and_true, Nat.reduceAdd, Nat.reduceLeDiff, Nat.reduceEqDiff, Nat.le_refl, not_true_eq_false, not_false_eq_true, reduceIte, eq_self, Int.reduceNeg, Int.reduceEq, Int.reduceLT, Int.reduceLE, Nat.zero_le, Nat.one_ne_zero, ev_fin, ev_fin_arr, h2]
  have hF := h3 p hp
  refine (leaveOut_ok (len := 900) (p := p) rfl (by omega) (by omega) hp (by omega) (fun i hi e => hu i hi (by have := h3 i hi; omega))).mono ?_
  rintro r s1 ⟨rfl, a1, a2⟩
  rw [kgO_some]
  simp only [ev_fin, kgO_some]
  rw [hQ125]
  clear hQ125
  refine kThen_N.mpr ?_
  obtain ⟨s2, hs2⟩ : ∃ s2, s2 = kup s1 3 3 ((c - 1 : Nat) : Int) := ⟨_, rfl⟩
  rw [← hs2]
  have k2 : ∀ o k, o ≠ 3 → s2 o k = s1 o k := by intro o k q; rw [hs2]; simp [kup, q]
  have k3 : s2 3 3 = ((c - 1 : Nat) : Int) ∧ s2 3 2 = n := by rw [hs2]; simp [kup]; rw [a1 _ _ (by decide)]; exact h1
  have k4 : ∀ w, w ≤ n → s2 22 w = S w := fun w hw => by rw [k2 _ _ (by decide), a1 _ _ (by decide)]; exact h4 w hw
  refine wpS_gen (fun Q3 hQ3 => ?_)
  unfold l_Fan_removeArc_1
  refine wpS_fp (fun i s3 => (∀ o k, o ≠ 22 → s3 o k = s2 o k) ∧ (∀ w, w ≤ n → s3 22 w = if w ≤ v then (S w : Int) else if w < i then (S w : Int) - 1 else S w)) (v + 1) (n + 1) rfl rfl ?_ ?_ ?_ ?_ ?_ ?_
  · simp only [wpS_skip, wpS_break, wpS_cont, wpS_retV, wpS_throw, wpS_seq, wpS_if, wpS_trunc, yS_let, yS_inc, kgK_i, kgK_r, kok_nil, kok_i0, kok_is, kok_r0, kok_rs, kok_n0, kok_ns, xS_put, xS_putOp, xS_ast0, xS_ast1, xS_astOp, wpS_E, wpS_call, wpS_callS, wpS_ret, kThen_N, kThen_B, kThen_C, kThen_R, kThen_T, kNext_N, kNext_C, kNext_B, kNext_R, wpE_K, wpE_KL, xE_I, xE_R, wpE_J, xE_bin, wpE_ladd, wpE_i2l, xE_get, xE_ald0, xE_ald1, wpE_if, xE_max, xE_min, wpE_len, wpA_nil, wpA_snoc, xE_call, xE_callS, xC_C, xC_L, xC_Z, wpC_and, wpC_or, wpC_not, wpC_if, kcmp_0, kcmp_1, kcmp_2, kcmp_3, kcmp_4, kcmp_5, rR_inj, kgO_some, kgO_add, kgO_sub, kgO_mul, kgO_div, kgO_rem, kgO_and, kvI_inl, kvJ_inl, kgI_0, kgI_s, kgR_0, kgR_s, kst_nil, kst_0, kst_s, kNLl_nil, kNLl_i, kNLl_r, kNLl_n, ktag_i, ktag_r, List.length_cons, List.length_nil, List.take_succ_cons, List.take_zero, List.take_nil, List.nil_append, List.cons_append, decide_eq_true_eq, Bool.not_eq_true, Bool.not_eq_true', decide_eq_false_iff_not, ne_eq, Decidable.not_not, true_and, and_true, Nat.reduceAdd, Nat.reduceLeDiff, Nat.reduceEqDiff, Nat.le_refl, not_true_eq_false, not_false_eq_true, reduceIte, eq_self, Int.reduceNeg, Int.reduceEq, Int.reduceLT, Int.reduceLE, Nat.zero_le, Nat.one_ne_zero]
    repeat refine And.intro (by omega) ?_
    trivial
  · omega
  · refine ⟨fun _ _ _ => rfl, fun w hw => ?_⟩
    rw [k4 w hw]
    split
    · rfl
    · rw [if_neg (by omega)]
  · rintro i s3 - - ⟨q1, q2⟩
    have g3 : s3 3 2 = (n : Int) := by rw [q1 _ _ (by decide)]; exact k3.2
    simp only [wpS_skip, wpS_break, wpS_cont, wpS_retV, wpS_throw, wpS_seq, wpS_if, wpS_trunc, yS_let, yS_inc, kgK_i, kgK_r, kok_nil, kok_i0, kok_is, kok_r0, kok_rs, kok_n0, kok_ns, xS_put, xS_putOp, xS_ast0, xS_ast1, xS_astOp, wpS_E, wpS_call, wpS_callS, wpS_ret, kThen_N, kThen_B, kThen_C, kThen_R, kThen_T, kNext_N, kNext_C, kNext_B, kNext_R, wpE_K, wpE_KL, xE_I, xE_R, wpE_J, xE_bin, wpE_ladd, wpE_i2l, xE_get, xE_ald0, xE_ald1, wpE_if, xE_max, xE_min, wpE_len, wpA_nil, wpA_snoc, xE_call, xE_callS, xC_C, xC_L, xC_Z, wpC_and, wpC_or, wpC_not, wpC_if, kcmp_0, kcmp_1, kcmp_2, kcmp_3, kcmp_4, kcmp_5, rR_inj, kgO_some, kgO_add, kgO_sub, kgO_mul, kgO_div, kgO_rem, kgO_and, kvI_inl, kvJ_inl, kgI_0, kgI_s, kgR_0, kgR_s, kst_nil, kst_0, kst_s, kNLl_nil, kNLl_i, kNLl_r, kNLl_n, ktag_i, ktag_r, List.length_cons, List.length_nil, List.take_succ_cons, List.take_zero, List.take_nil, List.nil_append, List.cons_append, decide_eq_true_eq, Bool.not_eq_true, Bool.not_eq_true', decide_eq_false_iff_not, ne_eq, Decidable.not_not, true_and, and_true, Nat.reduceAdd, Nat.reduceLeDiff, Nat.reduceEqDiff, Nat.le_refl, not_true_eq_false, not_false_eq_true, reduceIte, eq_self, Int.reduceNeg, Int.reduceEq, Int.reduceLT, Int.reduceLE, Nat.zero_le, Nat.one_ne_zero, ev_fin, ev_fin_arr, g3]
    omega
  · rintro i s3 p1 p2 ⟨q1, q2⟩
    refine wpS_gen (fun Q4 hQ4 => ?_)
    have g4 := q2 i (by omega)
    rw [if_neg (by omega), if_neg (by omega)] at g4
    have g5 := hS i (by omega) (by omega)
    simp only [wpS_skip, wpS_break, wpS_cont, wpS_retV, wpS_throw, wpS_seq, wpS_if, wpS_trunc, yS_let, yS_inc, kgK_i, kgK_r, kok_nil, kok_i0, kok_is, kok_r0, kok_rs, kok_n0, kok_ns, xS_put, xS_putOp, xS_ast0, xS_ast1, xS_astOp, wpS_E, wpS_call, wpS_callS, wpS_ret, kThen_N, kThen_B, kThen_C, kThen_R, kThen_T, kNext_N, kNext_C, kNext_B, kNext_R, wpE_K, wpE_KL, xE_I, xE_R, wpE_J, xE_bin, wpE_ladd, wpE_i2l, xE_get, xE_ald0, xE_ald1, wpE_if, xE_max, xE_min, wpE_len, wpA_nil, wpA_snoc, xE_call, xE_callS, xC_C, xC_L, xC_Z, wpC_and, wpC_or, wpC_not, wpC_if, kcmp_0, kcmp_1, kcmp_2, kcmp_3, kcmp_4, kcmp_5, rR_inj, kgO_some, kgO_add, kgO_sub, kgO_mul, kgO_div, kgO_rem, kgO_and, kvI_inl, kvJ_inl, kgI_0, kgI_s, kgR_0, kgR_s, kst_nil, kst_0, kst_s, kNLl_nil, kNLl_i, kNLl_r, kNLl_n, ktag_i, ktag_r, List.length_cons, List.length_nil, List.take_succ_cons, List.take_zero, List.take_nil, List.nil_append, List.cons_append, decide_eq_true_eq, Bool.not_eq_true, Bool.not_eq_true', decide_eq_false_iff_not, ne_eq, Decidable.not_not, true_and, and_true, Nat.reduceAdd, Nat.reduceLeDiff, Nat.reduceEqDiff, Nat.le_refl, not_true_eq_false, not_false_eq_true, reduceIte, eq_self, Int.reduceNeg, Int.reduceEq, Int.reduceLT, Int.reduceLE, Nat.zero_le, Nat.one_ne_zero, ev_fin, ev_fin_arr, Int.toNat_natCast, g4]
    repeat refine And.intro (by omega) ?_
    rw [hQ4]
    refine kStep_N rfl ⟨rfl, fun o k ho => by rw [kup_ne ho]; exact q1 o k ho, fun w hw => ?_⟩
    rw [kup_eq, q2 w hw]
    have ew : w = i → S w = S i := fun e => by rw [e]
    split <;> split <;> (try split) <;> (try split) <;> omega
  · rintro s3 ⟨q1, q2⟩
    rw [hQ3]
    rw [hQ0]
    refine kThen_N.mpr (wpS_retV.mpr ⟨none, rfl, rfl, ?_⟩)
    refine ⟨rfl, fun o k e1 e2 e3 => by rw [q1 _ _ e2, k2 _ _ e1, a1 _ _ e3], by rw [q1 _ _ (by decide)]; exact k3.2, by rw [q1 _ _ (by decide)]; exact k3.1, fun i hi => ?_, fun w hw => ?_⟩
    · rw [q1 _ _ (by decide), k2 _ _ (by decide), a2 i hi]
      dsimp only
      split
      · exact h3 i (by omega)
      · exact h3 (i + 1) (by omega)
    · rw [q2 w hw]
      have := hS w
      dsimp only
      split
      · rfl
      · rw [if_pos (by omega)]; omega
theorem webRemArc_ok {q : Nat} (h : Wb σ n c ar li fs sn) (hG : gOk n c ar li fs sn) (hq : q < c) (hg : 0 ≤ σ 1 5 ∧ σ 1 5 < 2147483647) :
    wpF F_Web_removeArc [.inr (.inl 1), .inl (li q : Int)] σ (fun r s => r = none ∧ (∀ o k, ¬ isWb o → s o k = σ o k) ∧ s 1 5 = σ 1 5 + 1 ∧
      Wb s n (c - 1) ar (fun k => if k < q then li k else li (k + 1)) fs sn) := by
  have hinj := hG.inj
  obtain ⟨h1, h2, h3, h4, h5, h6, h7, Fo, So, Fi, Si, h8, h9, h10, h11⟩ := h
  obtain ⟨g1, g2, g3, g4, g5⟩ := hG
  obtain ⟨gx, ga, gb⟩ := g4 q hq
  obtain ⟨po, po1, po2⟩ := h9.2.2.2.2.2 q hq
  obtain ⟨pi, pi1, pi2⟩ := h11.2.2.2.2.2 q hq
  have uo : ∀ i, i < c → Fo i = li q → i = po := fun i hi e => fan_inj h9 hi po1 (by rw [e, po2])
  have ui : ∀ i, i < c → Fi i = li q → i = pi := fun i hi e => fan_inj h11 hi pi1 (by rw [e, pi2])
  have so : ∀ w, fs (li q) < w → w ≤ n → 0 < So w ∧ So w ≤ c := by
    intro w h1 h2
    have a1 := (fan_at h9 po1 ga).mp (by rw [po2])
    have a2 := fan_mono h9 (show fs (li q) + 1 ≤ w from h1) h2
    have a3 := fan_le h9 h2
    omega
  have si : ∀ w, sn (li q) < w → w ≤ n → 0 < Si w ∧ Si w ≤ c := by
    intro w h1 h2
    have a1 := (fan_at h11 pi1 gb).mp (by rw [pi2])
    have a2 := fan_mono h11 (show sn (li q) + 1 ≤ w from h1) h2
    have a3 := fan_le h11 h2
    omega
  unfold F_Web_removeArc
  rw [wpF_kF]
  refine ⟨rfl, rfl, ?_⟩
  unfold s_Web_removeArc
  simp only [List.map_cons, List.map_nil]
  refine wpS_seq' (fun Q0 hQ0 => ?_)
  refine wpS_seq' (fun Q126 hQ126 => ?_)
  simp only [wpS_skip, wpS_break, wpS_cont, wpS_retV, wpS_throw, wpS_seq, wpS_if, wpS_trunc, yS_let, yS_inc, kgK_i, kgK_r, kok_nil, kok_i0, kok_is, kok_r0, kok_rs, kok_n0, kok_ns, xS_put, xS_putOp, xS_ast0, xS_ast1, xS_astOp, wpS_E, wpS_call, wpS_callS, wpS_ret, kThen_N, kThen_B, kThen_C, kThen_R, kThen_T, kNext_N, kNext_C, kNext_B, kNext_R, wpE_K, wpE_KL, xE_I, xE_R, wpE_J, xE_bin, wpE_ladd, wpE_i2l, xE_get, xE_ald0, xE_ald1, wpE_if, xE_max, xE_min, wpE_len, wpA_nil, wpA_snoc, xE_call, xE_callS, xC_C, xC_L, xC_Z, wpC_and, wpC_or, wpC_not, wpC_if, kcmp_0, kcmp_1, kcmp_2, kcmp_3, kcmp_4, kcmp_5, rR_inj, kgO_some, kgO_add, kgO_sub, kgO_mul, kgO_div, kgO_rem, kgO_and, kvI_inl, kvJ_inl, kgI_0, kgI_s, kgR_0, kgR_s, kst_nil, kst_0, kst_s, kNLl_nil, kNLl_i, kNLl_r, kNLl_n, ktag_i, ktag_r, List.length_cons, List.length_nil, List.take_succ_cons, List.take_zero, List.take_nil, List.nil_append, List.cons_append, decide_eq_true_eq, Bool.not_eq_true, Bool.not_eq_true', decide_eq_false_iff_not, ne_eq, Decidable.not_not, true_and, and_true, Nat.reduceAdd, Nat.reduceLeDiff, Nat.reduceEqDiff, Nat.le_refl, not_true_eq_false, not_false_eq_true, reduceIte, eq_self, Int.reduceNeg, Int.reduceEq, Int.reduceLT, Int.reduceLE, Nat.zero_le, Nat.one_ne_zero, ev_web, ev_web_arr, h2]
  have l6 := h6 q hq
  refine (leaveOut_ok (len := 900) (p := q) rfl (by omega) (by omega) hq (by omega) (fun i hi e => hinj i q hi hq (by have := h6 i hi; omega))).mono ?_
  rintro r s1 ⟨rfl, a1, a2⟩
  rw [kgO_some]
  simp only [ev_web, kgO_some]
  rw [hQ126]
  clear hQ126
  refine kThen_N.mpr ?_
  obtain ⟨s2, hs2⟩ : ∃ s2, s2 = kup s1 1 4 ((c - 1 : Nat) : Int) := ⟨_, rfl⟩
  rw [← hs2]
  have k2 : ∀ o k, o ≠ 1 → o ≠ 17 → s2 o k = σ o k := by intro o k e1 e2; rw [hs2, kup_ne e1, a1 _ _ e2]
  have k3 : ∀ k, k ≠ 4 → s2 1 k = σ 1 k := by intro k e; rw [hs2, kup_eq, if_neg e, a1 _ _ (by decide)]
  have k4 : s2 1 4 = ((c - 1 : Nat) : Int) := by rw [hs2, kup_eq, if_pos rfl]
  have k5 : ∀ k, k < c - 1 → s2 17 k = ((if k < q then li k else li (k + 1) : Nat) : Int) := by
    intro k hk
    rw [hs2, kup_ne (by decide), a2 k hk]
    split
    · exact h6 k (by omega)
    · exact h6 (k + 1) (by omega)
  have f15 := k2 15 (li q) (by decide) (by decide)
  rw [h4] at f15
  refine wpS_seq' (fun Q127 hQ127 => ?_)
  simp only [wpS_skip, wpS_break, wpS_cont, wpS_retV, wpS_throw, wpS_seq, wpS_if, wpS_trunc, yS_let, yS_inc, kgK_i, kgK_r, kok_nil, kok_i0, kok_is, kok_r0, kok_rs, kok_n0, kok_ns, xS_put, xS_putOp, xS_ast0, xS_ast1, xS_astOp, wpS_E, wpS_call, wpS_callS, wpS_ret, kThen_N, kThen_B, kThen_C, kThen_R, kThen_T, kNext_N, kNext_C, kNext_B, kNext_R, wpE_K, wpE_KL, xE_I, xE_R, wpE_J, xE_bin, wpE_ladd, wpE_i2l, xE_get, xE_ald0, xE_ald1, wpE_if, xE_max, xE_min, wpE_len, wpA_nil, wpA_snoc, xE_call, xE_callS, xC_C, xC_L, xC_Z, wpC_and, wpC_or, wpC_not, wpC_if, kcmp_0, kcmp_1, kcmp_2, kcmp_3, kcmp_4, kcmp_5, rR_inj, kgO_some, kgO_add, kgO_sub, kgO_mul, kgO_div, kgO_rem, kgO_and, kvI_inl, kvJ_inl, kgI_0, kgI_s, kgR_0, kgR_s, kst_nil, kst_0, kst_s, kNLl_nil, kNLl_i, kNLl_r, kNLl_n, ktag_i, ktag_r, List.length_cons, List.length_nil, List.take_succ_cons, List.take_zero, List.take_nil, List.nil_append, List.cons_append, decide_eq_true_eq, Bool.not_eq_true, Bool.not_eq_true', decide_eq_false_iff_not, ne_eq, Decidable.not_not, true_and, and_true, Nat.reduceAdd, Nat.reduceLeDiff, Nat.reduceEqDiff, Nat.le_refl, not_true_eq_false, not_false_eq_true, reduceIte, eq_self, Int.reduceNeg, Int.reduceEq, Int.reduceLT, Int.reduceLE, Nat.zero_le, Nat.one_ne_zero, ev_web, ev_web_arr, ev_fout, Int.toNat_natCast, f15]
  refine ⟨by omega, ?_⟩
  refine (foutRemArc_ok (h8.agree (fun k => k2 _ _ (by decide) (by decide)) (fun k => k2 _ _ (by decide) (by decide)) (fun k => k2 _ _ (by decide) (by decide))) g1 g2 ga po1 po2 uo so).mono ?_
  rintro r s3 ⟨rfl, b1, b2⟩
  refine ⟨rfl, ?_⟩
  rw [hQ127]
  clear hQ127
  refine kThen_N.mpr ?_
  have f16 : s3 16 (li q) = sn (li q) := by rw [b1 _ _ (by decide) (by decide) (by decide), k2 _ _ (by decide) (by decide)]; exact h5 _
  refine wpS_seq' (fun Q128 hQ128 => ?_)
  simp only [wpS_skip, wpS_break, wpS_cont, wpS_retV, wpS_throw, wpS_seq, wpS_if, wpS_trunc, yS_let, yS_inc, kgK_i, kgK_r, kok_nil, kok_i0, kok_is, kok_r0, kok_rs, kok_n0, kok_ns, xS_put, xS_putOp, xS_ast0, xS_ast1, xS_astOp, wpS_E, wpS_call, wpS_callS, wpS_ret, kThen_N, kThen_B, kThen_C, kThen_R, kThen_T, kNext_N, kNext_C, kNext_B, kNext_R, wpE_K, wpE_KL, xE_I, xE_R, wpE_J, xE_bin, wpE_ladd, wpE_i2l, xE_get, xE_ald0, xE_ald1, wpE_if, xE_max, xE_min, wpE_len, wpA_nil, wpA_snoc, xE_call, xE_callS, xC_C, xC_L, xC_Z, wpC_and, wpC_or, wpC_not, wpC_if, kcmp_0, kcmp_1, kcmp_2, kcmp_3, kcmp_4, kcmp_5, rR_inj, kgO_some, kgO_add, kgO_sub, kgO_mul, kgO_div, kgO_rem, kgO_and, kvI_inl, kvJ_inl, kgI_0, kgI_s, kgR_0, kgR_s, kst_nil, kst_0, kst_s, kNLl_nil, kNLl_i, kNLl_r, kNLl_n, ktag_i, ktag_r, List.length_cons, List.length_nil, List.take_succ_cons, List.take_zero, List.take_nil, List.nil_append, List.cons_append, decide_eq_true_eq, Bool.not_eq_true, Bool.not_eq_true', decide_eq_false_iff_not, ne_eq, Decidable.not_not, true_and, and_true, Nat.reduceAdd, Nat.reduceLeDiff, Nat.reduceEqDiff, Nat.le_refl, not_true_eq_false, not_false_eq_true, reduceIte, eq_self, Int.reduceNeg, Int.reduceEq, Int.reduceLT, Int.reduceLE, Nat.zero_le, Nat.one_ne_zero, ev_web, ev_web_arr, ev_fin, Int.toNat_natCast, f16]
  refine ⟨by omega, ?_⟩
  refine (finRemArc_ok ((h10.agree (fun k => k2 _ _ (by decide) (by decide)) (fun k => k2 _ _ (by decide) (by decide)) (fun k => k2 _ _ (by decide) (by decide))).agree (fun k => b1 _ _ (by decide) (by decide) (by decide)) (fun k => b1 _ _ (by decide) (by decide) (by decide)) (fun k => b1 _ _ (by decide) (by decide) (by decide))) g1 g2 gb pi1 pi2 ui si).mono ?_
  rintro r s4 ⟨rfl, c1, c2⟩
  refine ⟨rfl, ?_⟩
  rw [hQ128]
  clear hQ128
  refine kThen_N.mpr ?_
  have k6 : ∀ o k, ¬ (o = 2 ∨ o = 19 ∨ o = 20 ∨ o = 3 ∨ o = 21 ∨ o = 22) → s4 o k = s2 o k := fun o k e => by rw [c1 o k (by omega) (by omega) (by omega), b1 o k (by omega) (by omega) (by omega)]
  refine wpS_seq' (fun Q129 hQ129 => ?_)
  simp only [wpS_skip, wpS_break, wpS_cont, wpS_retV, wpS_throw, wpS_seq, wpS_if, wpS_trunc, yS_let, yS_inc, kgK_i, kgK_r, kok_nil, kok_i0, kok_is, kok_r0, kok_rs, kok_n0, kok_ns, xS_put, xS_putOp, xS_ast0, xS_ast1, xS_astOp, wpS_E, wpS_call, wpS_callS, wpS_ret, kThen_N, kThen_B, kThen_C, kThen_R, kThen_T, kNext_N, kNext_C, kNext_B, kNext_R, wpE_K, wpE_KL, xE_I, xE_R, wpE_J, xE_bin, wpE_ladd, wpE_i2l, xE_get, xE_ald0, xE_ald1, wpE_if, xE_max, xE_min, wpE_len, wpA_nil, wpA_snoc, xE_call, xE_callS, xC_C, xC_L, xC_Z, wpC_and, wpC_or, wpC_not, wpC_if, kcmp_0, kcmp_1, kcmp_2, kcmp_3, kcmp_4, kcmp_5, rR_inj, kgO_some, kgO_add, kgO_sub, kgO_mul, kgO_div, kgO_rem, kgO_and, kvI_inl, kvJ_inl, kgI_0, kgI_s, kgR_0, kgR_s, kst_nil, kst_0, kst_s, kNLl_nil, kNLl_i, kNLl_r, kNLl_n, ktag_i, ktag_r, List.length_cons, List.length_nil, List.take_succ_cons, List.take_zero, List.take_nil, List.nil_append, List.cons_append, decide_eq_true_eq, Bool.not_eq_true, Bool.not_eq_true', decide_eq_false_iff_not, ne_eq, Decidable.not_not, true_and, and_true, Nat.reduceAdd, Nat.reduceLeDiff, Nat.reduceEqDiff, Nat.le_refl, not_true_eq_false, not_false_eq_true, reduceIte, eq_self, Int.reduceNeg, Int.reduceEq, Int.reduceLT, Int.reduceLE, Nat.zero_le, Nat.one_ne_zero, ev_web, ev_web_arr, Int.toNat_natCast, true_or]
  repeat refine And.intro (by omega) ?_
  rw [hQ129]
  clear hQ129 Q129
  refine kThen_N.mpr ?_
  have e5 : kup s4 18 (li q) 0 1 5 = σ 1 5 := by rw [kup_ne (by decide), k6 _ _ (by omega), k3 _ (by decide)]
  refine wpS_gen (fun Q130 hQ130 => ?_)
  simp only [wpS_skip, wpS_break, wpS_cont, wpS_retV, wpS_throw, wpS_seq, wpS_if, wpS_trunc, yS_let, yS_inc, kgK_i, kgK_r, kok_nil, kok_i0, kok_is, kok_r0, kok_rs, kok_n0, kok_ns, xS_put, xS_putOp, xS_ast0, xS_ast1, xS_astOp, wpS_E, wpS_call, wpS_callS, wpS_ret, kThen_N, kThen_B, kThen_C, kThen_R, kThen_T, kNext_N, kNext_C, kNext_B, kNext_R, wpE_K, wpE_KL, xE_I, xE_R, wpE_J, xE_bin, wpE_ladd, wpE_i2l, xE_get, xE_ald0, xE_ald1, wpE_if, xE_max, xE_min, wpE_len, wpA_nil, wpA_snoc, xE_call, xE_callS, xC_C, xC_L, xC_Z, wpC_and, wpC_or, wpC_not, wpC_if, kcmp_0, kcmp_1, kcmp_2, kcmp_3, kcmp_4, kcmp_5, rR_inj, kgO_some, kgO_add, kgO_sub, kgO_mul, kgO_div, kgO_rem, kgO_and, kvI_inl, kvJ_inl, kgI_0, kgI_s, kgR_0, kgR_s, kst_nil, kst_0, kst_s, kNLl_nil, kNLl_i, kNLl_r, kNLl_n, ktag_i, ktag_r, List.length_cons, List.length_nil, List.take_succ_cons, List.take_zero, List.take_nil, List.nil_append, List.cons_append, decide_eq_true_eq, Bool.not_eq_true, Bool.not_eq_true', decide_eq_false_iff_not, ne_eq, Decidable.not_not, true_and, and_true, Nat.reduceAdd, Nat.reduceLeDiff, Nat.reduceEqDiff, Nat.le_refl, not_true_eq_false, not_false_eq_true, reduceIte, eq_self, Int.reduceNeg, Int.reduceEq, Int.reduceLT, Int.reduceLE, Nat.zero_le, Nat.one_ne_zero, ev_web, e5]
  repeat refine And.intro (by omega) ?_
  rw [hQ130]
  clear hQ130 Q130
  rw [hQ0]
  refine kThen_N.mpr (wpS_retV.mpr ⟨none, rfl, rfl, ?_⟩)
  obtain ⟨s5, hs5⟩ : ∃ s5, s5 = kup (kup s4 18 (li q) 0) 1 5 (σ 1 5 + 1) := ⟨_, rfl⟩
  rw [← hs5]
  have m1 : ∀ o k, o ≠ 1 → o ≠ 18 → s5 o k = s4 o k := by intro o k e1 e2; rw [hs5, kup_ne e1, kup_ne e2]
  have m2 : ∀ k, k ≠ 5 → s5 1 k = s2 1 k := by intro k e; rw [hs5, kup_eq, if_neg e, kup_ne (by decide), k6 _ _ (by omega)]
  have m3 : s5 1 5 = σ 1 5 + 1 := by rw [hs5, kup_eq, if_pos rfl]
  have m4 : ∀ x, s5 18 x = if x = li q then 0 else σ 18 x := by
    intro x; rw [hs5, kup_ne (by decide), kup_eq]
    split
    · rfl
    · rw [k6 _ _ (by omega), k2 _ _ (by decide) (by decide)]
  refine ⟨rfl, fun o k ho => ?_, m3, ?_⟩
  · unfold isWb at ho
    rw [m1 o k (by omega) (by omega), k6 o k (by omega), k2 o k (by omega) (by omega)]
  · have hlx : ∀ k, k < c → li k < ar := fun k hk => (g4 k hk).1
    refine ⟨by rw [m2 _ (by decide), k3 _ (by decide)]; exact h1, by rw [m2 _ (by decide)]; exact k4, by rw [m2 _ (by decide), k3 _ (by decide)]; exact h3, fun x => by rw [m1 _ _ (by decide) (by decide), k6 _ _ (by omega), k2 _ _ (by decide) (by decide)]; exact h4 x,
      fun x => by rw [m1 _ _ (by decide) (by decide), k6 _ _ (by omega), k2 _ _ (by decide) (by decide)]; exact h5 x, fun k hk => by rw [m1 _ _ (by decide) (by decide), k6 _ _ (by omega)]; exact k5 k hk,
      fun x hx => ?_, _, _, _, _, (b2.agree (fun k => c1 _ _ (by decide) (by decide) (by decide)) (fun k => c1 _ _ (by decide) (by decide) (by decide)) (fun k => c1 _ _ (by decide) (by decide) (by decide))).agree (fun k => m1 _ _ (by decide) (by decide)) (fun k => m1 _ _ (by decide) (by decide)) (fun k => m1 _ _ (by decide) (by decide)),
      fan_rem h9 hinj hq rfl po1 po2 (fun k hk => rfl) (fun i hi => rfl), c2.agree (fun k => m1 _ _ (by decide) (by decide)) (fun k => m1 _ _ (by decide) (by decide)) (fun k => m1 _ _ (by decide) (by decide)), fan_rem h11 hinj hq rfl pi1 pi2 (fun k hk => rfl) (fun i hi => rfl)⟩
    rw [m4, th_rem hinj hq (fun k hk => rfl)]
    obtain ⟨n1, n2⟩ := h7 x hx
    grind
end W2
