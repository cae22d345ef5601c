/-! THE CLASS HANGS nodes -/
noncomputable def cAl2 (c : Nat) (li fs sn : Nat → Nat) (P : Nat → Nat → Prop) (v : Nat) : List Nat :=
  (List.range 10000).filter (fun e => @decide (∃ x, th c li x ∧ P v x ∧ (fs x = v ∨ sn x = v) ∧ e = hc fs v x) (Classical.propDecidable _))
theorem cAl2_mem {n c ar : Nat} {li fs sn : Nat → Nat} {P : Nat → Nat → Prop} (hG : gOk n c ar li fs sn) {v e : Nat} : e ∈ cAl2 c li fs sn P v ↔ ∃ x, th c li x ∧ P v x ∧ (fs x = v ∨ sn x = v) ∧ e = hc fs v x := by
  unfold cAl2
  rw [List.mem_filter, List.mem_range, @decide_eq_true_eq _ (Classical.propDecidable _)]
  constructor
  · exact fun h => h.2
  · rintro ⟨x, h1, h2, h3, h4⟩
    refine ⟨?_, x, h1, h2, h3, h4⟩
    have := (th_lt hG h1).2.1
    unfold hc at h4
    split at h4 <;> omega
theorem place_ok {σ : kS} {v : Nat} {u a l d : Int} (hv : v < 300) : wpF F_Trees_place [.inr (.inl 4), .inl (v : Int), .inl u, .inl a, .inl l, .inl d] σ (fun r s => r = none ∧ s = kup (kup (kup (kup σ 25 v l) 26 v u) 27 v a) 28 v d) := by
  unfold F_Trees_place
  rw [wpF_kF]
  refine ⟨rfl, rfl, ?_⟩
  unfold s_Trees_place
  simp only [List.map_cons, List.map_nil]
  refine wpS_seq' (fun Q0 hQ0 => ?_)
  refine wpS_seq' (fun Q101 hQ101 => ?_)
  simp only [wpS_skip, wpS_break, wpS_cont, wpS_retV, wpS_throw, wpS_seq, wpS_if, wpS_trunc, yS_let, yS_inc, kgK_i, kgK_r, kok_nil, kok_i0, kok_is, kok_r0, kok_rs, kok_n0, kok_ns, xS_put, xS_putOp, xS_ast0, xS_ast1, xS_astOp, wpS_E, wpS_call, wpS_callS, wpS_ret, kThen_N, kThen_B, kThen_C, kThen_R, kThen_T, kNext_N, kNext_C, kNext_B, kNext_R, wpE_K, wpE_KL, xE_I, xE_R, wpE_J, xE_bin, wpE_ladd, wpE_i2l, xE_get, xE_ald0, xE_ald1, wpE_if, xE_max, xE_min, wpE_len, wpA_nil, wpA_snoc, xE_call, xE_callS, xC_C, xC_L, xC_Z, wpC_and, wpC_or, wpC_not, wpC_if, kcmp_0, kcmp_1, kcmp_2, kcmp_3, kcmp_4, kcmp_5, rR_inj, kgO_some, kgO_add, kgO_sub, kgO_mul, kgO_div, kgO_rem, kgO_and, kvI_inl, kvJ_inl, kgI_0, kgI_s, kgR_0, kgR_s, kst_nil, kst_0, kst_s, kNLl_nil, kNLl_i, kNLl_r, kNLl_n, ktag_i, ktag_r, List.length_cons, List.length_nil, List.take_succ_cons, List.take_zero, List.take_nil, List.nil_append, List.cons_append, decide_eq_true_eq, Bool.not_eq_true, Bool.not_eq_true', decide_eq_false_iff_not, ne_eq, Decidable.not_not, true_and, and_true, Nat.reduceAdd, Nat.reduceLeDiff, Nat.reduceEqDiff, Nat.le_refl, not_true_eq_false, not_false_eq_true, reduceIte, eq_self, Int.reduceNeg, Int.reduceEq, Int.reduceLT, Int.reduceLE, Nat.zero_le, Nat.one_ne_zero, ev_trees, ev_trees_arr, Int.toNat_natCast]
  repeat refine And.intro (by omega) ?_
  rw [hQ101]
  clear hQ101 Q101
  refine kThen_N.mpr ?_
  refine wpS_seq' (fun Q102 hQ102 => ?_)
  simp only [wpS_skip, wpS_break, wpS_cont, wpS_retV, wpS_throw, wpS_seq, wpS_if, wpS_trunc, yS_let, yS_inc, kgK_i, kgK_r, kok_nil, kok_i0, kok_is, kok_r0, kok_rs, kok_n0, kok_ns, xS_put, xS_putOp, xS_ast0, xS_ast1, xS_astOp, wpS_E, wpS_call, wpS_callS, wpS_ret, kThen_N, kThen_B, kThen_C, kThen_R, kThen_T, kNext_N, kNext_C, kNext_B, kNext_R, wpE_K, wpE_KL, xE_I, xE_R, wpE_J, xE_bin, wpE_ladd, wpE_i2l, xE_get, xE_ald0, xE_ald1, wpE_if, xE_max, xE_min, wpE_len, wpA_nil, wpA_snoc, xE_call, xE_callS, xC_C, xC_L, xC_Z, wpC_and, wpC_or, wpC_not, wpC_if, kcmp_0, kcmp_1, kcmp_2, kcmp_3, kcmp_4, kcmp_5, rR_inj, kgO_some, kgO_add, kgO_sub, kgO_mul, kgO_div, kgO_rem, kgO_and, kvI_inl, kvJ_inl, kgI_0, kgI_s, kgR_0, kgR_s, kst_nil, kst_0, kst_s, kNLl_nil, kNLl_i, kNLl_r, kNLl_n, ktag_i, ktag_r, List.length_cons, List.length_nil, List.take_succ_cons, List.take_zero, List.take_nil, List.nil_append, List.cons_append, decide_eq_true_eq, Bool.not_eq_true, Bool.not_eq_true', decide_eq_false_iff_not, ne_eq, Decidable.not_not, true_and, and_true, Nat.reduceAdd, Nat.reduceLeDiff, Nat.reduceEqDiff, Nat.le_refl, not_true_eq_false, not_false_eq_true, reduceIte, eq_self, Int.reduceNeg, Int.reduceEq, Int.reduceLT, Int.reduceLE, Nat.zero_le, Nat.one_ne_zero, ev_trees, ev_trees_arr, Int.toNat_natCast]
  repeat refine And.intro (by omega) ?_
  rw [hQ102]
  clear hQ102 Q102
  refine kThen_N.mpr ?_
  refine wpS_seq' (fun Q103 hQ103 => ?_)
  simp only [wpS_skip, wpS_break, wpS_cont, wpS_retV, wpS_throw, wpS_seq, wpS_if, wpS_trunc, yS_let, yS_inc, kgK_i, kgK_r, kok_nil, kok_i0, kok_is, kok_r0, kok_rs, kok_n0, kok_ns, xS_put, xS_putOp, xS_ast0, xS_ast1, xS_astOp, wpS_E, wpS_call, wpS_callS, wpS_ret, kThen_N, kThen_B, kThen_C, kThen_R, kThen_T, kNext_N, kNext_C, kNext_B, kNext_R, wpE_K, wpE_KL, xE_I, xE_R, wpE_J, xE_bin, wpE_ladd, wpE_i2l, xE_get, xE_ald0, xE_ald1, wpE_if, xE_max, xE_min, wpE_len, wpA_nil, wpA_snoc, xE_call, xE_callS, xC_C, xC_L, xC_Z, wpC_and, wpC_or, wpC_not, wpC_if, kcmp_0, kcmp_1, kcmp_2, kcmp_3, kcmp_4, kcmp_5, rR_inj, kgO_some, kgO_add, kgO_sub, kgO_mul, kgO_div, kgO_rem, kgO_and, kvI_inl, kvJ_inl, kgI_0, kgI_s, kgR_0, kgR_s, kst_nil, kst_0, kst_s, kNLl_nil, kNLl_i, kNLl_r, kNLl_n, ktag_i, ktag_r, List.length_cons, List.length_nil, List.take_succ_cons, List.take_zero, List.take_nil, List.nil_append, List.cons_append, decide_eq_true_eq, Bool.not_eq_true, Bool.not_eq_true', decide_eq_false_iff_not, ne_eq, Decidable.not_not, true_and, and_true, Nat.reduceAdd, Nat.reduceLeDiff, Nat.reduceEqDiff, Nat.le_refl, not_true_eq_false, not_false_eq_true, reduceIte, eq_self, Int.reduceNeg, Int.reduceEq, Int.reduceLT, Int.reduceLE, Nat.zero_le, Nat.one_ne_zero, ev_trees, ev_trees_arr, Int.toNat_natCast]
  repeat refine And.intro (by omega) ?_
  rw [hQ103]
  clear hQ103 Q103
  refine kThen_N.mpr ?_
  refine wpS_gen (fun Q104 hQ104 => ?_)
  simp only [wpS_skip, wpS_break, wpS_cont, wpS_retV, wpS_throw, wpS_seq, wpS_if, wpS_trunc, yS_let, yS_inc, kgK_i, kgK_r, kok_nil, kok_i0, kok_is, kok_r0, kok_rs, kok_n0, kok_ns, xS_put, xS_putOp, xS_ast0, xS_ast1, xS_astOp, wpS_E, wpS_call, wpS_callS, wpS_ret, kThen_N, kThen_B, kThen_C, kThen_R, kThen_T, kNext_N, kNext_C, kNext_B, kNext_R, wpE_K, wpE_KL, xE_I, xE_R, wpE_J, xE_bin, wpE_ladd, wpE_i2l, xE_get, xE_ald0, xE_ald1, wpE_if, xE_max, xE_min, wpE_len, wpA_nil, wpA_snoc, xE_call, xE_callS, xC_C, xC_L, xC_Z, wpC_and, wpC_or, wpC_not, wpC_if, kcmp_0, kcmp_1, kcmp_2, kcmp_3, kcmp_4, kcmp_5, rR_inj, kgO_some, kgO_add, kgO_sub, kgO_mul, kgO_div, kgO_rem, kgO_and, kvI_inl, kvJ_inl, kgI_0, kgI_s, kgR_0, kgR_s, kst_nil, kst_0, kst_s, kNLl_nil, kNLl_i, kNLl_r, kNLl_n, ktag_i, ktag_r, List.length_cons, List.length_nil, List.take_succ_cons, List.take_zero, List.take_nil, List.nil_append, List.cons_append, decide_eq_true_eq, Bool.not_eq_true, Bool.not_eq_true', decide_eq_false_iff_not, ne_eq, Decidable.not_not, true_and, and_true, Nat.reduceAdd, Nat.reduceLeDiff, Nat.reduceEqDiff, Nat.le_refl, not_true_eq_false, not_false_eq_true, reduceIte, eq_self, Int.reduceNeg, Int.reduceEq, Int.reduceLT, Int.reduceLE, Nat.zero_le, Nat.one_ne_zero, ev_trees, ev_trees_arr, Int.toNat_natCast]
  repeat refine And.intro (by omega) ?_
  rw [hQ104]
  clear hQ104 Q104
  rw [hQ0]
  refine kThen_N.mpr (wpS_retV.mpr ⟨none, rfl, rfl, ?_⟩)
  exact ⟨rfl, rfl⟩
/-- how far a hanging has come -/
def hgS (c : Nat) (li fs sn : Nat → Nat) (tr : Nat → Int) (fr : Nat) (upp aup lea dee : Int) (σ s : kS) (t : Nat) (q dp : Nat → Nat) : Prop :=
  (∀ o k, o ≠ 25 → o ≠ 26 → o ≠ 27 → o ≠ 28 → o ≠ 29 → s o k = σ o k) ∧ (∀ i, i < t → s 29 i = (q i : Int) ∧ s 25 (q i) = lea ∧ s 28 (q i) = dee + (dp (q i) : Int)) ∧ (s 26 fr = upp ∧ s 27 fr = aup) ∧
  (∀ i, 0 < i → i < t → ∃ j x : Nat, j < t ∧ th c li x ∧ tr x ≠ 0 ∧ s 27 (q i) = (x : Int) ∧ s 26 (q i) = (q j : Int) ∧ dp (q i) = dp (q j) + 1 ∧ ((fs x = q i ∧ sn x = q j) ∨ (sn x = q i ∧ fs x = q j))) ∧
  (∀ v, (¬ ∃ i, i < t ∧ q i = v) → s 25 v = σ 25 v ∧ s 26 v = σ 26 v ∧ s 27 v = σ 27 v ∧ s 28 v = σ 28 v)
/-- what hang answers: V is what hangs newly -/
def hgAns (c : Nat) (li fs sn : Nat → Nat) (tr : Nat → Int) (fr : Nat) (upp aup lea dee : Int) (σ s : kS) (V : Nat → Prop) : Prop :=
  (∀ o k, o ≠ 25 → o ≠ 26 → o ≠ 27 → o ≠ 28 → o ≠ 29 → s o k = σ o k) ∧ (s 26 fr = upp ∧ s 27 fr = aup ∧ s 28 fr = dee) ∧
  (∀ v, V v → s 25 v = lea ∧ ∃ d : Nat, d ≤ 300 ∧ s 28 v = dee + d) ∧
  (∀ v, V v → v ≠ fr → ∃ p x : Nat, V p ∧ th c li x ∧ tr x ≠ 0 ∧ s 27 v = (x : Int) ∧ s 26 v = (p : Int) ∧ s 28 v = s 28 p + 1 ∧ ((fs x = v ∧ sn x = p) ∨ (sn x = v ∧ fs x = p))) ∧
  (∀ v, ¬ V v → s 25 v = σ 25 v ∧ s 26 v = σ 26 v ∧ s 27 v = σ 27 v ∧ s 28 v = σ 28 v)
theorem hang_ok {σ : kS} {n c ar fr : Nat} {li fs sn lv : Nat → Nat} {tr : Nat → Int} {upp aup lea dee : Int} (hG : gOk n c ar li fs sn) (hW : Wb σ n c ar li fs sn) (hT : Tb σ lv tr) (hfr : fr < n) (hdee : 0 ≤ dee ∧ dee ≤ 100000) :
    wpF F_Trees_hang [.inr (.inl 4), .inl (fr : Int), .inl upp, .inl aup, .inl lea, .inl dee] σ (fun r s => r = none ∧
      hgAns c li fs sn tr fr upp aup lea dee σ s (rch (fun u v => uE (fun x => th c li x ∧ tr x ≠ 0) fs sn u v ∧ σ 25 v ≠ lea) fr)) := by
  have hn3 := hG.1
  have hc9 := hG.2.1
  obtain ⟨P, hP⟩ : ∃ P : Nat → Nat → Prop, P = fun v x => tr x ≠ 0 ∧ σ 25 (othr fs sn x v) ≠ lea := ⟨_, rfl⟩
  obtain ⟨al, hal⟩ : ∃ al, al = cAl2 c li fs sn P := ⟨_, rfl⟩
  have hE : bE al (mtg fs sn) = fun u v => uE (fun x => th c li x ∧ tr x ≠ 0) fs sn u v ∧ σ 25 v ≠ lea := by
    funext u v
    rw [hal]
    refine propext ⟨?_, ?_⟩
    · rintro ⟨e, he, rfl⟩
      obtain ⟨x, h1, h2, h3, rfl⟩ := (cAl2_mem hG).mp he
      rw [hP] at h2
      rw [mtg_hc.1]
      exact ⟨⟨x, ⟨h1, h2.1⟩, othr_at h3⟩, h2.2⟩
    · rintro ⟨⟨x, ⟨h1, h2⟩, h3⟩, h4⟩
      exact ⟨hc fs u x, (cAl2_mem hG).mpr ⟨x, h1, by rw [hP]; exact ⟨h2, by rw [othr_eq h3]; exact h4⟩, h3.elim (fun q => Or.inl q.1) (fun q => Or.inr q.1), rfl⟩, by rw [mtg_hc.1]; exact othr_eq h3⟩
  rw [← hE]
  obtain ⟨w1, w2, w3, w4, w5, w6, w7, Fo, So, Fi, Si, w8, w9, w10, w11⟩ := id hW
  unfold F_Trees_hang
  rw [wpF_kF]
  refine ⟨rfl, rfl, ?_⟩
  unfold s_Trees_hang
  simp only [List.map_cons, List.map_nil]
  refine wpS_seq' (fun Q0 hQ0 => ?_)
  refine wpS_seq' (fun Q105 hQ105 => ?_)
  simp only [wpS_skip, wpS_break, wpS_cont, wpS_retV, wpS_throw, wpS_seq, wpS_if, wpS_trunc, yS_let, yS_inc, kgK_i, kgK_r, kok_nil, kok_i0, kok_is, kok_r0, kok_rs, kok_n0, kok_ns, xS_put, xS_putOp, xS_ast0, xS_ast1, xS_astOp, wpS_E, wpS_call, wpS_callS, wpS_ret, kThen_N, kThen_B, kThen_C, kThen_R, kThen_T, kNext_N, kNext_C, kNext_B, kNext_R, wpE_K, wpE_KL, xE_I, xE_R, wpE_J, xE_bin, wpE_ladd, wpE_i2l, xE_get, xE_ald0, xE_ald1, wpE_if, xE_max, xE_min, wpE_len, wpA_nil, wpA_snoc, xE_call, xE_callS, xC_C, xC_L, xC_Z, wpC_and, wpC_or, wpC_not, wpC_if, kcmp_0, kcmp_1, kcmp_2, kcmp_3, kcmp_4, kcmp_5, rR_inj, kgO_some, kgO_add, kgO_sub, kgO_mul, kgO_div, kgO_rem, kgO_and, kvI_inl, kvJ_inl, kgI_0, kgI_s, kgR_0, kgR_s, kst_nil, kst_0, kst_s, kNLl_nil, kNLl_i, kNLl_r, kNLl_n, ktag_i, ktag_r, List.length_cons, List.length_nil, List.take_succ_cons, List.take_zero, List.take_nil, List.nil_append, List.cons_append, decide_eq_true_eq, Bool.not_eq_true, Bool.not_eq_true', decide_eq_false_iff_not, ne_eq, Decidable.not_not, true_and, and_true, Nat.reduceAdd, Nat.reduceLeDiff, Nat.reduceEqDiff, Nat.le_refl, not_true_eq_false, not_false_eq_true, reduceIte, eq_self, Int.reduceNeg, Int.reduceEq, Int.reduceLT, Int.reduceLE, Nat.zero_le, Nat.one_ne_zero, ev_trees]
  refine (place_ok (by omega)).mono ?_
  rintro r s0 ⟨rfl, hs0⟩
  refine ⟨rfl, ?_⟩
  rw [hQ105]
  clear hQ105
  refine kThen_N.mpr ?_
  refine wpS_seq' (fun Q106 hQ106 => ?_)
  simp only [wpS_skip, wpS_break, wpS_cont, wpS_retV, wpS_throw, wpS_seq, wpS_if, wpS_trunc, yS_let, yS_inc, kgK_i, kgK_r, kok_nil, kok_i0, kok_is, kok_r0, kok_rs, kok_n0, kok_ns, xS_put, xS_putOp, xS_ast0, xS_ast1, xS_astOp, wpS_E, wpS_call, wpS_callS, wpS_ret, kThen_N, kThen_B, kThen_C, kThen_R, kThen_T, kNext_N, kNext_C, kNext_B, kNext_R, wpE_K, wpE_KL, xE_I, xE_R, wpE_J, xE_bin, wpE_ladd, wpE_i2l, xE_get, xE_ald0, xE_ald1, wpE_if, xE_max, xE_min, wpE_len, wpA_nil, wpA_snoc, xE_call, xE_callS, xC_C, xC_L, xC_Z, wpC_and, wpC_or, wpC_not, wpC_if, kcmp_0, kcmp_1, kcmp_2, kcmp_3, kcmp_4, kcmp_5, rR_inj, kgO_some, kgO_add, kgO_sub, kgO_mul, kgO_div, kgO_rem, kgO_and, kvI_inl, kvJ_inl, kgI_0, kgI_s, kgR_0, kgR_s, kst_nil, kst_0, kst_s, kNLl_nil, kNLl_i, kNLl_r, kNLl_n, ktag_i, ktag_r, List.length_cons, List.length_nil, List.take_succ_cons, List.take_zero, List.take_nil, List.nil_append, List.cons_append, decide_eq_true_eq, Bool.not_eq_true, Bool.not_eq_true', decide_eq_false_iff_not, ne_eq, Decidable.not_not, true_and, and_true, Nat.reduceAdd, Nat.reduceLeDiff, Nat.reduceEqDiff, Nat.le_refl, not_true_eq_false, not_false_eq_true, reduceIte, eq_self, Int.reduceNeg, Int.reduceEq, Int.reduceLT, Int.reduceLE, Nat.zero_le, Nat.one_ne_zero, ev_trees, ev_trees_arr, Int.toNat_natCast]
  repeat refine And.intro (by omega) ?_
  rw [hQ106]
  clear hQ106 Q106
  refine kThen_N.mpr ?_
  refine wpS_seq' (fun Q107 hQ107 => ?_)
  simp only [wpS_skip, wpS_break, wpS_cont, wpS_retV, wpS_throw, wpS_seq, wpS_if, wpS_trunc, yS_let, yS_inc, kgK_i, kgK_r, kok_nil, kok_i0, kok_is, kok_r0, kok_rs, kok_n0, kok_ns, xS_put, xS_putOp, xS_ast0, xS_ast1, xS_astOp, wpS_E, wpS_call, wpS_callS, wpS_ret, kThen_N, kThen_B, kThen_C, kThen_R, kThen_T, kNext_N, kNext_C, kNext_B, kNext_R, wpE_K, wpE_KL, xE_I, xE_R, wpE_J, xE_bin, wpE_ladd, wpE_i2l, xE_get, xE_ald0, xE_ald1, wpE_if, xE_max, xE_min, wpE_len, wpA_nil, wpA_snoc, xE_call, xE_callS, xC_C, xC_L, xC_Z, wpC_and, wpC_or, wpC_not, wpC_if, kcmp_0, kcmp_1, kcmp_2, kcmp_3, kcmp_4, kcmp_5, rR_inj, kgO_some, kgO_add, kgO_sub, kgO_mul, kgO_div, kgO_rem, kgO_and, kvI_inl, kvJ_inl, kgI_0, kgI_s, kgR_0, kgR_s, kst_nil, kst_0, kst_s, kNLl_nil, kNLl_i, kNLl_r, kNLl_n, ktag_i, ktag_r, List.length_cons, List.length_nil, List.take_succ_cons, List.take_zero, List.take_nil, List.nil_append, List.cons_append, decide_eq_true_eq, Bool.not_eq_true, Bool.not_eq_true', decide_eq_false_iff_not, ne_eq, Decidable.not_not, true_and, and_true, Nat.reduceAdd, Nat.reduceLeDiff, Nat.reduceEqDiff, Nat.le_refl, not_true_eq_false, not_false_eq_true, reduceIte, eq_self, Int.reduceNeg, Int.reduceEq, Int.reduceLT, Int.reduceLE, Nat.zero_le, Nat.one_ne_zero]
  repeat refine And.intro (by omega) ?_
  rw [hQ107]
  clear hQ107 Q107
  refine kThen_N.mpr ?_
  refine wpS_gen (fun Q1 hQ1 => ?_)
  unfold l_Trees_hang_2
  refine wpS_fortG (fun h P s => ∃ (t : Nat) (q dp by' : Nat → Nat), P = [some (.inr (.inl 4)), some (.inl (fr : Int)), some (.inl upp), some (.inl aup), some (.inl lea), some (.inl dee), some (.inl (t : Int))] ∧ bf n al (mtg fs sn) fr h t q dp by' ∧ hgS c li fs sn tr fr upp aup lea dee σ s t q dp) (fun m => (m : Int)) n rfl rfl ?_ ?_ ?_ ?_
  · simp only [wpS_skip, wpS_break, wpS_cont, wpS_retV, wpS_throw, wpS_seq, wpS_if, wpS_trunc, yS_let, yS_inc, kgK_i, kgK_r, kok_nil, kok_i0, kok_is, kok_r0, kok_rs, kok_n0, kok_ns, xS_put, xS_putOp, xS_ast0, xS_ast1, xS_astOp, wpS_E, wpS_call, wpS_callS, wpS_ret, kThen_N, kThen_B, kThen_C, kThen_R, kThen_T, kNext_N, kNext_C, kNext_B, kNext_R, wpE_K, wpE_KL, xE_I, xE_R, wpE_J, xE_bin, wpE_ladd, wpE_i2l, xE_get, xE_ald0, xE_ald1, wpE_if, xE_max, xE_min, wpE_len, wpA_nil, wpA_snoc, xE_call, xE_callS, xC_C, xC_L, xC_Z, wpC_and, wpC_or, wpC_not, wpC_if, kcmp_0, kcmp_1, kcmp_2, kcmp_3, kcmp_4, kcmp_5, rR_inj, kgO_some, kgO_add, kgO_sub, kgO_mul, kgO_div, kgO_rem, kgO_and, kvI_inl, kvJ_inl, kgI_0, kgI_s, kgR_0, kgR_s, kst_nil, kst_0, kst_s, kNLl_nil, kNLl_i, kNLl_r, kNLl_n, ktag_i, ktag_r, List.length_cons, List.length_nil, List.take_succ_cons, List.take_zero, List.take_nil, List.nil_append, List.cons_append, decide_eq_true_eq, Bool.not_eq_true, Bool.not_eq_true', decide_eq_false_iff_not, ne_eq, Decidable.not_not, true_and, and_true, Nat.reduceAdd, Nat.reduceLeDiff, Nat.reduceEqDiff, Nat.le_refl, not_true_eq_false, not_false_eq_true, reduceIte, eq_self, Int.reduceNeg, Int.reduceEq, Int.reduceLT, Int.reduceLE, Nat.zero_le, Nat.one_ne_zero]; trivial
  · refine ⟨1, fun _ => fr, fun _ => 0, fun _ => 0, rfl, bf_start hfr rfl, ?_, ?_, ?_, ?_, ?_⟩
    · intro o k h1 h2 h3 h4 h5; rw [kup_ne h5, hs0, kup_ne h4, kup_ne h3, kup_ne h2, kup_ne h1]
    · intro i hi; have : i = 0 := by omega
      subst this; rw [hs0]; simp [kup]
    · rw [hs0]; simp [kup]
    · intro i h0 h1; omega
    · intro v hv
      have : v ≠ fr := fun e => hv ⟨0, by omega, e.symm⟩
      rw [hs0]; simp [kup, this]
  · rintro h P s ⟨t, q, dp, by', rfl, -⟩; exact ⟨rfl, rfl⟩
  · clear hs0
    rintro h P' s hh ⟨t, q, dp, by', rfl, B, S1, S2, S3, S4, S5⟩
    have htn := bf_le B
    have hht : h ≤ t := B.2.1
    rcases Nat.lt_or_ge h t with hlt | hlt
    · have c1 : (h : Int) < 300 := by omega
      have c2 : (h : Int) < (t : Int) := by omega
      refine wpC_gen (fun Q2 hQ2 => ?_)
      simp only [wpS_skip, wpS_break, wpS_cont, wpS_retV, wpS_throw, wpS_seq, wpS_if, wpS_trunc, yS_let, yS_inc, kgK_i, kgK_r, kok_nil, kok_i0, kok_is, kok_r0, kok_rs, kok_n0, kok_ns, xS_put, xS_putOp, xS_ast0, xS_ast1, xS_astOp, wpS_E, wpS_call, wpS_callS, wpS_ret, kThen_N, kThen_B, kThen_C, kThen_R, kThen_T, kNext_N, kNext_C, kNext_B, kNext_R, wpE_K, wpE_KL, xE_I, xE_R, wpE_J, xE_bin, wpE_ladd, wpE_i2l, xE_get, xE_ald0, xE_ald1, wpE_if, xE_max, xE_min, wpE_len, wpA_nil, wpA_snoc, xE_call, xE_callS, xC_C, xC_L, xC_Z, wpC_and, wpC_or, wpC_not, wpC_if, kcmp_0, kcmp_1, kcmp_2, kcmp_3, kcmp_4, kcmp_5, rR_inj, kgO_some, kgO_add, kgO_sub, kgO_mul, kgO_div, kgO_rem, kgO_and, kvI_inl, kvJ_inl, kgI_0, kgI_s, kgR_0, kgR_s, kst_nil, kst_0, kst_s, kNLl_nil, kNLl_i, kNLl_r, kNLl_n, ktag_i, ktag_r, List.length_cons, List.length_nil, List.take_succ_cons, List.take_zero, List.take_nil, List.nil_append, List.cons_append, decide_eq_true_eq, Bool.not_eq_true, Bool.not_eq_true', decide_eq_false_iff_not, ne_eq, Decidable.not_not, true_and, and_true, Nat.reduceAdd, Nat.reduceLeDiff, Nat.reduceEqDiff, Nat.le_refl, not_true_eq_false, not_false_eq_true, reduceIte, eq_self, Int.reduceNeg, Int.reduceEq, Int.reduceLT, Int.reduceLE, Nat.zero_le, Nat.one_ne_zero, c1, c2, decide_true, decide_false, Bool.false_eq_true, if_true, if_false, true_and, and_true, not_true_eq_false, not_false_eq_true]
      rw [hQ2]
      refine ⟨rfl, Or.inl ⟨rfl, by omega, by simp, by omega, by omega, ?_⟩⟩
      rw [wpS_trunc]
      have hqn := B.2.2.2.2.1 h hlt
      have e29 := (S2 h hlt).1
      refine wpS_seq' (fun Q108 hQ108 => ?_)
      simp only [wpS_skip, wpS_break, wpS_cont, wpS_retV, wpS_throw, wpS_seq, wpS_if, wpS_trunc, yS_let, yS_inc, kgK_i, kgK_r, kok_nil, kok_i0, kok_is, kok_r0, kok_rs, kok_n0, kok_ns, xS_put, xS_putOp, xS_ast0, xS_ast1, xS_astOp, wpS_E, wpS_call, wpS_callS, wpS_ret, kThen_N, kThen_B, kThen_C, kThen_R, kThen_T, kNext_N, kNext_C, kNext_B, kNext_R, wpE_K, wpE_KL, xE_I, xE_R, wpE_J, xE_bin, wpE_ladd, wpE_i2l, xE_get, xE_ald0, xE_ald1, wpE_if, xE_max, xE_min, wpE_len, wpA_nil, wpA_snoc, xE_call, xE_callS, xC_C, xC_L, xC_Z, wpC_and, wpC_or, wpC_not, wpC_if, kcmp_0, kcmp_1, kcmp_2, kcmp_3, kcmp_4, kcmp_5, rR_inj, kgO_some, kgO_add, kgO_sub, kgO_mul, kgO_div, kgO_rem, kgO_and, kvI_inl, kvJ_inl, kgI_0, kgI_s, kgR_0, kgR_s, kst_nil, kst_0, kst_s, kNLl_nil, kNLl_i, kNLl_r, kNLl_n, ktag_i, ktag_r, List.length_cons, List.length_nil, List.take_succ_cons, List.take_zero, List.take_nil, List.nil_append, List.cons_append, decide_eq_true_eq, Bool.not_eq_true, Bool.not_eq_true', decide_eq_false_iff_not, ne_eq, Decidable.not_not, true_and, and_true, Nat.reduceAdd, Nat.reduceLeDiff, Nat.reduceEqDiff, Nat.le_refl, not_true_eq_false, not_false_eq_true, reduceIte, eq_self, Int.reduceNeg, Int.reduceEq, Int.reduceLT, Int.reduceLE, Nat.zero_le, Nat.one_ne_zero, ev_trees, ev_trees_arr, Int.toNat_natCast, e29]
      repeat refine And.intro (by omega) ?_
      rw [hQ108]
      clear hQ108 Q108
      refine kThen_N.mpr ?_
      refine wpS_seq' (fun Q109 hQ109 => ?_)
      simp only [wpS_skip, wpS_break, wpS_cont, wpS_retV, wpS_throw, wpS_seq, wpS_if, wpS_trunc, yS_let, yS_inc, kgK_i, kgK_r, kok_nil, kok_i0, kok_is, kok_r0, kok_rs, kok_n0, kok_ns, xS_put, xS_putOp, xS_ast0, xS_ast1, xS_astOp, wpS_E, wpS_call, wpS_callS, wpS_ret, kThen_N, kThen_B, kThen_C, kThen_R, kThen_T, kNext_N, kNext_C, kNext_B, kNext_R, wpE_K, wpE_KL, xE_I, xE_R, wpE_J, xE_bin, wpE_ladd, wpE_i2l, xE_get, xE_ald0, xE_ald1, wpE_if, xE_max, xE_min, wpE_len, wpA_nil, wpA_snoc, xE_call, xE_callS, xC_C, xC_L, xC_Z, wpC_and, wpC_or, wpC_not, wpC_if, kcmp_0, kcmp_1, kcmp_2, kcmp_3, kcmp_4, kcmp_5, rR_inj, kgO_some, kgO_add, kgO_sub, kgO_mul, kgO_div, kgO_rem, kgO_and, kvI_inl, kvJ_inl, kgI_0, kgI_s, kgR_0, kgR_s, kst_nil, kst_0, kst_s, kNLl_nil, kNLl_i, kNLl_r, kNLl_n, ktag_i, ktag_r, List.length_cons, List.length_nil, List.take_succ_cons, List.take_zero, List.take_nil, List.nil_append, List.cons_append, decide_eq_true_eq, Bool.not_eq_true, Bool.not_eq_true', decide_eq_false_iff_not, ne_eq, Decidable.not_not, true_and, and_true, Nat.reduceAdd, Nat.reduceLeDiff, Nat.reduceEqDiff, Nat.le_refl, not_true_eq_false, not_false_eq_true, reduceIte, eq_self, Int.reduceNeg, Int.reduceEq, Int.reduceLT, Int.reduceLE, Nat.zero_le, Nat.one_ne_zero, ev_trees, ev_web]
      have f8 := w8.agree (s' := s) (fun k => S1 _ _ (by decide) (by decide) (by decide) (by decide) (by decide)) (fun k => S1 _ _ (by decide) (by decide) (by decide) (by decide) (by decide)) (fun k => S1 _ _ (by decide) (by decide) (by decide) (by decide) (by decide))
      have f10 := w10.agree (s' := s) (fun k => S1 _ _ (by decide) (by decide) (by decide) (by decide) (by decide)) (fun k => S1 _ _ (by decide) (by decide) (by decide) (by decide) (by decide)) (fun k => S1 _ _ (by decide) (by decide) (by decide) (by decide) (by decide))
      refine (webDegree_ok f8 w9 f10 w11 hn3 hc9 hqn).mono ?_
      rintro r s' ⟨hs, rfl⟩
      subst s'
      rw [kgO_some]
      simp only [wpS_skip, wpS_break, wpS_cont, wpS_retV, wpS_throw, wpS_seq, wpS_if, wpS_trunc, yS_let, yS_inc, kgK_i, kgK_r, kok_nil, kok_i0, kok_is, kok_r0, kok_rs, kok_n0, kok_ns, xS_put, xS_putOp, xS_ast0, xS_ast1, xS_astOp, wpS_E, wpS_call, wpS_callS, wpS_ret, kThen_N, kThen_B, kThen_C, kThen_R, kThen_T, kNext_N, kNext_C, kNext_B, kNext_R, wpE_K, wpE_KL, xE_I, xE_R, wpE_J, xE_bin, wpE_ladd, wpE_i2l, xE_get, xE_ald0, xE_ald1, wpE_if, xE_max, xE_min, wpE_len, wpA_nil, wpA_snoc, xE_call, xE_callS, xC_C, xC_L, xC_Z, wpC_and, wpC_or, wpC_not, wpC_if, kcmp_0, kcmp_1, kcmp_2, kcmp_3, kcmp_4, kcmp_5, rR_inj, kgO_some, kgO_add, kgO_sub, kgO_mul, kgO_div, kgO_rem, kgO_and, kvI_inl, kvJ_inl, kgI_0, kgI_s, kgR_0, kgR_s, kst_nil, kst_0, kst_s, kNLl_nil, kNLl_i, kNLl_r, kNLl_n, ktag_i, ktag_r, List.length_cons, List.length_nil, List.take_succ_cons, List.take_zero, List.take_nil, List.nil_append, List.cons_append, decide_eq_true_eq, Bool.not_eq_true, Bool.not_eq_true', decide_eq_false_iff_not, ne_eq, Decidable.not_not, true_and, and_true, Nat.reduceAdd, Nat.reduceLeDiff, Nat.reduceEqDiff, Nat.le_refl, not_true_eq_false, not_false_eq_true, reduceIte, eq_self, Int.reduceNeg, Int.reduceEq, Int.reduceLT, Int.reduceLE, Nat.zero_le, Nat.one_ne_zero]
      rw [hQ109]
      clear hQ109
      refine kThen_N.mpr ?_
      have hd : dgr So Si (q h) ≤ 1800 := by
        have a3 := fan_le w9 (show q h + 1 ≤ n from hqn)
        have a4 := fan_le w11 (show q h + 1 ≤ n from hqn)
        unfold dgr; omega
      unfold l_Trees_hang_1
      obtain ⟨v, hv⟩ : ∃ v, v = q h := ⟨_, rfl⟩
      rw [← hv] at hqn hd ⊢
      refine wpS_fort (fun k P' s1 => ∃ (t : Nat) (q dp by' : Nat → Nat), P' = [some (.inr (.inl 4)), some (.inl (fr : Int)), some (.inl upp), some (.inl aup), some (.inl lea), some (.inl dee), some (.inl (t : Int)), some (.inl (h : Int)), some (.inl (v : Int)), some (.inl (dgr So Si v : Int))] ∧ h < t ∧ q h = v ∧ bf n al (mtg fs sn) fr h t q dp by' ∧ hgS c li fs sn tr fr upp aup lea dee σ s1 t q dp ∧ ∀ j, j < k → P v (atK Fo So Fi Si v j) → ∃ i, i < t ∧ q i = othr fs sn (atK Fo So Fi Si v j) v) 0 (dgr So Si v) rfl rfl ?_ ?_ ?_ ?_ ?_ ?_ ?_
      · simp only [wpS_skip, wpS_break, wpS_cont, wpS_retV, wpS_throw, wpS_seq, wpS_if, wpS_trunc, yS_let, yS_inc, kgK_i, kgK_r, kok_nil, kok_i0, kok_is, kok_r0, kok_rs, kok_n0, kok_ns, xS_put, xS_putOp, xS_ast0, xS_ast1, xS_astOp, wpS_E, wpS_call, wpS_callS, wpS_ret, kThen_N, kThen_B, kThen_C, kThen_R, kThen_T, kNext_N, kNext_C, kNext_B, kNext_R, wpE_K, wpE_KL, xE_I, xE_R, wpE_J, xE_bin, wpE_ladd, wpE_i2l, xE_get, xE_ald0, xE_ald1, wpE_if, xE_max, xE_min, wpE_len, wpA_nil, wpA_snoc, xE_call, xE_callS, xC_C, xC_L, xC_Z, wpC_and, wpC_or, wpC_not, wpC_if, kcmp_0, kcmp_1, kcmp_2, kcmp_3, kcmp_4, kcmp_5, rR_inj, kgO_some, kgO_add, kgO_sub, kgO_mul, kgO_div, kgO_rem, kgO_and, kvI_inl, kvJ_inl, kgI_0, kgI_s, kgR_0, kgR_s, kst_nil, kst_0, kst_s, kNLl_nil, kNLl_i, kNLl_r, kNLl_n, ktag_i, ktag_r, List.length_cons, List.length_nil, List.take_succ_cons, List.take_zero, List.take_nil, List.nil_append, List.cons_append, decide_eq_true_eq, Bool.not_eq_true, Bool.not_eq_true', decide_eq_false_iff_not, ne_eq, Decidable.not_not, true_and, and_true, Nat.reduceAdd, Nat.reduceLeDiff, Nat.reduceEqDiff, Nat.le_refl, not_true_eq_false, not_false_eq_true, reduceIte, eq_self, Int.reduceNeg, Int.reduceEq, Int.reduceLT, Int.reduceLE, Nat.zero_le, Nat.one_ne_zero]; trivial
      · omega
      · exact ⟨t, q, dp, by', rfl, hlt, hv.symm, B, ⟨S1, S2, S3, S4, S5⟩, fun j hj => by omega⟩
      · rintro k P s1 ⟨t, q, dp, by', rfl, -⟩; exact ⟨rfl, rfl⟩
      · rintro k P s1 h0 h1 ⟨t, q, dp, by', rfl, -⟩
        simp only [wpS_skip, wpS_break, wpS_cont, wpS_retV, wpS_throw, wpS_seq, wpS_if, wpS_trunc, yS_let, yS_inc, kgK_i, kgK_r, kok_nil, kok_i0, kok_is, kok_r0, kok_rs, kok_n0, kok_ns, xS_put, xS_putOp, xS_ast0, xS_ast1, xS_astOp, wpS_E, wpS_call, wpS_callS, wpS_ret, kThen_N, kThen_B, kThen_C, kThen_R, kThen_T, kNext_N, kNext_C, kNext_B, kNext_R, wpE_K, wpE_KL, xE_I, xE_R, wpE_J, xE_bin, wpE_ladd, wpE_i2l, xE_get, xE_ald0, xE_ald1, wpE_if, xE_max, xE_min, wpE_len, wpA_nil, wpA_snoc, xE_call, xE_callS, xC_C, xC_L, xC_Z, wpC_and, wpC_or, wpC_not, wpC_if, kcmp_0, kcmp_1, kcmp_2, kcmp_3, kcmp_4, kcmp_5, rR_inj, kgO_some, kgO_add, kgO_sub, kgO_mul, kgO_div, kgO_rem, kgO_and, kvI_inl, kvJ_inl, kgI_0, kgI_s, kgR_0, kgR_s, kst_nil, kst_0, kst_s, kNLl_nil, kNLl_i, kNLl_r, kNLl_n, ktag_i, ktag_r, List.length_cons, List.length_nil, List.take_succ_cons, List.take_zero, List.take_nil, List.nil_append, List.cons_append, decide_eq_true_eq, Bool.not_eq_true, Bool.not_eq_true', decide_eq_false_iff_not, ne_eq, Decidable.not_not, true_and, and_true, Nat.reduceAdd, Nat.reduceLeDiff, Nat.reduceEqDiff, Nat.le_refl, not_true_eq_false, not_false_eq_true, reduceIte, eq_self, Int.reduceNeg, Int.reduceEq, Int.reduceLT, Int.reduceLE, Nat.zero_le, Nat.one_ne_zero]
      · rintro k P' s1 h0 h1 ⟨t, q, dp, by', rfl, hlt, hqv, B, ⟨S1, S2, S3, S4, S5⟩, hdone⟩
        obtain ⟨x, hx⟩ : ∃ x, x = atK Fo So Fi Si v k := ⟨_, rfl⟩
        obtain ⟨hxt, hxe⟩ := at_there w9 w11 hqn h1
        rw [← hx] at hxt hxe
        obtain ⟨x1, x2, x3, x4⟩ := th_lt hG hxt
        have ho := othr_lt hG (v := v) hxt
        have f8 := w8.agree (s' := s1) (fun k => S1 _ _ (by decide) (by decide) (by decide) (by decide) (by decide)) (fun k => S1 _ _ (by decide) (by decide) (by decide) (by decide) (by decide)) (fun k => S1 _ _ (by decide) (by decide) (by decide) (by decide) (by decide))
        have f10 := w10.agree (s' := s1) (fun k => S1 _ _ (by decide) (by decide) (by decide) (by decide) (by decide)) (fun k => S1 _ _ (by decide) (by decide) (by decide) (by decide) (by decide)) (fun k => S1 _ _ (by decide) (by decide) (by decide) (by decide) (by decide))
        rw [wpS_trunc]
        refine wpS_seq' (fun Q110 hQ110 => ?_)
        simp only [wpS_skip, wpS_break, wpS_cont, wpS_retV, wpS_throw, wpS_seq, wpS_if, wpS_trunc, yS_let, yS_inc, kgK_i, kgK_r, kok_nil, kok_i0, kok_is, kok_r0, kok_rs, kok_n0, kok_ns, xS_put, xS_putOp, xS_ast0, xS_ast1, xS_astOp, wpS_E, wpS_call, wpS_callS, wpS_ret, kThen_N, kThen_B, kThen_C, kThen_R, kThen_T, kNext_N, kNext_C, kNext_B, kNext_R, wpE_K, wpE_KL, xE_I, xE_R, wpE_J, xE_bin, wpE_ladd, wpE_i2l, xE_get, xE_ald0, xE_ald1, wpE_if, xE_max, xE_min, wpE_len, wpA_nil, wpA_snoc, xE_call, xE_callS, xC_C, xC_L, xC_Z, wpC_and, wpC_or, wpC_not, wpC_if, kcmp_0, kcmp_1, kcmp_2, kcmp_3, kcmp_4, kcmp_5, rR_inj, kgO_some, kgO_add, kgO_sub, kgO_mul, kgO_div, kgO_rem, kgO_and, kvI_inl, kvJ_inl, kgI_0, kgI_s, kgR_0, kgR_s, kst_nil, kst_0, kst_s, kNLl_nil, kNLl_i, kNLl_r, kNLl_n, ktag_i, ktag_r, List.length_cons, List.length_nil, List.take_succ_cons, List.take_zero, List.take_nil, List.nil_append, List.cons_append, decide_eq_true_eq, Bool.not_eq_true, Bool.not_eq_true', decide_eq_false_iff_not, ne_eq, Decidable.not_not, true_and, and_true, Nat.reduceAdd, Nat.reduceLeDiff, Nat.reduceEqDiff, Nat.le_refl, not_true_eq_false, not_false_eq_true, reduceIte, eq_self, Int.reduceNeg, Int.reduceEq, Int.reduceLT, Int.reduceLE, Nat.zero_le, Nat.one_ne_zero, ev_trees, ev_web]
        refine (webArcAt_ok f8 w9 f10 w11 hn3 hc9 hqn h1).mono ?_
        rintro r s' ⟨hs, rfl⟩
        subst s'
        rw [kgO_some, ← hx]
        simp only [wpS_skip, wpS_break, wpS_cont, wpS_retV, wpS_throw, wpS_seq, wpS_if, wpS_trunc, yS_let, yS_inc, kgK_i, kgK_r, kok_nil, kok_i0, kok_is, kok_r0, kok_rs, kok_n0, kok_ns, xS_put, xS_putOp, xS_ast0, xS_ast1, xS_astOp, wpS_E, wpS_call, wpS_callS, wpS_ret, kThen_N, kThen_B, kThen_C, kThen_R, kThen_T, kNext_N, kNext_C, kNext_B, kNext_R, wpE_K, wpE_KL, xE_I, xE_R, wpE_J, xE_bin, wpE_ladd, wpE_i2l, xE_get, xE_ald0, xE_ald1, wpE_if, xE_max, xE_min, wpE_len, wpA_nil, wpA_snoc, xE_call, xE_callS, xC_C, xC_L, xC_Z, wpC_and, wpC_or, wpC_not, wpC_if, kcmp_0, kcmp_1, kcmp_2, kcmp_3, kcmp_4, kcmp_5, rR_inj, kgO_some, kgO_add, kgO_sub, kgO_mul, kgO_div, kgO_rem, kgO_and, kvI_inl, kvJ_inl, kgI_0, kgI_s, kgR_0, kgR_s, kst_nil, kst_0, kst_s, kNLl_nil, kNLl_i, kNLl_r, kNLl_n, ktag_i, ktag_r, List.length_cons, List.length_nil, List.take_succ_cons, List.take_zero, List.take_nil, List.nil_append, List.cons_append, decide_eq_true_eq, Bool.not_eq_true, Bool.not_eq_true', decide_eq_false_iff_not, ne_eq, Decidable.not_not, true_and, and_true, Nat.reduceAdd, Nat.reduceLeDiff, Nat.reduceEqDiff, Nat.le_refl, not_true_eq_false, not_false_eq_true, reduceIte, eq_self, Int.reduceNeg, Int.reduceEq, Int.reduceLT, Int.reduceLE, Nat.zero_le, Nat.one_ne_zero]
        rw [hQ110]
        clear hQ110
        refine kThen_N.mpr ?_
        refine wpS_seq' (fun Q111 hQ111 => ?_)
        simp only [wpS_skip, wpS_break, wpS_cont, wpS_retV, wpS_throw, wpS_seq, wpS_if, wpS_trunc, yS_let, yS_inc, kgK_i, kgK_r, kok_nil, kok_i0, kok_is, kok_r0, kok_rs, kok_n0, kok_ns, xS_put, xS_putOp, xS_ast0, xS_ast1, xS_astOp, wpS_E, wpS_call, wpS_callS, wpS_ret, kThen_N, kThen_B, kThen_C, kThen_R, kThen_T, kNext_N, kNext_C, kNext_B, kNext_R, wpE_K, wpE_KL, xE_I, xE_R, wpE_J, xE_bin, wpE_ladd, wpE_i2l, xE_get, xE_ald0, xE_ald1, wpE_if, xE_max, xE_min, wpE_len, wpA_nil, wpA_snoc, xE_call, xE_callS, xC_C, xC_L, xC_Z, wpC_and, wpC_or, wpC_not, wpC_if, kcmp_0, kcmp_1, kcmp_2, kcmp_3, kcmp_4, kcmp_5, rR_inj, kgO_some, kgO_add, kgO_sub, kgO_mul, kgO_div, kgO_rem, kgO_and, kvI_inl, kvJ_inl, kgI_0, kgI_s, kgR_0, kgR_s, kst_nil, kst_0, kst_s, kNLl_nil, kNLl_i, kNLl_r, kNLl_n, ktag_i, ktag_r, List.length_cons, List.length_nil, List.take_succ_cons, List.take_zero, List.take_nil, List.nil_append, List.cons_append, decide_eq_true_eq, Bool.not_eq_true, Bool.not_eq_true', decide_eq_false_iff_not, ne_eq, Decidable.not_not, true_and, and_true, Nat.reduceAdd, Nat.reduceLeDiff, Nat.reduceEqDiff, Nat.le_refl, not_true_eq_false, not_false_eq_true, reduceIte, eq_self, Int.reduceNeg, Int.reduceEq, Int.reduceLT, Int.reduceLE, Nat.zero_le, Nat.one_ne_zero, ev_trees, ev_web]
        refine (webOther_ok (fs := fs) (sn := sn) (fun x => by rw [S1 _ _ (by decide) (by decide) (by decide) (by decide) (by decide)]; exact w4 x) (fun x => by rw [S1 _ _ (by decide) (by decide) (by decide) (by decide) (by decide)]; exact w5 x) x2).mono ?_
        rintro r s' ⟨hs, rfl⟩
        subst s'
        rw [kgO_some]
        simp only [wpS_skip, wpS_break, wpS_cont, wpS_retV, wpS_throw, wpS_seq, wpS_if, wpS_trunc, yS_let, yS_inc, kgK_i, kgK_r, kok_nil, kok_i0, kok_is, kok_r0, kok_rs, kok_n0, kok_ns, xS_put, xS_putOp, xS_ast0, xS_ast1, xS_astOp, wpS_E, wpS_call, wpS_callS, wpS_ret, kThen_N, kThen_B, kThen_C, kThen_R, kThen_T, kNext_N, kNext_C, kNext_B, kNext_R, wpE_K, wpE_KL, xE_I, xE_R, wpE_J, xE_bin, wpE_ladd, wpE_i2l, xE_get, xE_ald0, xE_ald1, wpE_if, xE_max, xE_min, wpE_len, wpA_nil, wpA_snoc, xE_call, xE_callS, xC_C, xC_L, xC_Z, wpC_and, wpC_or, wpC_not, wpC_if, kcmp_0, kcmp_1, kcmp_2, kcmp_3, kcmp_4, kcmp_5, rR_inj, kgO_some, kgO_add, kgO_sub, kgO_mul, kgO_div, kgO_rem, kgO_and, kvI_inl, kvJ_inl, kgI_0, kgI_s, kgR_0, kgR_s, kst_nil, kst_0, kst_s, kNLl_nil, kNLl_i, kNLl_r, kNLl_n, ktag_i, ktag_r, List.length_cons, List.length_nil, List.take_succ_cons, List.take_zero, List.take_nil, List.nil_append, List.cons_append, decide_eq_true_eq, Bool.not_eq_true, Bool.not_eq_true', decide_eq_false_iff_not, ne_eq, Decidable.not_not, true_and, and_true, Nat.reduceAdd, Nat.reduceLeDiff, Nat.reduceEqDiff, Nat.le_refl, not_true_eq_false, not_false_eq_true, reduceIte, eq_self, Int.reduceNeg, Int.reduceEq, Int.reduceLT, Int.reduceLE, Nat.zero_le, Nat.one_ne_zero]
        rw [hQ111]
        clear hQ111
        refine kThen_N.mpr ?_
        obtain ⟨u, hu⟩ : ∃ u, u = othr fs sn x v := ⟨_, rfl⟩
        rw [← hu] at ho ⊢
        refine wpS_gen (fun Q3 hQ3 => ?_)
        have e24 : s1 24 x = tr x := by rw [S1 _ _ (by decide) (by decide) (by decide) (by decide) (by decide)]; exact hT.2 x
        -- nothing new
        have old : (P v x → ∃ i, i < t ∧ q i = u) → Q3 rN [some (.inr (.inl 4)), some (.inl (fr : Int)), some (.inl upp), some (.inl aup), some (.inl lea), some (.inl dee), some (.inl (t : Int)), some (.inl (h : Int)), some (.inl (v : Int)), some (.inl (dgr So Si v : Int)), some (.inl (k : Int)), some (.inl (x : Int)), some (.inl (u : Int))] s1 := by
          intro ha
          rw [hQ3]
          refine kStep_N rfl ⟨t, q, dp, by', rfl, hlt, hqv, B, ⟨S1, S2, S3, S4, S5⟩, fun j hj hA => ?_⟩
          by_cases e : j = k
          · subst e; rw [← hx] at hA ⊢; rw [← hu]; exact ha hA
          · exact hdone j (by omega) hA
        simp only [wpS_skip, wpS_break, wpS_cont, wpS_retV, wpS_throw, wpS_seq, wpS_if, wpS_trunc, yS_let, yS_inc, kgK_i, kgK_r, kok_nil, kok_i0, kok_is, kok_r0, kok_rs, kok_n0, kok_ns, xS_put, xS_putOp, xS_ast0, xS_ast1, xS_astOp, wpS_E, wpS_call, wpS_callS, wpS_ret, kThen_N, kThen_B, kThen_C, kThen_R, kThen_T, kNext_N, kNext_C, kNext_B, kNext_R, wpE_K, wpE_KL, xE_I, xE_R, wpE_J, xE_bin, wpE_ladd, wpE_i2l, xE_get, xE_ald0, xE_ald1, wpE_if, xE_max, xE_min, wpE_len, wpA_nil, wpA_snoc, xE_call, xE_callS, xC_C, xC_L, xC_Z, wpC_and, wpC_or, wpC_not, wpC_if, kcmp_0, kcmp_1, kcmp_2, kcmp_3, kcmp_4, kcmp_5, rR_inj, kgO_some, kgO_add, kgO_sub, kgO_mul, kgO_div, kgO_rem, kgO_and, kvI_inl, kvJ_inl, kgI_0, kgI_s, kgR_0, kgR_s, kst_nil, kst_0, kst_s, kNLl_nil, kNLl_i, kNLl_r, kNLl_n, ktag_i, ktag_r, List.length_cons, List.length_nil, List.take_succ_cons, List.take_zero, List.take_nil, List.nil_append, List.cons_append, decide_eq_true_eq, Bool.not_eq_true, Bool.not_eq_true', decide_eq_false_iff_not, ne_eq, Decidable.not_not, true_and, and_true, Nat.reduceAdd, Nat.reduceLeDiff, Nat.reduceEqDiff, Nat.le_refl, not_true_eq_false, not_false_eq_true, reduceIte, eq_self, Int.reduceNeg, Int.reduceEq, Int.reduceLT, Int.reduceLE, Nat.zero_le, Nat.one_ne_zero, ev_trees, ev_trees_arr, Int.toNat_natCast, e24]
        refine ⟨by omega, ?_⟩
        by_cases a1 : tr x = 0
        · simp only [a1, decide_true, decide_false, Bool.false_eq_true, if_true, if_false, true_and, and_true, not_true_eq_false, not_false_eq_true]
          exact old (fun q => by rw [hP] at q; exact absurd a1 q.1)
        · simp only [a1, decide_true, decide_false, Bool.false_eq_true, if_true, if_false, true_and, and_true, not_true_eq_false, not_false_eq_true]
          refine ⟨by omega, ?_⟩
          by_cases a3 : s1 25 u = lea
          · simp only [a3, decide_true, decide_false, Bool.false_eq_true, if_true, if_false, true_and, and_true, not_true_eq_false, not_false_eq_true]
            refine old (fun hPx => Classical.byContradiction fun hn => ?_)
            rw [hP] at hPx
            have := (S5 u hn).1
            rw [this] at a3
            exact hPx.2 (by rw [← hu]; exact a3)
          · simp only [a3, decide_true, decide_false, Bool.false_eq_true, if_true, if_false, true_and, and_true, not_true_eq_false, not_false_eq_true]
            have hnew : ∀ i, i < t → q i ≠ u := fun i hi e => a3 (by rw [← e]; exact (S2 i hi).2.1)
            have hnew2 : ¬ ∃ i, i < t ∧ q i = u := fun ⟨i, hi, e⟩ => hnew i hi e
            have htn := bf_lt B ho hnew
            have hmem : hc fs v x ∈ al (q h) := by rw [hal, hqv]; exact (cAl2_mem hG).mpr ⟨x, hxt, by rw [hP]; exact ⟨a1, by rw [← hu, ← (S5 u hnew2).1]; exact a3⟩, hxe, rfl⟩
            have B' := bf_add B hlt hmem (by rw [mtg_hc.1, ← hu]) ho hnew
            have e28 : s1 28 v = dee + dp v := by rw [← hqv]; exact (S2 h hlt).2.2
            have hdv : dp v ≤ h := by rw [← hqv]; exact B.2.2.2.2.2.2.2.2.2.2.2 h hlt
            rw [e28]
            repeat refine And.intro (by omega) ?_
            refine (place_ok (by omega)).mono ?_
            rintro r s2 ⟨rfl, hs2⟩
            refine ⟨rfl, ?_⟩
            repeat refine And.intro (by omega) ?_
            rw [hQ3]
            have hvu : v ≠ u := by rw [← hqv]; exact hnew h hlt
            have hfu : fr ≠ u := by rw [← B.2.2.1]; exact hnew 0 (by omega)
            have o5 : ∀ o k, o ≠ 25 → o ≠ 26 → o ≠ 27 → o ≠ 28 → o ≠ 29 → kup s2 29 t (u : Int) o k = s1 o k := fun o k o1 o2 o3 o4 o5 => by rw [kup_ne o5, hs2, kup_ne o4, kup_ne o3, kup_ne o2, kup_ne o1]
            have o25 : ∀ w, kup s2 29 t (u : Int) 25 w = if w = u then lea else s1 25 w := by intro w; rw [hs2]; simp [kup]
            have o26 : ∀ w, kup s2 29 t (u : Int) 26 w = if w = u then (v : Int) else s1 26 w := by intro w; rw [hs2]; simp [kup]
            have o27 : ∀ w, kup s2 29 t (u : Int) 27 w = if w = u then (x : Int) else s1 27 w := by intro w; rw [hs2]; simp [kup]
            have o28 : ∀ w, kup s2 29 t (u : Int) 28 w = if w = u then dee + (dp v : Int) + 1 else s1 28 w := by intro w; rw [hs2]; simp [kup]
            have o29 : ∀ w, kup s2 29 t (u : Int) 29 w = if w = t then (u : Int) else s1 29 w := by intro w; rw [hs2]; simp [kup]
            obtain ⟨s3, hs3⟩ : ∃ s3, s3 = kup s2 29 t (u : Int) := ⟨_, rfl⟩
            rw [← hs3] at o5 o25 o26 o27 o28 o29 ⊢
            refine kStep_N rfl ⟨t + 1, _, _, _, rfl, by omega, ?_, B', ⟨?_, ?_, ?_, ?_, ?_⟩, ?_⟩
            · rw [if_neg (by omega)]; exact hqv
            · intro o k q1 q2 q3 q4 q5; rw [o5 o k q1 q2 q3 q4 q5]; exact S1 o k q1 q2 q3 q4 q5
            · intro i hi
              dsimp only
              by_cases e : i = t
              · subst e
                rw [o29, o25, o28, hqv]; simp; omega
              · have hni := hnew i (by omega)
                rw [if_neg e, o29, o25, o28, if_neg e, if_neg hni, if_neg hni, if_neg hni]
                exact S2 i (by omega)
            · rw [o26, o27, if_neg hfu, if_neg hfu]; exact S3
            · intro i i0 hi
              dsimp only
              by_cases e : i = t
              · subst e
                refine ⟨h, x, by omega, hxt, a1, ?_, ?_, ?_, ?_⟩
                · rw [if_pos rfl, o27, if_pos rfl]
                · rw [if_pos rfl, o26, if_pos rfl, if_neg (by omega), hqv]
                · rw [if_pos rfl, if_neg (by omega : ¬ h = i), if_pos rfl, if_neg (by rw [hqv]; exact hvu)]
                · rw [if_pos rfl, if_neg (by omega : ¬ h = i), hqv, hu]
                  exact (othr_at hxe).symm.imp (fun w => ⟨w.2, w.1⟩) (fun w => ⟨w.2, w.1⟩) |>.symm.symm
              · have hni := hnew i (by omega)
                obtain ⟨j, y, j1, j2, j3, j4, j5, j6, j7⟩ := S4 i i0 (by omega)
                have hnj := hnew j (by omega)
                refine ⟨j, y, by omega, j2, j3, ?_, ?_, ?_, ?_⟩
                · rw [if_neg e, o27, if_neg hni]; exact j4
                · rw [if_neg e, o26, if_neg hni, if_neg (by omega)]; exact j5
                · rw [if_neg e, if_neg (by omega : ¬ j = t), if_neg hni, if_neg hnj]; exact j6
                · rw [if_neg e, if_neg (by omega : ¬ j = t)]; exact j7
            · intro w hw
              have hwu : w ≠ u := fun e => hw ⟨t, by omega, by simp [e]⟩
              rw [o25, o26, o27, o28, if_neg hwu, if_neg hwu, if_neg hwu, if_neg hwu]
              exact S5 w (fun ⟨i, i1, i2⟩ => hw ⟨i, by omega, by dsimp only; rw [if_neg (by omega)]; exact i2⟩)
            · intro j hj hA
              by_cases e : j = k
              · subst e; rw [← hx, ← hu]; exact ⟨t, by omega, by simp⟩
              · obtain ⟨i, i1, i2⟩ := hdone j (by omega) hA
                exact ⟨i, by omega, by rw [if_neg (by omega)]; exact i2⟩
      · rintro P' s1 ⟨t, q, dp, by', rfl, hlt, hqv, B, hS, hdone⟩
        refine kStep_N rfl ⟨t, q, dp, by', rfl, bf_next B hlt (fun e he => ?_), hS⟩
        rw [hal, hqv] at he
        obtain ⟨x, h1, h2, h3, rfl⟩ := (cAl2_mem hG).mp he
        obtain ⟨k, k1, k2⟩ := at_all w9 w11 hqn h1 h3
        rw [← k2] at h2 ⊢
        rw [mtg_hc.1]
        exact hdone k k1 h2
    · have c2 : ¬ (h : Int) < (t : Int) := by omega
      have c1 : (h : Int) < 300 ∨ ¬ (h : Int) < 300 := Classical.em _
      have e : h = t := by omega
      have fin : Q1 rN [some (.inr (.inl 4)), some (.inl (fr : Int)), some (.inl upp), some (.inl aup), some (.inl lea), some (.inl dee), some (.inl (t : Int))] s := by
        subst e
        rw [hQ1]
        rw [hQ0]
        refine kThen_N.mpr (wpS_retV.mpr ⟨none, rfl, rfl, ?_⟩)
        obtain ⟨b1, b2⟩ := bf_end B
        obtain ⟨b3, -, b4, b5, b6⟩ := B
        refine ⟨rfl, S1, ⟨S3.1, S3.2, ?_⟩, fun v hv => ?_, fun v hv hne => ?_, fun v hv => S5 v (fun q => hv ((b1 v).mpr q))⟩
        · have := (S2 0 b3).2.2
          rw [b4, b5] at this
          simpa using this
        · obtain ⟨i, i1, rfl⟩ := (b1 v).mp hv
          have hb12 := b6.2.2.2.2.2.2.2 i i1
          exact ⟨(S2 i i1).2.1, dp (q i), by omega, (S2 i i1).2.2⟩
        · obtain ⟨i, i1, rfl⟩ := (b1 v).mp hv
          have i0 : 0 < i := by
            rcases Nat.eq_zero_or_pos i with z | z
            · exact absurd (by rw [z, b4]) hne
            · exact z
          obtain ⟨j, x, j1, j2, j3, j4, j5, j6, j7⟩ := S4 i i0 i1
          refine ⟨q j, x, (b1 _).mpr ⟨j, j1, rfl⟩, j2, j3, j4, j5, ?_, j7⟩
          rw [(S2 i i1).2.2, (S2 j j1).2.2, j6]
          omega
      rcases c1 with c1 | c1 <;> (refine wpC_gen (fun Q2 hQ2 => ?_); simp only [wpS_skip, wpS_break, wpS_cont, wpS_retV, wpS_throw, wpS_seq, wpS_if, wpS_trunc, yS_let, yS_inc, kgK_i, kgK_r, kok_nil, kok_i0, kok_is, kok_r0, kok_rs, kok_n0, kok_ns, xS_put, xS_putOp, xS_ast0, xS_ast1, xS_astOp, wpS_E, wpS_call, wpS_callS, wpS_ret, kThen_N, kThen_B, kThen_C, kThen_R, kThen_T, kNext_N, kNext_C, kNext_B, kNext_R, wpE_K, wpE_KL, xE_I, xE_R, wpE_J, xE_bin, wpE_ladd, wpE_i2l, xE_get, xE_ald0, xE_ald1, wpE_if, xE_max, xE_min, wpE_len, wpA_nil, wpA_snoc, xE_call, xE_callS, xC_C, xC_L, xC_Z, wpC_and, wpC_or, wpC_not, wpC_if, kcmp_0, kcmp_1, kcmp_2, kcmp_3, kcmp_4, kcmp_5, rR_inj, kgO_some, kgO_add, kgO_sub, kgO_mul, kgO_div, kgO_rem, kgO_and, kvI_inl, kvJ_inl, kgI_0, kgI_s, kgR_0, kgR_s, kst_nil, kst_0, kst_s, kNLl_nil, kNLl_i, kNLl_r, kNLl_n, ktag_i, ktag_r, List.length_cons, List.length_nil, List.take_succ_cons, List.take_zero, List.take_nil, List.nil_append, List.cons_append, decide_eq_true_eq, Bool.not_eq_true, Bool.not_eq_true', decide_eq_false_iff_not, ne_eq, Decidable.not_not, true_and, and_true, Nat.reduceAdd, Nat.reduceLeDiff, Nat.reduceEqDiff, Nat.le_refl, not_true_eq_false, not_false_eq_true, reduceIte, eq_self, Int.reduceNeg, Int.reduceEq, Int.reduceLT, Int.reduceLE, Nat.zero_le, Nat.one_ne_zero, c1, c2, decide_true, decide_false, Bool.false_eq_true, if_true, if_false, true_and, and_true, not_true_eq_false, not_false_eq_true]; rw [hQ2]; exact ⟨rfl, Or.inr ⟨rfl, fin⟩⟩)
