/-! THE REFERENCE'S replace -/
section R2
variable {σ : kS} {n c ar : Nat} {li fs sn lv : Nat → Nat} {tr lo : Nat → Int}
theorem mdRaise_ok {i x0 : Nat} {m1 m2 : Int} {L : Nat → Prop} {Q : kR → kL → kS → Prop} (hG : gOk n c ar li fs sn) (hM : RM σ n c ar li fs sn lv tr lo) (hb : ∀ x, th c li x → lv x ≤ 100000) (hL : ∀ v, v < n → (L v ↔ σ 95 v ≠ 0))
    (hQ : ∀ s, (∀ o k, o ≠ 73 → s o k = σ o k) → (∀ x, s 73 x = (rse (th c li) fs sn lv tr L i x : Int)) → Q rN [some (.inr (.inl 14)), some (.inl (x0 : Int)), some (.inl (i : Int)), some (.inl m1), some (.inl m2)] s) :
    wpS (sTrunc 5 (sSeq (sLet 0 5 (eK (0))) l_Md_replace_3)) [some (.inr (.inl 14)), some (.inl (x0 : Int)), some (.inl (i : Int)), some (.inl m1), some (.inl m2)] σ Q := by
  have hn3 := hG.1
  have hc9 := hG.2.1
  have hinj := hG.inj
  obtain ⟨w1, w2, w3, w4, w5, w6, w7, w8, w9, -⟩ := id hM
  unfold l_Md_replace_3
  obtain ⟨P, hP⟩ : ∃ P : Nat → Prop, P = fun y => tr y ≠ 0 ∧ lv y = i ∧ L (fs y) ∧ L (sn y) := ⟨_, rfl⟩
  refine wpS_fp (fun k s => (∀ o j, o ≠ 73 → s o j = σ o j) ∧ ∀ y, (s 73 y = lv y + 1 ∧ ∃ j, j < k ∧ li j = y ∧ P y) ∨ (s 73 y = lv y ∧ ¬ ∃ j, j < k ∧ li j = y ∧ P y)) 0 c rfl rfl ?_ ?_ ?_ ?_ ?_ ?_
  · simp only [wpS_skip, wpS_break, wpS_cont, wpS_retV, wpS_throw, wpS_seq, wpS_if, wpS_trunc, yS_let, yS_inc, kgK_i, kgK_r, kok_nil, kok_i0, kok_is, kok_r0, kok_rs, kok_n0, kok_ns, xS_put, xS_putOp, xS_ast0, xS_ast1, xS_astOp, wpS_E, wpS_call, wpS_callS, wpS_ret, kThen_N, kThen_B, kThen_C, kThen_R, kThen_T, kNext_N, kNext_C, kNext_B, kNext_R, wpE_K, wpE_KL, xE_I, xE_R, wpE_J, xE_bin, wpE_ladd, wpE_i2l, xE_get, xE_ald0, xE_ald1, wpE_if, xE_max, xE_min, wpE_len, wpA_nil, wpA_snoc, xE_call, xE_callS, xC_C, xC_L, xC_Z, wpC_and, wpC_or, wpC_not, wpC_if, kcmp_0, kcmp_1, kcmp_2, kcmp_3, kcmp_4, kcmp_5, rR_inj, kgO_some, kgO_add, kgO_sub, kgO_mul, kgO_div, kgO_rem, kgO_and, kvI_inl, kvJ_inl, kgI_0, kgI_s, kgR_0, kgR_s, kst_nil, kst_0, kst_s, kNLl_nil, kNLl_i, kNLl_r, kNLl_n, ktag_i, ktag_r, List.length_cons, List.length_nil, List.take_succ_cons, List.take_zero, List.take_nil, List.nil_append, List.cons_append, decide_eq_true_eq, Bool.not_eq_true, Bool.not_eq_true', decide_eq_false_iff_not, ne_eq, Decidable.not_not, true_and, and_true, Nat.reduceAdd, Nat.reduceLeDiff, Nat.reduceEqDiff, Nat.le_refl, not_true_eq_false, not_false_eq_true, reduceIte, eq_self, Int.reduceNeg, Int.reduceEq, Int.reduceLT, Int.reduceLE, Nat.zero_le, Nat.one_ne_zero]; trivial
  · omega
  · exact ⟨fun _ _ _ => rfl, fun y => Or.inr ⟨w7 y, fun ⟨j, h, _⟩ => by omega⟩⟩
  · rintro k s h0 h1 ⟨S1, S2⟩
    simp only [wpS_skip, wpS_break, wpS_cont, wpS_retV, wpS_throw, wpS_seq, wpS_if, wpS_trunc, yS_let, yS_inc, kgK_i, kgK_r, kok_nil, kok_i0, kok_is, kok_r0, kok_rs, kok_n0, kok_ns, xS_put, xS_putOp, xS_ast0, xS_ast1, xS_astOp, wpS_E, wpS_call, wpS_callS, wpS_ret, kThen_N, kThen_B, kThen_C, kThen_R, kThen_T, kNext_N, kNext_C, kNext_B, kNext_R, wpE_K, wpE_KL, xE_I, xE_R, wpE_J, xE_bin, wpE_ladd, wpE_i2l, xE_get, xE_ald0, xE_ald1, wpE_if, xE_max, xE_min, wpE_len, wpA_nil, wpA_snoc, xE_call, xE_callS, xC_C, xC_L, xC_Z, wpC_and, wpC_or, wpC_not, wpC_if, kcmp_0, kcmp_1, kcmp_2, kcmp_3, kcmp_4, kcmp_5, rR_inj, kgO_some, kgO_add, kgO_sub, kgO_mul, kgO_div, kgO_rem, kgO_and, kvI_inl, kvJ_inl, kgI_0, kgI_s, kgR_0, kgR_s, kst_nil, kst_0, kst_s, kNLl_nil, kNLl_i, kNLl_r, kNLl_n, ktag_i, ktag_r, List.length_cons, List.length_nil, List.take_succ_cons, List.take_zero, List.take_nil, List.nil_append, List.cons_append, decide_eq_true_eq, Bool.not_eq_true, Bool.not_eq_true', decide_eq_false_iff_not, ne_eq, Decidable.not_not, true_and, and_true, Nat.reduceAdd, Nat.reduceLeDiff, Nat.reduceEqDiff, Nat.le_refl, not_true_eq_false, not_false_eq_true, reduceIte, eq_self, Int.reduceNeg, Int.reduceEq, Int.reduceLT, Int.reduceLE, Nat.zero_le, Nat.one_ne_zero, ev_model, show s 14 10 = (c : Int) by rw [S1 _ _ (by decide)]; exact w2]
  · rintro k s h0 h1 ⟨S1, S2⟩
    obtain ⟨x, hx⟩ : ∃ x, x = li k := ⟨_, rfl⟩
    have hxt : th c li x := ⟨k, h1, hx.symm⟩
    obtain ⟨x1, x2, x3, x4⟩ := th_lt hG hxt
    have e17 : s 77 k = x := by rw [S1 _ _ (by decide), w4 k h1, hx]
    have e15 : s 71 x = fs x := by rw [S1 _ _ (by decide), w5]
    have e16 : s 72 x = sn x := by rw [S1 _ _ (by decide), w6]
    have e24 : s 74 x = tr x := by rw [S1 _ _ (by decide)]; exact w8 x
    have e23 : s 73 x = lv x := by
      rcases S2 x with ⟨-, j, j1, j2, -⟩ | ⟨q, -⟩
      · have := hinj j k (by omega) h1 (by rw [j2, hx]); omega
      · exact q
    have ea := hL _ x3
    have eb := hL _ x4
    have ga : s 95 (fs x) = σ 95 (fs x) := S1 _ _ (by decide)
    have gb : s 95 (sn x) = σ 95 (sn x) := S1 _ _ (by decide)
    have hbx := hb x hxt
    rw [wpS_trunc]
    refine wpS_seq' (fun Q101 hQ101 => ?_)
    simp only [wpS_skip, wpS_break, wpS_cont, wpS_retV, wpS_throw, wpS_seq, wpS_if, wpS_trunc, yS_let, yS_inc, kgK_i, kgK_r, kok_nil, kok_i0, kok_is, kok_r0, kok_rs, kok_n0, kok_ns, xS_put, xS_putOp, xS_ast0, xS_ast1, xS_astOp, wpS_E, wpS_call, wpS_callS, wpS_ret, kThen_N, kThen_B, kThen_C, kThen_R, kThen_T, kNext_N, kNext_C, kNext_B, kNext_R, wpE_K, wpE_KL, xE_I, xE_R, wpE_J, xE_bin, wpE_ladd, wpE_i2l, xE_get, xE_ald0, xE_ald1, wpE_if, xE_max, xE_min, wpE_len, wpA_nil, wpA_snoc, xE_call, xE_callS, xC_C, xC_L, xC_Z, wpC_and, wpC_or, wpC_not, wpC_if, kcmp_0, kcmp_1, kcmp_2, kcmp_3, kcmp_4, kcmp_5, rR_inj, kgO_some, kgO_add, kgO_sub, kgO_mul, kgO_div, kgO_rem, kgO_and, kvI_inl, kvJ_inl, kgI_0, kgI_s, kgR_0, kgR_s, kst_nil, kst_0, kst_s, kNLl_nil, kNLl_i, kNLl_r, kNLl_n, ktag_i, ktag_r, List.length_cons, List.length_nil, List.take_succ_cons, List.take_zero, List.take_nil, List.nil_append, List.cons_append, decide_eq_true_eq, Bool.not_eq_true, Bool.not_eq_true', decide_eq_false_iff_not, ne_eq, Decidable.not_not, true_and, and_true, Nat.reduceAdd, Nat.reduceLeDiff, Nat.reduceEqDiff, Nat.le_refl, not_true_eq_false, not_false_eq_true, reduceIte, eq_self, Int.reduceNeg, Int.reduceEq, Int.reduceLT, Int.reduceLE, Nat.zero_le, Nat.one_ne_zero, ev_model, ev_model_arr, Int.toNat_natCast, e17]
    repeat refine And.intro (by omega) ?_
    rw [hQ101]
    clear hQ101 Q101
    refine kThen_N.mpr ?_
    refine wpS_gen (fun Q3 hQ3 => ?_)
    have skip : ¬ P x → Q3 rN [some (.inr (.inl 14)), some (.inl (x0 : Int)), some (.inl (i : Int)), some (.inl m1), some (.inl m2), some (.inl (k : Int)), some (.inl (x : Int))] (kup s 73 x ((lv x : Int) + 0)) := by
      intro hn
      rw [hQ3]
      refine kStep_N rfl ⟨rfl, fun o j ho => by rw [kup_ne ho]; exact S1 o j ho, fun y => ?_⟩
      have ey : kup s 73 x ((lv x : Int) + 0) 73 y = s 73 y := by
        rw [kup_eq]; split
        · rename_i q; rw [q, e23]; omega
        · rfl
      rw [ey]
      rcases S2 y with ⟨q, j, j1, j2, j3⟩ | ⟨q, q2⟩
      · exact Or.inl ⟨q, j, by omega, j2, j3⟩
      · refine Or.inr ⟨q, fun ⟨j, j1, j2, j3⟩ => ?_⟩
        by_cases e : j = k
        · subst e; rw [← hx] at j2; subst j2; exact hn j3
        · exact q2 ⟨j, by omega, j2, j3⟩
    have doit : P x → Q3 rN [some (.inr (.inl 14)), some (.inl (x0 : Int)), some (.inl (i : Int)), some (.inl m1), some (.inl m2), some (.inl (k : Int)), some (.inl (x : Int))] (kup s 73 x ((lv x : Int) + 1)) := by
      intro hn
      rw [hQ3]
      refine kStep_N rfl ⟨rfl, fun o j ho => by rw [kup_ne ho]; exact S1 o j ho, fun y => ?_⟩
      rw [kup_eq]
      by_cases e : y = x
      · subst e
        rw [if_pos rfl]
        exact Or.inl ⟨rfl, k, by omega, hx.symm, hn⟩
      · rw [if_neg e]
        rcases S2 y with ⟨q, j, j1, j2, j3⟩ | ⟨q, q2⟩
        · exact Or.inl ⟨q, j, by omega, j2, j3⟩
        · refine Or.inr ⟨q, fun ⟨j, j1, j2, j3⟩ => ?_⟩
          by_cases e2 : j = k
          · subst e2; exact e (by rw [← j2, hx])
          · exact q2 ⟨j, by omega, j2, j3⟩
    simp only [wpS_skip, wpS_break, wpS_cont, wpS_retV, wpS_throw, wpS_seq, wpS_if, wpS_trunc, yS_let, yS_inc, kgK_i, kgK_r, kok_nil, kok_i0, kok_is, kok_r0, kok_rs, kok_n0, kok_ns, xS_put, xS_putOp, xS_ast0, xS_ast1, xS_astOp, wpS_E, wpS_call, wpS_callS, wpS_ret, kThen_N, kThen_B, kThen_C, kThen_R, kThen_T, kNext_N, kNext_C, kNext_B, kNext_R, wpE_K, wpE_KL, xE_I, xE_R, wpE_J, xE_bin, wpE_ladd, wpE_i2l, xE_get, xE_ald0, xE_ald1, wpE_if, xE_max, xE_min, wpE_len, wpA_nil, wpA_snoc, xE_call, xE_callS, xC_C, xC_L, xC_Z, wpC_and, wpC_or, wpC_not, wpC_if, kcmp_0, kcmp_1, kcmp_2, kcmp_3, kcmp_4, kcmp_5, rR_inj, kgO_some, kgO_add, kgO_sub, kgO_mul, kgO_div, kgO_rem, kgO_and, kvI_inl, kvJ_inl, kgI_0, kgI_s, kgR_0, kgR_s, kst_nil, kst_0, kst_s, kNLl_nil, kNLl_i, kNLl_r, kNLl_n, ktag_i, ktag_r, List.length_cons, List.length_nil, List.take_succ_cons, List.take_zero, List.take_nil, List.nil_append, List.cons_append, decide_eq_true_eq, Bool.not_eq_true, Bool.not_eq_true', decide_eq_false_iff_not, ne_eq, Decidable.not_not, true_and, and_true, Nat.reduceAdd, Nat.reduceLeDiff, Nat.reduceEqDiff, Nat.le_refl, not_true_eq_false, not_false_eq_true, reduceIte, eq_self, Int.reduceNeg, Int.reduceEq, Int.reduceLT, Int.reduceLE, Nat.zero_le, Nat.one_ne_zero, ev_model, ev_model_arr, Int.toNat_natCast, e24, e23, e15, e16, ga, gb]
    simp only [hP] at skip doit
    clear S1 S2 hQ3 hP w1 w2 w3 w4 w5 w6 w7 w8 w9 hL hb hM hG hinj hQ
    grind
  · rintro s ⟨S1, S2⟩
    refine hQ s S1 (fun x => ?_)
    unfold rse th
    rcases S2 x with ⟨q, j, j1, j2, j3⟩ | ⟨q, q2⟩
    · rw [hP] at j3
      rw [if_pos ⟨⟨j, j1, j2⟩, j3⟩, q]; rfl
    · rw [if_neg (fun p => q2 ?_), q]
      obtain ⟨⟨j, j1, j2⟩, p2⟩ := p
      exact ⟨j, j1, j2, by rw [hP]; exact p2⟩
theorem mdScan_ok {i x0 : Nat} {m1 m2 : Int} {L R : Nat → Prop} {Q : kR → kL → kS → Prop} (hG : gOk n c ar li fs sn) (hM : RM σ n c ar li fs sn lv tr lo) (hb : ∀ x, th c li x → lv x ≤ 100000) (hL : ∀ v, v < n → (L v ↔ σ 95 v ≠ 0)) (hR : ∀ v, v < n → (R v ↔ σ 96 v ≠ 0))
    (hQ : ∀ s, (∀ o k, o ≠ 73 → s o k = σ o k) → (∀ x, s 73 x = (rs2 c li fs sn lv tr L R i c x : Int)) → (¬ ∃ k, hasK c li fs sn lv tr L R i k) → Q rN [some (.inr (.inl 14)), some (.inl (x0 : Int)), some (.inl (i : Int)), some (.inl m1), some (.inl m2)] s)
    (hQ2 : ∀ s, (∀ o k, o ≠ 73 → o ≠ 74 → s o k = σ o k) → (∀ x, s 73 x = (rs2 c li fs sn lv tr L R i c x : Int)) → (∀ x, s 74 x = tr2 c li fs sn lv tr L R i x) → (∃ k, hasK c li fs sn lv tr L R i k) → Q (rR none) [some (.inr (.inl 14)), some (.inl (x0 : Int)), some (.inl (i : Int)), some (.inl m1), some (.inl m2)] s) :
    wpS (sTrunc 5 (sSeq (sLet 0 5 (eK (0))) l_Md_replace_4)) [some (.inr (.inl 14)), some (.inl (x0 : Int)), some (.inl (i : Int)), some (.inl m1), some (.inl m2)] σ Q := by
  have hn3 := hG.1
  have hc9 := hG.2.1
  have hinj := hG.inj
  obtain ⟨w1, w2, w3, w4, w5, w6, w7, w8, w9, -⟩ := id hM
  unfold l_Md_replace_4
  refine wpS_fp (fun k s => (∀ o j, o ≠ 73 → s o j = σ o j) ∧ (∀ j, j < k → ¬ hasK c li fs sn lv tr L R i j) ∧ ∀ y, (s 73 y = lv y + 1 ∧ ∃ j, j < k ∧ li j = y ∧ cnd fs sn lv tr L i y) ∨ (s 73 y = lv y ∧ ¬ ∃ j, j < k ∧ li j = y ∧ cnd fs sn lv tr L i y)) 0 c rfl rfl ?_ ?_ ?_ ?_ ?_ ?_
  · simp only [wpS_skip, wpS_break, wpS_cont, wpS_retV, wpS_throw, wpS_seq, wpS_if, wpS_trunc, yS_let, yS_inc, kgK_i, kgK_r, kok_nil, kok_i0, kok_is, kok_r0, kok_rs, kok_n0, kok_ns, xS_put, xS_putOp, xS_ast0, xS_ast1, xS_astOp, wpS_E, wpS_call, wpS_callS, wpS_ret, kThen_N, kThen_B, kThen_C, kThen_R, kThen_T, kNext_N, kNext_C, kNext_B, kNext_R, wpE_K, wpE_KL, xE_I, xE_R, wpE_J, xE_bin, wpE_ladd, wpE_i2l, xE_get, xE_ald0, xE_ald1, wpE_if, xE_max, xE_min, wpE_len, wpA_nil, wpA_snoc, xE_call, xE_callS, xC_C, xC_L, xC_Z, wpC_and, wpC_or, wpC_not, wpC_if, kcmp_0, kcmp_1, kcmp_2, kcmp_3, kcmp_4, kcmp_5, rR_inj, kgO_some, kgO_add, kgO_sub, kgO_mul, kgO_div, kgO_rem, kgO_and, kvI_inl, kvJ_inl, kgI_0, kgI_s, kgR_0, kgR_s, kst_nil, kst_0, kst_s, kNLl_nil, kNLl_i, kNLl_r, kNLl_n, ktag_i, ktag_r, List.length_cons, List.length_nil, List.take_succ_cons, List.take_zero, List.take_nil, List.nil_append, List.cons_append, decide_eq_true_eq, Bool.not_eq_true, Bool.not_eq_true', decide_eq_false_iff_not, ne_eq, Decidable.not_not, true_and, and_true, Nat.reduceAdd, Nat.reduceLeDiff, Nat.reduceEqDiff, Nat.le_refl, not_true_eq_false, not_false_eq_true, reduceIte, eq_self, Int.reduceNeg, Int.reduceEq, Int.reduceLT, Int.reduceLE, Nat.zero_le, Nat.one_ne_zero]; trivial
  · omega
  · exact ⟨fun _ _ _ => rfl, fun j hj => by omega, fun y => Or.inr ⟨w7 y, fun ⟨j, h, _⟩ => by omega⟩⟩
  · rintro k s h0 h1 ⟨S1, -, S2⟩
    simp only [wpS_skip, wpS_break, wpS_cont, wpS_retV, wpS_throw, wpS_seq, wpS_if, wpS_trunc, yS_let, yS_inc, kgK_i, kgK_r, kok_nil, kok_i0, kok_is, kok_r0, kok_rs, kok_n0, kok_ns, xS_put, xS_putOp, xS_ast0, xS_ast1, xS_astOp, wpS_E, wpS_call, wpS_callS, wpS_ret, kThen_N, kThen_B, kThen_C, kThen_R, kThen_T, kNext_N, kNext_C, kNext_B, kNext_R, wpE_K, wpE_KL, xE_I, xE_R, wpE_J, xE_bin, wpE_ladd, wpE_i2l, xE_get, xE_ald0, xE_ald1, wpE_if, xE_max, xE_min, wpE_len, wpA_nil, wpA_snoc, xE_call, xE_callS, xC_C, xC_L, xC_Z, wpC_and, wpC_or, wpC_not, wpC_if, kcmp_0, kcmp_1, kcmp_2, kcmp_3, kcmp_4, kcmp_5, rR_inj, kgO_some, kgO_add, kgO_sub, kgO_mul, kgO_div, kgO_rem, kgO_and, kvI_inl, kvJ_inl, kgI_0, kgI_s, kgR_0, kgR_s, kst_nil, kst_0, kst_s, kNLl_nil, kNLl_i, kNLl_r, kNLl_n, ktag_i, ktag_r, List.length_cons, List.length_nil, List.take_succ_cons, List.take_zero, List.take_nil, List.nil_append, List.cons_append, decide_eq_true_eq, Bool.not_eq_true, Bool.not_eq_true', decide_eq_false_iff_not, ne_eq, Decidable.not_not, true_and, and_true, Nat.reduceAdd, Nat.reduceLeDiff, Nat.reduceEqDiff, Nat.le_refl, not_true_eq_false, not_false_eq_true, reduceIte, eq_self, Int.reduceNeg, Int.reduceEq, Int.reduceLT, Int.reduceLE, Nat.zero_le, Nat.one_ne_zero, ev_model, show s 14 10 = (c : Int) by rw [S1 _ _ (by decide)]; exact w2]
  · rintro k s h0 h1 ⟨S1, S0, S2⟩
    obtain ⟨x, hx⟩ : ∃ x, x = li k := ⟨_, rfl⟩
    have hxt : th c li x := ⟨k, h1, hx.symm⟩
    obtain ⟨x1, x2, x3, x4⟩ := th_lt hG hxt
    have e17 : s 77 k = x := by rw [S1 _ _ (by decide), w4 k h1, hx]
    have e15 : s 71 x = fs x := by rw [S1 _ _ (by decide), w5]
    have e16 : s 72 x = sn x := by rw [S1 _ _ (by decide), w6]
    have e24 : s 74 x = tr x := by rw [S1 _ _ (by decide)]; exact w8 x
    have e23 : s 73 x = lv x := by
      rcases S2 x with ⟨-, j, j1, j2, -⟩ | ⟨q, -⟩
      · have := hinj j k (by omega) h1 (by rw [j2, hx]); omega
      · exact q
    have la := hL _ x3
    have lb := hL _ x4
    have ra := hR _ x3
    have rb := hR _ x4
    have ga : s 95 (fs x) = σ 95 (fs x) := S1 _ _ (by decide)
    have gb : s 95 (sn x) = σ 95 (sn x) := S1 _ _ (by decide)
    have gc : s 96 (fs x) = σ 96 (fs x) := S1 _ _ (by decide)
    have gd : s 96 (sn x) = σ 96 (sn x) := S1 _ _ (by decide)
    have hbx := hb x hxt
    rw [wpS_trunc]
    refine wpS_seq' (fun Q102 hQ102 => ?_)
    simp only [wpS_skip, wpS_break, wpS_cont, wpS_retV, wpS_throw, wpS_seq, wpS_if, wpS_trunc, yS_let, yS_inc, kgK_i, kgK_r, kok_nil, kok_i0, kok_is, kok_r0, kok_rs, kok_n0, kok_ns, xS_put, xS_putOp, xS_ast0, xS_ast1, xS_astOp, wpS_E, wpS_call, wpS_callS, wpS_ret, kThen_N, kThen_B, kThen_C, kThen_R, kThen_T, kNext_N, kNext_C, kNext_B, kNext_R, wpE_K, wpE_KL, xE_I, xE_R, wpE_J, xE_bin, wpE_ladd, wpE_i2l, xE_get, xE_ald0, xE_ald1, wpE_if, xE_max, xE_min, wpE_len, wpA_nil, wpA_snoc, xE_call, xE_callS, xC_C, xC_L, xC_Z, wpC_and, wpC_or, wpC_not, wpC_if, kcmp_0, kcmp_1, kcmp_2, kcmp_3, kcmp_4, kcmp_5, rR_inj, kgO_some, kgO_add, kgO_sub, kgO_mul, kgO_div, kgO_rem, kgO_and, kvI_inl, kvJ_inl, kgI_0, kgI_s, kgR_0, kgR_s, kst_nil, kst_0, kst_s, kNLl_nil, kNLl_i, kNLl_r, kNLl_n, ktag_i, ktag_r, List.length_cons, List.length_nil, List.take_succ_cons, List.take_zero, List.take_nil, List.nil_append, List.cons_append, decide_eq_true_eq, Bool.not_eq_true, Bool.not_eq_true', decide_eq_false_iff_not, ne_eq, Decidable.not_not, true_and, and_true, Nat.reduceAdd, Nat.reduceLeDiff, Nat.reduceEqDiff, Nat.le_refl, not_true_eq_false, not_false_eq_true, reduceIte, eq_self, Int.reduceNeg, Int.reduceEq, Int.reduceLT, Int.reduceLE, Nat.zero_le, Nat.one_ne_zero, ev_model, ev_model_arr, Int.toNat_natCast, e17]
    repeat refine And.intro (by omega) ?_
    rw [hQ102]
    clear hQ102 Q102
    refine kThen_N.mpr ?_
    refine wpS_seq' (fun Q3 hQ3 => ?_)
    have skip : ¬ cnd fs sn lv tr L i x → Q3 rC [some (.inr (.inl 14)), some (.inl (x0 : Int)), some (.inl (i : Int)), some (.inl m1), some (.inl m2), some (.inl (k : Int)), some (.inl (x : Int))] s := by
      intro hn
      rw [hQ3]
      refine kThen_C.mpr (kStep_C rfl ⟨rfl, S1, fun j hj => ?_, fun y => ?_⟩)
      · by_cases e : j = k
        · subst e; exact fun q => hn (by rw [hx]; exact q.2.1)
        · exact S0 j (by omega)
      · rcases S2 y with ⟨q, j, j1, j2, j3⟩ | ⟨q, q2⟩
        · exact Or.inl ⟨q, j, by omega, j2, j3⟩
        · refine Or.inr ⟨q, fun ⟨j, j1, j2, j3⟩ => ?_⟩
          by_cases e : j = k
          · subst e; rw [← hx] at j2; subst j2; exact hn j3
          · exact q2 ⟨j, by omega, j2, j3⟩
    have goon : cnd fs sn lv tr L i x → Q3 rN [some (.inr (.inl 14)), some (.inl (x0 : Int)), some (.inl (i : Int)), some (.inl m1), some (.inl m2), some (.inl (k : Int)), some (.inl (x : Int))] s := by
      intro hn
      rw [hQ3]
      refine kThen_N.mpr ?_
      by_cases hcr : crs fs sn R x
      · have hK : hasK c li fs sn lv tr L R i k := ⟨h1, by rw [← hx]; exact hn, by rw [← hx]; exact hcr⟩
        have fin : ∀ s', s' = kup s 74 x 1 → Q (rR none) [some (.inr (.inl 14)), some (.inl (x0 : Int)), some (.inl (i : Int)), some (.inl m1), some (.inl m2)] s' := by
          rintro s' rfl
          refine hQ2 _ (fun o j o1 o2 => by rw [kup_ne o2]; exact S1 o j o1) (fun y => ?_) (fun y => ?_) ⟨k, hK⟩
          · rw [kup_ne (by decide)]
            unfold rs2
            rcases S2 y with ⟨q, j, j1, j2, j3⟩ | ⟨q, q2⟩
            · rw [if_pos ⟨j, by omega, by omega, j2, j3, fun j' hj' => S0 j' (by omega)⟩, q]; rfl
            · rw [if_neg (fun p => q2 ?_), q]
              obtain ⟨j, p1, p2, p3, p4, p5⟩ := p
              refine ⟨j, ?_, p3, p4⟩
              rcases Nat.lt_or_ge j k with w | w
              · exact w
              · exact absurd hK (p5 k w)
          · rw [kup_eq]
            unfold tr2
            by_cases e : y = x
            · rw [if_pos e, if_pos ⟨k, hK, S0, by rw [e, hx]⟩]
            · have hne : ¬ ∃ k', hasK c li fs sn lv tr L R i k' ∧ (∀ j, j < k' → ¬ hasK c li fs sn lv tr L R i j) ∧ li k' = y := by
                rintro ⟨k', p1, p2, p3⟩
                have : k' = k := by
                  rcases Nat.lt_trichotomy k' k with w | w | w
                  · exact absurd p1 (S0 k' w)
                  · exact w
                  · exact absurd hK (p2 k w)
                exact e (by rw [← p3, this, hx])
              rw [if_neg e, if_neg hne, S1 _ _ (by decide)]
              exact w8 y
        refine wpS_seq' (fun Q4 hQ4 => ?_)
        have done : Q4 (rR none) [some (.inr (.inl 14)), some (.inl (x0 : Int)), some (.inl (i : Int)), some (.inl m1), some (.inl m2), some (.inl (k : Int)), some (.inl (x : Int))] (kup s 74 x 1) := by
          rw [hQ4]
          refine kThen_R.mpr (kStep_R ?_)
          exact fin _ rfl
        unfold crs at hcr
        simp only [wpS_skip, wpS_break, wpS_cont, wpS_retV, wpS_throw, wpS_seq, wpS_if, wpS_trunc, yS_let, yS_inc, kgK_i, kgK_r, kok_nil, kok_i0, kok_is, kok_r0, kok_rs, kok_n0, kok_ns, xS_put, xS_putOp, xS_ast0, xS_ast1, xS_astOp, wpS_E, wpS_call, wpS_callS, wpS_ret, kThen_N, kThen_B, kThen_C, kThen_R, kThen_T, kNext_N, kNext_C, kNext_B, kNext_R, wpE_K, wpE_KL, xE_I, xE_R, wpE_J, xE_bin, wpE_ladd, wpE_i2l, xE_get, xE_ald0, xE_ald1, wpE_if, xE_max, xE_min, wpE_len, wpA_nil, wpA_snoc, xE_call, xE_callS, xC_C, xC_L, xC_Z, wpC_and, wpC_or, wpC_not, wpC_if, kcmp_0, kcmp_1, kcmp_2, kcmp_3, kcmp_4, kcmp_5, rR_inj, kgO_some, kgO_add, kgO_sub, kgO_mul, kgO_div, kgO_rem, kgO_and, kvI_inl, kvJ_inl, kgI_0, kgI_s, kgR_0, kgR_s, kst_nil, kst_0, kst_s, kNLl_nil, kNLl_i, kNLl_r, kNLl_n, ktag_i, ktag_r, List.length_cons, List.length_nil, List.take_succ_cons, List.take_zero, List.take_nil, List.nil_append, List.cons_append, decide_eq_true_eq, Bool.not_eq_true, Bool.not_eq_true', decide_eq_false_iff_not, ne_eq, Decidable.not_not, true_and, and_true, Nat.reduceAdd, Nat.reduceLeDiff, Nat.reduceEqDiff, Nat.le_refl, not_true_eq_false, not_false_eq_true, reduceIte, eq_self, Int.reduceNeg, Int.reduceEq, Int.reduceLT, Int.reduceLE, Nat.zero_le, Nat.one_ne_zero, ev_model, ev_model_arr, Int.toNat_natCast, e15, e16, gc, gd]
        clear S1 S2 S0 hQ3 hQ4 w1 w2 w3 w4 w5 w6 w7 w8 w9 hL hR hb hM hG hinj hQ hQ2 fin skip hK hn
        grind
      · refine wpS_seq' (fun Q4 hQ4 => ?_)
        have done : Q4 rN [some (.inr (.inl 14)), some (.inl (x0 : Int)), some (.inl (i : Int)), some (.inl m1), some (.inl m2), some (.inl (k : Int)), some (.inl (x : Int))] s := by
          rw [hQ4]
          refine kThen_N.mpr ?_
          refine wpS_gen (fun Q103 hQ103 => ?_)
          simp only [wpS_skip, wpS_break, wpS_cont, wpS_retV, wpS_throw, wpS_seq, wpS_if, wpS_trunc, yS_let, yS_inc, kgK_i, kgK_r, kok_nil, kok_i0, kok_is, kok_r0, kok_rs, kok_n0, kok_ns, xS_put, xS_putOp, xS_ast0, xS_ast1, xS_astOp, wpS_E, wpS_call, wpS_callS, wpS_ret, kThen_N, kThen_B, kThen_C, kThen_R, kThen_T, kNext_N, kNext_C, kNext_B, kNext_R, wpE_K, wpE_KL, xE_I, xE_R, wpE_J, xE_bin, wpE_ladd, wpE_i2l, xE_get, xE_ald0, xE_ald1, wpE_if, xE_max, xE_min, wpE_len, wpA_nil, wpA_snoc, xE_call, xE_callS, xC_C, xC_L, xC_Z, wpC_and, wpC_or, wpC_not, wpC_if, kcmp_0, kcmp_1, kcmp_2, kcmp_3, kcmp_4, kcmp_5, rR_inj, kgO_some, kgO_add, kgO_sub, kgO_mul, kgO_div, kgO_rem, kgO_and, kvI_inl, kvJ_inl, kgI_0, kgI_s, kgR_0, kgR_s, kst_nil, kst_0, kst_s, kNLl_nil, kNLl_i, kNLl_r, kNLl_n, ktag_i, ktag_r, List.length_cons, List.length_nil, List.take_succ_cons, List.take_zero, List.take_nil, List.nil_append, List.cons_append, decide_eq_true_eq, Bool.not_eq_true, Bool.not_eq_true', decide_eq_false_iff_not, ne_eq, Decidable.not_not, true_and, and_true, Nat.reduceAdd, Nat.reduceLeDiff, Nat.reduceEqDiff, Nat.le_refl, not_true_eq_false, not_false_eq_true, reduceIte, eq_self, Int.reduceNeg, Int.reduceEq, Int.reduceLT, Int.reduceLE, Nat.zero_le, Nat.one_ne_zero, ev_model, ev_model_arr, Int.toNat_natCast, e23]
          repeat refine And.intro (by omega) ?_
          rw [hQ103]
          clear hQ103 Q103
          refine kStep_N rfl ⟨rfl, fun o j ho => by rw [kup_ne ho]; exact S1 o j ho, fun j hj => ?_, fun y => ?_⟩
          · by_cases e : j = k
            · subst e; exact fun q => hcr (by rw [hx]; exact q.2.2)
            · exact S0 j (by omega)
          · rw [kup_eq]
            by_cases e : y = x
            · subst e
              rw [if_pos rfl]
              exact Or.inl ⟨rfl, k, by omega, hx.symm, hn⟩
            · rw [if_neg e]
              rcases S2 y with ⟨q, j, j1, j2, j3⟩ | ⟨q, q2⟩
              · exact Or.inl ⟨q, j, by omega, j2, j3⟩
              · refine Or.inr ⟨q, fun ⟨j, j1, j2, j3⟩ => ?_⟩
                by_cases e2 : j = k
                · subst e2; exact e (by rw [← j2, hx])
                · exact q2 ⟨j, by omega, j2, j3⟩
        unfold crs at hcr
        simp only [wpS_skip, wpS_break, wpS_cont, wpS_retV, wpS_throw, wpS_seq, wpS_if, wpS_trunc, yS_let, yS_inc, kgK_i, kgK_r, kok_nil, kok_i0, kok_is, kok_r0, kok_rs, kok_n0, kok_ns, xS_put, xS_putOp, xS_ast0, xS_ast1, xS_astOp, wpS_E, wpS_call, wpS_callS, wpS_ret, kThen_N, kThen_B, kThen_C, kThen_R, kThen_T, kNext_N, kNext_C, kNext_B, kNext_R, wpE_K, wpE_KL, xE_I, xE_R, wpE_J, xE_bin, wpE_ladd, wpE_i2l, xE_get, xE_ald0, xE_ald1, wpE_if, xE_max, xE_min, wpE_len, wpA_nil, wpA_snoc, xE_call, xE_callS, xC_C, xC_L, xC_Z, wpC_and, wpC_or, wpC_not, wpC_if, kcmp_0, kcmp_1, kcmp_2, kcmp_3, kcmp_4, kcmp_5, rR_inj, kgO_some, kgO_add, kgO_sub, kgO_mul, kgO_div, kgO_rem, kgO_and, kvI_inl, kvJ_inl, kgI_0, kgI_s, kgR_0, kgR_s, kst_nil, kst_0, kst_s, kNLl_nil, kNLl_i, kNLl_r, kNLl_n, ktag_i, ktag_r, List.length_cons, List.length_nil, List.take_succ_cons, List.take_zero, List.take_nil, List.nil_append, List.cons_append, decide_eq_true_eq, Bool.not_eq_true, Bool.not_eq_true', decide_eq_false_iff_not, ne_eq, Decidable.not_not, true_and, and_true, Nat.reduceAdd, Nat.reduceLeDiff, Nat.reduceEqDiff, Nat.le_refl, not_true_eq_false, not_false_eq_true, reduceIte, eq_self, Int.reduceNeg, Int.reduceEq, Int.reduceLT, Int.reduceLE, Nat.zero_le, Nat.one_ne_zero, ev_model, ev_model_arr, Int.toNat_natCast, e15, e16, gc, gd]
        clear S1 S2 S0 hQ3 hQ4 w1 w2 w3 w4 w5 w6 w7 w8 w9 hL hR hb hM hG hinj hQ hQ2 skip hn
        grind
    simp only [wpS_skip, wpS_break, wpS_cont, wpS_retV, wpS_throw, wpS_seq, wpS_if, wpS_trunc, yS_let, yS_inc, kgK_i, kgK_r, kok_nil, kok_i0, kok_is, kok_r0, kok_rs, kok_n0, kok_ns, xS_put, xS_putOp, xS_ast0, xS_ast1, xS_astOp, wpS_E, wpS_call, wpS_callS, wpS_ret, kThen_N, kThen_B, kThen_C, kThen_R, kThen_T, kNext_N, kNext_C, kNext_B, kNext_R, wpE_K, wpE_KL, xE_I, xE_R, wpE_J, xE_bin, wpE_ladd, wpE_i2l, xE_get, xE_ald0, xE_ald1, wpE_if, xE_max, xE_min, wpE_len, wpA_nil, wpA_snoc, xE_call, xE_callS, xC_C, xC_L, xC_Z, wpC_and, wpC_or, wpC_not, wpC_if, kcmp_0, kcmp_1, kcmp_2, kcmp_3, kcmp_4, kcmp_5, rR_inj, kgO_some, kgO_add, kgO_sub, kgO_mul, kgO_div, kgO_rem, kgO_and, kvI_inl, kvJ_inl, kgI_0, kgI_s, kgR_0, kgR_s, kst_nil, kst_0, kst_s, kNLl_nil, kNLl_i, kNLl_r, kNLl_n, ktag_i, ktag_r, List.length_cons, List.length_nil, List.take_succ_cons, List.take_zero, List.take_nil, List.nil_append, List.cons_append, decide_eq_true_eq, Bool.not_eq_true, Bool.not_eq_true', decide_eq_false_iff_not, ne_eq, Decidable.not_not, true_and, and_true, Nat.reduceAdd, Nat.reduceLeDiff, Nat.reduceEqDiff, Nat.le_refl, not_true_eq_false, not_false_eq_true, reduceIte, eq_self, Int.reduceNeg, Int.reduceEq, Int.reduceLT, Int.reduceLE, Nat.zero_le, Nat.one_ne_zero, ev_model, ev_model_arr, Int.toNat_natCast, e24, e23, e15, e16, ga, gb]
    simp only [cnd] at skip goon
    clear S1 S2 S0 hQ3 w1 w2 w3 w4 w5 w6 w7 w8 w9 hL hR hb hM hG hinj hQ hQ2
    grind
  · rintro s ⟨S1, S0, S2⟩
    have hno : ¬ ∃ k, hasK c li fs sn lv tr L R i k := fun ⟨k, hk⟩ => S0 k hk.1 hk
    refine hQ s S1 (fun y => ?_) hno
    unfold rs2
    rcases S2 y with ⟨q, j, j1, j2, j3⟩ | ⟨q, q2⟩
    · rw [if_pos ⟨j, by omega, by omega, j2, j3, fun j' hj' => S0 j' (by omega)⟩, q]; rfl
    · rw [if_neg (fun p => q2 ?_), q]
      obtain ⟨j, p1, p2, p3, p4, p5⟩ := p
      exact ⟨j, p1, p3, p4⟩
end R2
