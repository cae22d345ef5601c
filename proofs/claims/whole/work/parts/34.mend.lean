/-! THE CLASS MENDS a tree arc's gap -/
theorem mnd_succ {n c a0 b0 i : Nat} {li fs sn lv : Nat → Nat} {tr : Nat → Int} {L R : Nat → Prop} (hL : L = sd (th c li) fs sn lv tr i (lesS n (th c li) fs sn lv tr a0 b0 i)) (hR : R = sd (th c li) fs sn lv tr i (othS n (th c li) fs sn lv tr a0 b0 i)) :
    ((∃ k, hasK c li fs sn (rse (th c li) fs sn lv tr L i) tr L R i k) → mnd n c li fs sn a0 b0 (i + 1) lv tr = (rs2 c li fs sn (rse (th c li) fs sn lv tr L i) tr L R i c, tr2 c li fs sn (rse (th c li) fs sn lv tr L i) tr L R i)) ∧
    ((¬ ∃ k, hasK c li fs sn (rse (th c li) fs sn lv tr L i) tr L R i k) → mnd n c li fs sn a0 b0 (i + 1) lv tr = mnd n c li fs sn a0 b0 i (rs2 c li fs sn (rse (th c li) fs sn lv tr L i) tr L R i c) tr ∧ tr2 c li fs sn (rse (th c li) fs sn lv tr L i) tr L R i = tr) := by
  subst hL hR
  refine ⟨fun h => ?_, fun h => ⟨?_, ?_⟩⟩
  · rw [mnd]
    rw [if_pos h]
  · rw [mnd]
    rw [if_neg h]
  · funext x
    unfold tr2
    rw [if_neg (fun ⟨k, p, _⟩ => h ⟨k, p⟩)]
theorem rise_once {n c i : Nat} {li fs sn lv : Nat → Nat} {tr : Nat → Int} {L R : Nat → Prop} {W : Nat → Prop} (x : Nat) :
    rs2 c li fs sn (rse W fs sn lv tr L i) tr L R i c x = lv x ∨ (lv x = i ∧ rs2 c li fs sn (rse W fs sn lv tr L i) tr L R i c x = lv x + 1) := by
  have r1 : (rse W fs sn lv tr L i x = lv x) ∨ (tr x ≠ 0 ∧ lv x = i ∧ rse W fs sn lv tr L i x = lv x + 1) := by
    unfold rse
    split
    · rename_i q; exact Or.inr ⟨q.2.1, q.2.2.1, rfl⟩
    · exact Or.inl rfl
  unfold rs2
  split
  · rename_i q
    obtain ⟨k, k1, k2, k3, k4, k5⟩ := q
    rcases r1 with w | ⟨w, -⟩
    · right; exact ⟨by rw [← w]; exact k4.2.1, by omega⟩
    · exact absurd k4.1 w
  · rcases r1 with w | ⟨-, w1, w⟩
    · exact Or.inl w
    · exact Or.inr ⟨w1, w⟩
theorem mnd_rise {n c a0 b0 : Nat} {li fs sn : Nat → Nat} : ∀ {i : Nat} {lv : Nat → Nat} {tr : Nat → Int} (x : Nat), (mnd n c li fs sn a0 b0 i lv tr).1 x = lv x ∨ (lv x < i ∧ (mnd n c li fs sn a0 b0 i lv tr).1 x = lv x + 1) := by
  intro i
  induction i with
  | zero => intro lv tr x; exact Or.inl rfl
  | succ i ih =>
    intro lv tr x
    obtain ⟨m1, m2⟩ := @mnd_succ n c a0 b0 i li fs sn lv tr _ _ rfl rfl
    have ro := @rise_once n c i li fs sn lv tr (sd (th c li) fs sn lv tr i (lesS n (th c li) fs sn lv tr a0 b0 i)) (sd (th c li) fs sn lv tr i (othS n (th c li) fs sn lv tr a0 b0 i)) (th c li) x
    by_cases h : ∃ k, hasK c li fs sn (rse (th c li) fs sn lv tr (sd (th c li) fs sn lv tr i (lesS n (th c li) fs sn lv tr a0 b0 i)) i) tr (sd (th c li) fs sn lv tr i (lesS n (th c li) fs sn lv tr a0 b0 i)) (sd (th c li) fs sn lv tr i (othS n (th c li) fs sn lv tr a0 b0 i)) i k
    · rw [m1 h]
      rcases ro with w | ⟨w1, w⟩
      · exact Or.inl w
      · exact Or.inr ⟨by omega, w⟩
    · rw [(m2 h).1]
      have := @ih (rs2 c li fs sn (rse (th c li) fs sn lv tr (sd (th c li) fs sn lv tr i (lesS n (th c li) fs sn lv tr a0 b0 i)) i) tr (sd (th c li) fs sn lv tr i (lesS n (th c li) fs sn lv tr a0 b0 i)) (sd (th c li) fs sn lv tr i (othS n (th c li) fs sn lv tr a0 b0 i)) i c) tr x
      omega
theorem mend_ok {σ : kS} {n c ar x0 : Nat} {li fs sn lv : Nat → Nat} {tr : Nat → Int} (hG : gOk n c ar li fs sn) (hW : Wb σ n c ar li fs sn) (hT : Tb σ lv tr) (hb : ∀ x, th c li x → lv x ≤ 5000) (hb0 : lv x0 ≤ 5000) (hx0 : x0 < 5000) (ha : fs x0 < n) (hb1 : sn x0 < n)
    (hS : Sg n (th c li) fs sn lv tr (fs x0) (sn x0) (lv x0 + 1)) :
    wpF F_Trees_mend [.inr (.inl 4), .inl (x0 : Int)] σ (fun r s => r = none ∧ (∀ o k, o ≠ 23 → o ≠ 24 → o ≠ 29 → o ≠ 30 → s o k = σ o k) ∧ Tb s (mnd n c li fs sn (fs x0) (sn x0) (lv x0 + 1) lv tr).1 (mnd n c li fs sn (fs x0) (sn x0) (lv x0 + 1) lv tr).2) := by
  have hn3 := hG.1
  obtain ⟨w1, w2, w3, w4, w5, w6, w7, -⟩ := id hW
  obtain ⟨res, hres⟩ : ∃ res, res = mnd n c li fs sn (fs x0) (sn x0) (lv x0 + 1) lv tr := ⟨_, rfl⟩
  rw [← hres]
  have e23 := hT.1 x0
  unfold F_Trees_mend
  rw [wpF_kF]
  refine ⟨rfl, rfl, ?_⟩
  unfold s_Trees_mend
  simp only [List.map_cons, List.map_nil]
  refine wpS_seq' (fun Q0 hQ0 => ?_)
  refine wpS_seq' (fun Q101 hQ101 => ?_)
  simp only [wpS_skip, wpS_break, wpS_cont, wpS_retV, wpS_throw, wpS_seq, wpS_if, wpS_trunc, yS_let, yS_inc, kgK_i, kgK_r, kok_nil, kok_i0, kok_is, kok_r0, kok_rs, kok_n0, kok_ns, xS_put, xS_putOp, xS_ast0, xS_ast1, xS_astOp, wpS_E, wpS_call, wpS_callS, wpS_ret, kThen_N, kThen_B, kThen_C, kThen_R, kThen_T, kNext_N, kNext_C, kNext_B, kNext_R, wpE_K, wpE_KL, xE_I, xE_R, wpE_J, xE_bin, wpE_ladd, wpE_i2l, xE_get, xE_ald0, xE_ald1, wpE_if, xE_max, xE_min, wpE_len, wpA_nil, wpA_snoc, xE_call, xE_callS, xC_C, xC_L, xC_Z, wpC_and, wpC_or, wpC_not, wpC_if, kcmp_0, kcmp_1, kcmp_2, kcmp_3, kcmp_4, kcmp_5, rR_inj, kgO_some, kgO_add, kgO_sub, kgO_mul, kgO_div, kgO_rem, kgO_and, kvI_inl, kvJ_inl, kgI_0, kgI_s, kgR_0, kgR_s, kst_nil, kst_0, kst_s, kNLl_nil, kNLl_i, kNLl_r, kNLl_n, ktag_i, ktag_r, List.length_cons, List.length_nil, List.take_succ_cons, List.take_zero, List.take_nil, List.nil_append, List.cons_append, decide_eq_true_eq, Bool.not_eq_true, Bool.not_eq_true', decide_eq_false_iff_not, ne_eq, Decidable.not_not, true_and, and_true, Nat.reduceAdd, Nat.reduceLeDiff, Nat.reduceEqDiff, Nat.le_refl, not_true_eq_false, not_false_eq_true, reduceIte, eq_self, Int.reduceNeg, Int.reduceEq, Int.reduceLT, Int.reduceLE, Nat.zero_le, Nat.one_ne_zero]
  repeat refine And.intro (by omega) ?_
  rw [hQ101]
  clear hQ101 Q101
  refine kThen_N.mpr ?_
  refine wpS_gen (fun Q1 hQ1 => ?_)
  unfold l_Trees_mend_1
  refine wpS_fortG (fun m P s => ∃ (fo : Int) (lm : Nat → Nat) (tm : Nat → Int), P = [some (.inr (.inl 4)), some (.inl (x0 : Int)), some (.inl fo)] ∧ (∀ o k, o ≠ 23 → o ≠ 24 → o ≠ 29 → o ≠ 30 → s o k = σ o k) ∧ Tb s lm tm ∧ (∀ x, lm x ≤ lv x + m) ∧
    ((fo = 0 ∧ Sg n (th c li) fs sn lm tm (fs x0) (sn x0) (lv x0 + 1 - m) ∧ mnd n c li fs sn (fs x0) (sn x0) (lv x0 + 1 - m) lm tm = res) ∨ (fo = 1 ∧ (lm, tm) = res))) (fun m => (lv x0 : Int) - m) (lv x0 + 1) rfl rfl ?_ ?_ ?_ ?_
  · simp only [wpS_skip, wpS_break, wpS_cont, wpS_retV, wpS_throw, wpS_seq, wpS_if, wpS_trunc, yS_let, yS_inc, kgK_i, kgK_r, kok_nil, kok_i0, kok_is, kok_r0, kok_rs, kok_n0, kok_ns, xS_put, xS_putOp, xS_ast0, xS_ast1, xS_astOp, wpS_E, wpS_call, wpS_callS, wpS_ret, kThen_N, kThen_B, kThen_C, kThen_R, kThen_T, kNext_N, kNext_C, kNext_B, kNext_R, wpE_K, wpE_KL, xE_I, xE_R, wpE_J, xE_bin, wpE_ladd, wpE_i2l, xE_get, xE_ald0, xE_ald1, wpE_if, xE_max, xE_min, wpE_len, wpA_nil, wpA_snoc, xE_call, xE_callS, xC_C, xC_L, xC_Z, wpC_and, wpC_or, wpC_not, wpC_if, kcmp_0, kcmp_1, kcmp_2, kcmp_3, kcmp_4, kcmp_5, rR_inj, kgO_some, kgO_add, kgO_sub, kgO_mul, kgO_div, kgO_rem, kgO_and, kvI_inl, kvJ_inl, kgI_0, kgI_s, kgR_0, kgR_s, kst_nil, kst_0, kst_s, kNLl_nil, kNLl_i, kNLl_r, kNLl_n, ktag_i, ktag_r, List.length_cons, List.length_nil, List.take_succ_cons, List.take_zero, List.take_nil, List.nil_append, List.cons_append, decide_eq_true_eq, Bool.not_eq_true, Bool.not_eq_true', decide_eq_false_iff_not, ne_eq, Decidable.not_not, true_and, and_true, Nat.reduceAdd, Nat.reduceLeDiff, Nat.reduceEqDiff, Nat.le_refl, not_true_eq_false, not_false_eq_true, reduceIte, eq_self, Int.reduceNeg, Int.reduceEq, Int.reduceLT, Int.reduceLE, Nat.zero_le, Nat.one_ne_zero, ev_trees, ev_trees_arr, Int.toNat_natCast, e23]
    refine ⟨by omega, ?_⟩
    simp
  · exact ⟨0, lv, tr, rfl, fun _ _ _ _ _ _ => rfl, hT, fun x => Nat.le_refl _, Or.inl ⟨rfl, hS, hres.symm⟩⟩
  · rintro m P s ⟨fo, lm, tm, rfl, -⟩; exact ⟨rfl, rfl⟩
  · rintro m P s hm ⟨fo, lm, tm, rfl, S1, S2, S3, S4⟩
    have fin : mnd n c li fs sn (fs x0) (sn x0) 0 lm tm = res ∨ (lm, tm) = res → Q1 rN [some (.inr (.inl 4)), some (.inl (x0 : Int)), some (.inl fo)] s := by
      intro h
      have h2 : (lm, tm) = res := h.elim id id
      rw [hQ1]
      rw [hQ0]
      refine kThen_N.mpr (wpS_retV.mpr ⟨none, rfl, rfl, ?_⟩)
      exact ⟨rfl, S1, by rw [← h2]; exact S2⟩
    rcases S4 with ⟨rfl, hSg, hmn⟩ | ⟨rfl, hr⟩
    · rcases Nat.lt_or_ge m (lv x0 + 1) with hlt | hlt
      · have c1 : (0 : Int) ≤ (lv x0 : Int) - m := by omega
        refine wpC_gen (fun Q2 hQ2 => ?_)
        simp only [wpS_skip, wpS_break, wpS_cont, wpS_retV, wpS_throw, wpS_seq, wpS_if, wpS_trunc, yS_let, yS_inc, kgK_i, kgK_r, kok_nil, kok_i0, kok_is, kok_r0, kok_rs, kok_n0, kok_ns, xS_put, xS_putOp, xS_ast0, xS_ast1, xS_astOp, wpS_E, wpS_call, wpS_callS, wpS_ret, kThen_N, kThen_B, kThen_C, kThen_R, kThen_T, kNext_N, kNext_C, kNext_B, kNext_R, wpE_K, wpE_KL, xE_I, xE_R, wpE_J, xE_bin, wpE_ladd, wpE_i2l, xE_get, xE_ald0, xE_ald1, wpE_if, xE_max, xE_min, wpE_len, wpA_nil, wpA_snoc, xE_call, xE_callS, xC_C, xC_L, xC_Z, wpC_and, wpC_or, wpC_not, wpC_if, kcmp_0, kcmp_1, kcmp_2, kcmp_3, kcmp_4, kcmp_5, rR_inj, kgO_some, kgO_add, kgO_sub, kgO_mul, kgO_div, kgO_rem, kgO_and, kvI_inl, kvJ_inl, kgI_0, kgI_s, kgR_0, kgR_s, kst_nil, kst_0, kst_s, kNLl_nil, kNLl_i, kNLl_r, kNLl_n, ktag_i, ktag_r, List.length_cons, List.length_nil, List.take_succ_cons, List.take_zero, List.take_nil, List.nil_append, List.cons_append, decide_eq_true_eq, Bool.not_eq_true, Bool.not_eq_true', decide_eq_false_iff_not, ne_eq, Decidable.not_not, true_and, and_true, Nat.reduceAdd, Nat.reduceLeDiff, Nat.reduceEqDiff, Nat.le_refl, not_true_eq_false, not_false_eq_true, reduceIte, eq_self, Int.reduceNeg, Int.reduceEq, Int.reduceLT, Int.reduceLE, Nat.zero_le, Nat.one_ne_zero, c1, decide_true, decide_false, Bool.false_eq_true, if_true, if_false, true_and, and_true, not_true_eq_false, not_false_eq_true]
        rw [hQ2]
        refine ⟨rfl, Or.inl ⟨rfl, by omega, by omega, by omega, by omega, ?_⟩⟩
        obtain ⟨i, hi⟩ : ∃ i, lv x0 + 1 - m = i + 1 := ⟨lv x0 - m, by omega⟩
        have hiz : (lv x0 : Int) - m = (i : Int) := by omega
        have hi2 : lv x0 + 1 - (m + 1) = i := by omega
        rw [hi] at hSg hmn
        rw [hiz, hi2]
        have hcut := hSg.2.1
        have hW1 := hW.agree (s' := s) (fun o k ho => S1 o k (by unfold isWb at ho; omega) (by unfold isWb at ho; omega) (by unfold isWb at ho; omega) (by unfold isWb at ho; omega))
        rw [wpS_trunc]
        refine wpS_seq' (fun Q102 hQ102 => ?_)
        simp only [wpS_skip, wpS_break, wpS_cont, wpS_retV, wpS_throw, wpS_seq, wpS_if, wpS_trunc, yS_let, yS_inc, kgK_i, kgK_r, kok_nil, kok_i0, kok_is, kok_r0, kok_rs, kok_n0, kok_ns, xS_put, xS_putOp, xS_ast0, xS_ast1, xS_astOp, wpS_E, wpS_call, wpS_callS, wpS_ret, kThen_N, kThen_B, kThen_C, kThen_R, kThen_T, kNext_N, kNext_C, kNext_B, kNext_R, wpE_K, wpE_KL, xE_I, xE_R, wpE_J, xE_bin, wpE_ladd, wpE_i2l, xE_get, xE_ald0, xE_ald1, wpE_if, xE_max, xE_min, wpE_len, wpA_nil, wpA_snoc, xE_call, xE_callS, xC_C, xC_L, xC_Z, wpC_and, wpC_or, wpC_not, wpC_if, kcmp_0, kcmp_1, kcmp_2, kcmp_3, kcmp_4, kcmp_5, rR_inj, kgO_some, kgO_add, kgO_sub, kgO_mul, kgO_div, kgO_rem, kgO_and, kvI_inl, kvJ_inl, kgI_0, kgI_s, kgR_0, kgR_s, kst_nil, kst_0, kst_s, kNLl_nil, kNLl_i, kNLl_r, kNLl_n, ktag_i, ktag_r, List.length_cons, List.length_nil, List.take_succ_cons, List.take_zero, List.take_nil, List.nil_append, List.cons_append, decide_eq_true_eq, Bool.not_eq_true, Bool.not_eq_true', decide_eq_false_iff_not, ne_eq, Decidable.not_not, true_and, and_true, Nat.reduceAdd, Nat.reduceLeDiff, Nat.reduceEqDiff, Nat.le_refl, not_true_eq_false, not_false_eq_true, reduceIte, eq_self, Int.reduceNeg, Int.reduceEq, Int.reduceLT, Int.reduceLE, Nat.zero_le, Nat.one_ne_zero, ev_trees, ev_trees_arr]
        refine (fill_ok (n := 300) (by omega) rfl rfl).mono ?_
        rintro r s1 ⟨rfl, hs1⟩
        refine ⟨rfl, ?_⟩
        rw [hQ102]
        clear hQ102
        refine kThen_N.mpr ?_
        have f1 : ∀ o k, o ≠ 30 → s1 o k = s o k := by intro o k ho; rw [hs1]; unfold kfill; rw [if_neg (fun q => ho q.1)]
        have f2 : ∀ v, v < 300 → s1 30 v = 0 := by intro v hv; rw [hs1]; unfold kfill; rw [if_pos ⟨rfl, hv⟩]
        clear hs1
        have e15 : s1 15 x0 = fs x0 := by rw [f1 _ _ (by decide), S1 _ _ (by decide) (by decide) (by decide) (by decide), w4]
        refine wpS_seq' (fun Q103 hQ103 => ?_)
        simp only [wpS_skip, wpS_break, wpS_cont, wpS_retV, wpS_throw, wpS_seq, wpS_if, wpS_trunc, yS_let, yS_inc, kgK_i, kgK_r, kok_nil, kok_i0, kok_is, kok_r0, kok_rs, kok_n0, kok_ns, xS_put, xS_putOp, xS_ast0, xS_ast1, xS_astOp, wpS_E, wpS_call, wpS_callS, wpS_ret, kThen_N, kThen_B, kThen_C, kThen_R, kThen_T, kNext_N, kNext_C, kNext_B, kNext_R, wpE_K, wpE_KL, xE_I, xE_R, wpE_J, xE_bin, wpE_ladd, wpE_i2l, xE_get, xE_ald0, xE_ald1, wpE_if, xE_max, xE_min, wpE_len, wpA_nil, wpA_snoc, xE_call, xE_callS, xC_C, xC_L, xC_Z, wpC_and, wpC_or, wpC_not, wpC_if, kcmp_0, kcmp_1, kcmp_2, kcmp_3, kcmp_4, kcmp_5, rR_inj, kgO_some, kgO_add, kgO_sub, kgO_mul, kgO_div, kgO_rem, kgO_and, kvI_inl, kvJ_inl, kgI_0, kgI_s, kgR_0, kgR_s, kst_nil, kst_0, kst_s, kNLl_nil, kNLl_i, kNLl_r, kNLl_n, ktag_i, ktag_r, List.length_cons, List.length_nil, List.take_succ_cons, List.take_zero, List.take_nil, List.nil_append, List.cons_append, decide_eq_true_eq, Bool.not_eq_true, Bool.not_eq_true', decide_eq_false_iff_not, ne_eq, Decidable.not_not, true_and, and_true, Nat.reduceAdd, Nat.reduceLeDiff, Nat.reduceEqDiff, Nat.le_refl, not_true_eq_false, not_false_eq_true, reduceIte, eq_self, Int.reduceNeg, Int.reduceEq, Int.reduceLT, Int.reduceLE, Nat.zero_le, Nat.one_ne_zero, ev_trees, ev_trees_arr, ev_web, ev_web_arr, Int.toNat_natCast, e15]
        refine ⟨by omega, ?_⟩
        have hrn : ∀ u v, u < n → rch (uE (fun x => th c li x ∧ tA lm tm (i : Int) x) fs sn) u v → v < n := by
          intro u v hu hr
          refine rch.closed (S := fun v => v < n) ?_ hu hr
          rintro a b - ⟨y, ⟨y1, -⟩, ⟨-, rfl⟩ | ⟨-, rfl⟩⟩
          · exact (th_lt hG y1).2.2.2
          · exact (th_lt hG y1).2.2.1
        have hW2 := hW1.agree (s' := s1) (fun o k ho => f1 o k (by unfold isWb at ho; omega))
        have hT2 : Tb s1 lm tm := ⟨fun x => by rw [f1 _ _ (by decide)]; exact S2.1 x, fun x => by rw [f1 _ _ (by decide)]; exact S2.2 x⟩
        refine (gather_ok hG hW2 hT2 ha (fun v hv => by have := hrn _ _ ha hv; rw [f2 v (by omega)]; decide)).mono ?_
        rintro r s2 ⟨rfl, g1, g2⟩
        rw [kgO_some]
        simp only [wpS_skip, wpS_break, wpS_cont, wpS_retV, wpS_throw, wpS_seq, wpS_if, wpS_trunc, yS_let, yS_inc, kgK_i, kgK_r, kok_nil, kok_i0, kok_is, kok_r0, kok_rs, kok_n0, kok_ns, xS_put, xS_putOp, xS_ast0, xS_ast1, xS_astOp, wpS_E, wpS_call, wpS_callS, wpS_ret, kThen_N, kThen_B, kThen_C, kThen_R, kThen_T, kNext_N, kNext_C, kNext_B, kNext_R, wpE_K, wpE_KL, xE_I, xE_R, wpE_J, xE_bin, wpE_ladd, wpE_i2l, xE_get, xE_ald0, xE_ald1, wpE_if, xE_max, xE_min, wpE_len, wpA_nil, wpA_snoc, xE_call, xE_callS, xC_C, xC_L, xC_Z, wpC_and, wpC_or, wpC_not, wpC_if, kcmp_0, kcmp_1, kcmp_2, kcmp_3, kcmp_4, kcmp_5, rR_inj, kgO_some, kgO_add, kgO_sub, kgO_mul, kgO_div, kgO_rem, kgO_and, kvI_inl, kvJ_inl, kgI_0, kgI_s, kgR_0, kgR_s, kst_nil, kst_0, kst_s, kNLl_nil, kNLl_i, kNLl_r, kNLl_n, ktag_i, ktag_r, List.length_cons, List.length_nil, List.take_succ_cons, List.take_zero, List.take_nil, List.nil_append, List.cons_append, decide_eq_true_eq, Bool.not_eq_true, Bool.not_eq_true', decide_eq_false_iff_not, ne_eq, Decidable.not_not, true_and, and_true, Nat.reduceAdd, Nat.reduceLeDiff, Nat.reduceEqDiff, Nat.le_refl, not_true_eq_false, not_false_eq_true, reduceIte, eq_self, Int.reduceNeg, Int.reduceEq, Int.reduceLT, Int.reduceLE, Nat.zero_le, Nat.one_ne_zero]
        rw [hQ103]
        clear hQ103
        refine kThen_N.mpr ?_
        have e16 : s2 16 x0 = sn x0 := by rw [g1 _ _ (by decide) (by decide), f1 _ _ (by decide), S1 _ _ (by decide) (by decide) (by decide) (by decide), w5]
        refine wpS_seq' (fun Q104 hQ104 => ?_)
        simp only [wpS_skip, wpS_break, wpS_cont, wpS_retV, wpS_throw, wpS_seq, wpS_if, wpS_trunc, yS_let, yS_inc, kgK_i, kgK_r, kok_nil, kok_i0, kok_is, kok_r0, kok_rs, kok_n0, kok_ns, xS_put, xS_putOp, xS_ast0, xS_ast1, xS_astOp, wpS_E, wpS_call, wpS_callS, wpS_ret, kThen_N, kThen_B, kThen_C, kThen_R, kThen_T, kNext_N, kNext_C, kNext_B, kNext_R, wpE_K, wpE_KL, xE_I, xE_R, wpE_J, xE_bin, wpE_ladd, wpE_i2l, xE_get, xE_ald0, xE_ald1, wpE_if, xE_max, xE_min, wpE_len, wpA_nil, wpA_snoc, xE_call, xE_callS, xC_C, xC_L, xC_Z, wpC_and, wpC_or, wpC_not, wpC_if, kcmp_0, kcmp_1, kcmp_2, kcmp_3, kcmp_4, kcmp_5, rR_inj, kgO_some, kgO_add, kgO_sub, kgO_mul, kgO_div, kgO_rem, kgO_and, kvI_inl, kvJ_inl, kgI_0, kgI_s, kgR_0, kgR_s, kst_nil, kst_0, kst_s, kNLl_nil, kNLl_i, kNLl_r, kNLl_n, ktag_i, ktag_r, List.length_cons, List.length_nil, List.take_succ_cons, List.take_zero, List.take_nil, List.nil_append, List.cons_append, decide_eq_true_eq, Bool.not_eq_true, Bool.not_eq_true', decide_eq_false_iff_not, ne_eq, Decidable.not_not, true_and, and_true, Nat.reduceAdd, Nat.reduceLeDiff, Nat.reduceEqDiff, Nat.le_refl, not_true_eq_false, not_false_eq_true, reduceIte, eq_self, Int.reduceNeg, Int.reduceEq, Int.reduceLT, Int.reduceLE, Nat.zero_le, Nat.one_ne_zero, ev_trees, ev_trees_arr, ev_web, ev_web_arr, Int.toNat_natCast, e16]
        refine ⟨by omega, ?_⟩
        have hW3 := hW2.agree (s' := s2) (fun o k ho => g1 o k (by unfold isWb at ho; omega) (by unfold isWb at ho; omega))
        have hT3 : Tb s2 lm tm := ⟨fun x => by rw [g1 _ _ (by decide) (by decide)]; exact hT2.1 x, fun x => by rw [g1 _ _ (by decide) (by decide)]; exact hT2.2 x⟩
        have g3 : ∀ v, v < n → s2 30 v = 0 ∨ s2 30 v = 1 := by
          intro v hv
          by_cases q : rch (uE (fun x => th c li x ∧ tA lm tm (i : Int) x) fs sn) (fs x0) v
          · exact Or.inr ((g2 v).1 q)
          · left; rw [(g2 v).2 q, f2 v (by omega)]
        refine (gather_ok hG hW3 hT3 hb1 (fun v hv => by have := g3 v (hrn _ _ hb1 hv); omega)).mono ?_
        rintro r s3 ⟨rfl, k1, k2⟩
        rw [kgO_some]
        simp only [wpS_skip, wpS_break, wpS_cont, wpS_retV, wpS_throw, wpS_seq, wpS_if, wpS_trunc, yS_let, yS_inc, kgK_i, kgK_r, kok_nil, kok_i0, kok_is, kok_r0, kok_rs, kok_n0, kok_ns, xS_put, xS_putOp, xS_ast0, xS_ast1, xS_astOp, wpS_E, wpS_call, wpS_callS, wpS_ret, kThen_N, kThen_B, kThen_C, kThen_R, kThen_T, kNext_N, kNext_C, kNext_B, kNext_R, wpE_K, wpE_KL, xE_I, xE_R, wpE_J, xE_bin, wpE_ladd, wpE_i2l, xE_get, xE_ald0, xE_ald1, wpE_if, xE_max, xE_min, wpE_len, wpA_nil, wpA_snoc, xE_call, xE_callS, xC_C, xC_L, xC_Z, wpC_and, wpC_or, wpC_not, wpC_if, kcmp_0, kcmp_1, kcmp_2, kcmp_3, kcmp_4, kcmp_5, rR_inj, kgO_some, kgO_add, kgO_sub, kgO_mul, kgO_div, kgO_rem, kgO_and, kvI_inl, kvJ_inl, kgI_0, kgI_s, kgR_0, kgR_s, kst_nil, kst_0, kst_s, kNLl_nil, kNLl_i, kNLl_r, kNLl_n, ktag_i, ktag_r, List.length_cons, List.length_nil, List.take_succ_cons, List.take_zero, List.take_nil, List.nil_append, List.cons_append, decide_eq_true_eq, Bool.not_eq_true, Bool.not_eq_true', decide_eq_false_iff_not, ne_eq, Decidable.not_not, true_and, and_true, Nat.reduceAdd, Nat.reduceLeDiff, Nat.reduceEqDiff, Nat.le_refl, not_true_eq_false, not_false_eq_true, reduceIte, eq_self, Int.reduceNeg, Int.reduceEq, Int.reduceLT, Int.reduceLE, Nat.zero_le, Nat.one_ne_zero]
        rw [hQ104]
        clear hQ104
        refine kThen_N.mpr ?_
        -- the sides
        have sA : ∀ v, v < n → ((sd (th c li) fs sn lm tm i (fs x0) v ∧ ¬ sd (th c li) fs sn lm tm i (sn x0) v ∧ s3 30 v = 1) ∨ (¬ sd (th c li) fs sn lm tm i (fs x0) v ∧ sd (th c li) fs sn lm tm i (sn x0) v ∧ s3 30 v = 2) ∨ (¬ sd (th c li) fs sn lm tm i (fs x0) v ∧ ¬ sd (th c li) fs sn lm tm i (sn x0) v ∧ s3 30 v = 0)) := by
          intro v hv
          by_cases q1 : sd (th c li) fs sn lm tm i (sn x0) v
          · have q2 : ¬ sd (th c li) fs sn lm tm i (fs x0) v := fun q2 => hcut ((sd_all q2).trans (uE.rsymm (sd_all q1)))
            exact Or.inr (Or.inl ⟨q2, q1, (k2 v).1 q1⟩)
          · have e := (k2 v).2 q1
            by_cases q2 : sd (th c li) fs sn lm tm i (fs x0) v
            · exact Or.inl ⟨q2, q1, by rw [e]; exact (g2 v).1 q2⟩
            · exact Or.inr (Or.inr ⟨q2, q1, by rw [e, (g2 v).2 q2]; exact f2 v (by omega)⟩)
        have hW4 := hW3.agree (s' := s3) (fun o k ho => k1 o k (by unfold isWb at ho; omega) (by unfold isWb at ho; omega))
        have hT4 : Tb s3 lm tm := ⟨fun x => by rw [k1 _ _ (by decide) (by decide)]; exact hT3.1 x, fun x => by rw [k1 _ _ (by decide) (by decide)]; exact hT3.2 x⟩
        obtain ⟨L, hL⟩ : ∃ L, L = sd (th c li) fs sn lm tm i (lesS n (th c li) fs sn lm tm (fs x0) (sn x0) i) := ⟨_, rfl⟩
        obtain ⟨R, hR⟩ : ∃ R, R = sd (th c li) fs sn lm tm i (othS n (th c li) fs sn lm tm (fs x0) (sn x0) i) := ⟨_, rfl⟩
        obtain ⟨les, hles, hles2, hLs, hRs⟩ : ∃ les : Int, (les = 1 ∨ les = 2) ∧ (les = if (cntP (fun v => rch (uE (fun x => th c li x ∧ tA lm tm (i : Int) x) fs sn) (fs x0) v) n : Int) ≤ (cntP (fun v => rch (uE (fun x => th c li x ∧ tA lm tm (i : Int) x) fs sn) (sn x0) v) n : Int) then 1 else 2) ∧
            (∀ v, v < n → (L v ↔ s3 30 v = les)) ∧ (∀ v, v < n → (R v ↔ s3 30 v = 3 - les)) := by
          by_cases q : cntP (sd (th c li) fs sn lm tm i (fs x0)) n ≤ cntP (sd (th c li) fs sn lm tm i (sn x0)) n
          · refine ⟨1, Or.inl rfl, ?_, fun v hv => ?_, fun v hv => ?_⟩
            · rw [if_pos (by exact_mod_cast q)]
            · rw [hL]; unfold lesS; rw [if_pos q]
              rcases sA v hv with ⟨a1, a2, a3⟩ | ⟨a1, a2, a3⟩ | ⟨a1, a2, a3⟩ <;> simp [a1, a3]
            · rw [hR]; unfold othS; rw [if_pos q]
              rcases sA v hv with ⟨a1, a2, a3⟩ | ⟨a1, a2, a3⟩ | ⟨a1, a2, a3⟩ <;> simp [a2, a3]
          · refine ⟨2, Or.inr rfl, ?_, fun v hv => ?_, fun v hv => ?_⟩
            · rw [if_neg (by intro h; exact q (by exact_mod_cast h))]
            · rw [hL]; unfold lesS; rw [if_neg q]
              rcases sA v hv with ⟨a1, a2, a3⟩ | ⟨a1, a2, a3⟩ | ⟨a1, a2, a3⟩ <;> simp [a2, a3]
            · rw [hR]; unfold othS; rw [if_neg q]
              rcases sA v hv with ⟨a1, a2, a3⟩ | ⟨a1, a2, a3⟩ | ⟨a1, a2, a3⟩ <;> simp [a1, a3]
        refine wpS_seq' (fun Q5 hQ5 => ?_)
        have step5 : Q5 rN [some (.inr (.inl 4)), some (.inl (x0 : Int)), some (.inl 0), some (.inl (i : Int)), some (.inl (cntP (fun v => rch (uE (fun x => th c li x ∧ tA lm tm (i : Int) x) fs sn) (fs x0) v) n : Int)), some (.inl (cntP (fun v => rch (uE (fun x => th c li x ∧ tA lm tm (i : Int) x) fs sn) (sn x0) v) n : Int)), some (.inl les)] s3 := by
          rw [hQ5]
          refine kThen_N.mpr ?_
          refine wpS_seq' (fun Q105 hQ105 => ?_)
          simp only [wpS_skip, wpS_break, wpS_cont, wpS_retV, wpS_throw, wpS_seq, wpS_if, wpS_trunc, yS_let, yS_inc, kgK_i, kgK_r, kok_nil, kok_i0, kok_is, kok_r0, kok_rs, kok_n0, kok_ns, xS_put, xS_putOp, xS_ast0, xS_ast1, xS_astOp, wpS_E, wpS_call, wpS_callS, wpS_ret, kThen_N, kThen_B, kThen_C, kThen_R, kThen_T, kNext_N, kNext_C, kNext_B, kNext_R, wpE_K, wpE_KL, xE_I, xE_R, wpE_J, xE_bin, wpE_ladd, wpE_i2l, xE_get, xE_ald0, xE_ald1, wpE_if, xE_max, xE_min, wpE_len, wpA_nil, wpA_snoc, xE_call, xE_callS, xC_C, xC_L, xC_Z, wpC_and, wpC_or, wpC_not, wpC_if, kcmp_0, kcmp_1, kcmp_2, kcmp_3, kcmp_4, kcmp_5, rR_inj, kgO_some, kgO_add, kgO_sub, kgO_mul, kgO_div, kgO_rem, kgO_and, kvI_inl, kvJ_inl, kgI_0, kgI_s, kgR_0, kgR_s, kst_nil, kst_0, kst_s, kNLl_nil, kNLl_i, kNLl_r, kNLl_n, ktag_i, ktag_r, List.length_cons, List.length_nil, List.take_succ_cons, List.take_zero, List.take_nil, List.nil_append, List.cons_append, decide_eq_true_eq, Bool.not_eq_true, Bool.not_eq_true', decide_eq_false_iff_not, ne_eq, Decidable.not_not, true_and, and_true, Nat.reduceAdd, Nat.reduceLeDiff, Nat.reduceEqDiff, Nat.le_refl, not_true_eq_false, not_false_eq_true, reduceIte, eq_self, Int.reduceNeg, Int.reduceEq, Int.reduceLT, Int.reduceLE, Nat.zero_le, Nat.one_ne_zero, ev_trees]
          have hlmb : ∀ x, th c li x → lm x ≤ 100000 := fun x hx => by have := S3 x; have := hb x hx; omega
          refine (raiseTree_ok hG hW4 hT4 hlmb hLs).mono ?_
          rintro r s4 ⟨rfl, m1, m2⟩
          refine ⟨rfl, ?_⟩
          rw [hQ105]
          clear hQ105
          refine kThen_N.mpr ?_
          refine wpS_gen (fun Q6 hQ6 => ?_)
          simp only [wpS_skip, wpS_break, wpS_cont, wpS_retV, wpS_throw, wpS_seq, wpS_if, wpS_trunc, yS_let, yS_inc, kgK_i, kgK_r, kok_nil, kok_i0, kok_is, kok_r0, kok_rs, kok_n0, kok_ns, xS_put, xS_putOp, xS_ast0, xS_ast1, xS_astOp, wpS_E, wpS_call, wpS_callS, wpS_ret, kThen_N, kThen_B, kThen_C, kThen_R, kThen_T, kNext_N, kNext_C, kNext_B, kNext_R, wpE_K, wpE_KL, xE_I, xE_R, wpE_J, xE_bin, wpE_ladd, wpE_i2l, xE_get, xE_ald0, xE_ald1, wpE_if, xE_max, xE_min, wpE_len, wpA_nil, wpA_snoc, xE_call, xE_callS, xC_C, xC_L, xC_Z, wpC_and, wpC_or, wpC_not, wpC_if, kcmp_0, kcmp_1, kcmp_2, kcmp_3, kcmp_4, kcmp_5, rR_inj, kgO_some, kgO_add, kgO_sub, kgO_mul, kgO_div, kgO_rem, kgO_and, kvI_inl, kvJ_inl, kgI_0, kgI_s, kgR_0, kgR_s, kst_nil, kst_0, kst_s, kNLl_nil, kNLl_i, kNLl_r, kNLl_n, ktag_i, ktag_r, List.length_cons, List.length_nil, List.take_succ_cons, List.take_zero, List.take_nil, List.nil_append, List.cons_append, decide_eq_true_eq, Bool.not_eq_true, Bool.not_eq_true', decide_eq_false_iff_not, ne_eq, Decidable.not_not, true_and, and_true, Nat.reduceAdd, Nat.reduceLeDiff, Nat.reduceEqDiff, Nat.le_refl, not_true_eq_false, not_false_eq_true, reduceIte, eq_self, Int.reduceNeg, Int.reduceEq, Int.reduceLT, Int.reduceLE, Nat.zero_le, Nat.one_ne_zero, ev_trees]
          have hW5 := hW4.agree (s' := s4) (fun o k ho => m1 o k (by unfold isWb at ho; omega))
          have hT5 : Tb s4 (rse (th c li) fs sn lm tm L i) tm := ⟨m2, fun x => by rw [m1 _ _ (by decide)]; exact hT4.2 x⟩
          have hb5 : ∀ x, th c li x → rse (th c li) fs sn lm tm L i x ≤ 100000 := by
            intro x hx
            have := S3 x; have := hb x hx
            unfold rse
            split <;> omega
          have hs5 : ∀ v, v < n → 0 ≤ s4 30 v ∧ s4 30 v ≤ 2 := by
            intro v hv
            rw [m1 _ _ (by decide)]
            rcases sA v hv with ⟨-, -, a3⟩ | ⟨-, -, a3⟩ | ⟨-, -, a3⟩ <;> omega
          refine (replace_ok (L := L) (R := R) hG hW5 hT5 hb5 hles hs5 (fun v hv => by rw [m1 _ _ (by decide)]; exact hLs v hv) (fun v hv => by rw [m1 _ _ (by decide)]; exact hRs v hv)).mono ?_
          rintro r s5 ⟨hr5, n1, n2, n3⟩
          have S1' : ∀ o k, o ≠ 23 → o ≠ 24 → o ≠ 29 → o ≠ 30 → s5 o k = σ o k := by
            intro o k o1 o2 o3 o4
            rw [n1 o k o1 o2, m1 o k o1, k1 o k o3 o4, g1 o k o3 o4, f1 o k o4, S1 o k o1 o2 o3 o4]
          have hlw : ∀ x, rs2 c li fs sn (rse (th c li) fs sn lm tm L i) tm L R i c x ≤ lv x + (m + 1) := by
            intro x
            have := S3 x
            have := @rise_once n c i li fs sn lm tm L R (th c li) x
            omega
          obtain ⟨ms1, ms2⟩ := @mnd_succ n c (fs x0) (sn x0) i li fs sn lm tm L R hL hR
          have hSt := Sg_stage (fun _ => Iff.rfl) hSg les_oth.1 les_oth.2 hL hR rfl
          rcases hr5 with ⟨hk, rfl⟩ | ⟨hk, rfl⟩
          · rw [kgO_some]
            simp only [wpS_skip, wpS_break, wpS_cont, wpS_retV, wpS_throw, wpS_seq, wpS_if, wpS_trunc, yS_let, yS_inc, kgK_i, kgK_r, kok_nil, kok_i0, kok_is, kok_r0, kok_rs, kok_n0, kok_ns, xS_put, xS_putOp, xS_ast0, xS_ast1, xS_astOp, wpS_E, wpS_call, wpS_callS, wpS_ret, kThen_N, kThen_B, kThen_C, kThen_R, kThen_T, kNext_N, kNext_C, kNext_B, kNext_R, wpE_K, wpE_KL, xE_I, xE_R, wpE_J, xE_bin, wpE_ladd, wpE_i2l, xE_get, xE_ald0, xE_ald1, wpE_if, xE_max, xE_min, wpE_len, wpA_nil, wpA_snoc, xE_call, xE_callS, xC_C, xC_L, xC_Z, wpC_and, wpC_or, wpC_not, wpC_if, kcmp_0, kcmp_1, kcmp_2, kcmp_3, kcmp_4, kcmp_5, rR_inj, kgO_some, kgO_add, kgO_sub, kgO_mul, kgO_div, kgO_rem, kgO_and, kvI_inl, kvJ_inl, kgI_0, kgI_s, kgR_0, kgR_s, kst_nil, kst_0, kst_s, kNLl_nil, kNLl_i, kNLl_r, kNLl_n, ktag_i, ktag_r, List.length_cons, List.length_nil, List.take_succ_cons, List.take_zero, List.take_nil, List.nil_append, List.cons_append, decide_eq_true_eq, Bool.not_eq_true, Bool.not_eq_true', decide_eq_false_iff_not, ne_eq, Decidable.not_not, true_and, and_true, Nat.reduceAdd, Nat.reduceLeDiff, Nat.reduceEqDiff, Nat.le_refl, not_true_eq_false, not_false_eq_true, reduceIte, eq_self, Int.reduceNeg, Int.reduceEq, Int.reduceLT, Int.reduceLE, Nat.zero_le, Nat.one_ne_zero]
            rw [hQ6]
            exact kStep_N rfl ⟨1, _, _, rfl, S1', ⟨n2, n3⟩, hlw, Or.inr ⟨rfl, by rw [← ms1 hk]; exact hmn⟩⟩
          · rw [kgO_some]
            simp only [wpS_skip, wpS_break, wpS_cont, wpS_retV, wpS_throw, wpS_seq, wpS_if, wpS_trunc, yS_let, yS_inc, kgK_i, kgK_r, kok_nil, kok_i0, kok_is, kok_r0, kok_rs, kok_n0, kok_ns, xS_put, xS_putOp, xS_ast0, xS_ast1, xS_astOp, wpS_E, wpS_call, wpS_callS, wpS_ret, kThen_N, kThen_B, kThen_C, kThen_R, kThen_T, kNext_N, kNext_C, kNext_B, kNext_R, wpE_K, wpE_KL, xE_I, xE_R, wpE_J, xE_bin, wpE_ladd, wpE_i2l, xE_get, xE_ald0, xE_ald1, wpE_if, xE_max, xE_min, wpE_len, wpA_nil, wpA_snoc, xE_call, xE_callS, xC_C, xC_L, xC_Z, wpC_and, wpC_or, wpC_not, wpC_if, kcmp_0, kcmp_1, kcmp_2, kcmp_3, kcmp_4, kcmp_5, rR_inj, kgO_some, kgO_add, kgO_sub, kgO_mul, kgO_div, kgO_rem, kgO_and, kvI_inl, kvJ_inl, kgI_0, kgI_s, kgR_0, kgR_s, kst_nil, kst_0, kst_s, kNLl_nil, kNLl_i, kNLl_r, kNLl_n, ktag_i, ktag_r, List.length_cons, List.length_nil, List.take_succ_cons, List.take_zero, List.take_nil, List.nil_append, List.cons_append, decide_eq_true_eq, Bool.not_eq_true, Bool.not_eq_true', decide_eq_false_iff_not, ne_eq, Decidable.not_not, true_and, and_true, Nat.reduceAdd, Nat.reduceLeDiff, Nat.reduceEqDiff, Nat.le_refl, not_true_eq_false, not_false_eq_true, reduceIte, eq_self, Int.reduceNeg, Int.reduceEq, Int.reduceLT, Int.reduceLE, Nat.zero_le, Nat.one_ne_zero]
            rw [hQ6]
            refine kStep_N rfl ⟨0, _, tm, rfl, S1', ⟨n2, fun x => ?_⟩, hlw, Or.inl ⟨rfl, hSt.1 (fun k q => hk ⟨k, q⟩), by rw [← (ms2 hk).1]; exact hmn⟩⟩
            rw [n3, (ms2 hk).2]
        by_cases q : (cntP (fun v => rch (uE (fun x => th c li x ∧ tA lm tm (i : Int) x) fs sn) (fs x0) v) n : Int) ≤ (cntP (fun v => rch (uE (fun x => th c li x ∧ tA lm tm (i : Int) x) fs sn) (sn x0) v) n : Int)
        · rw [if_pos q] at hles2
          rw [hles2] at step5
          simp only [wpS_skip, wpS_break, wpS_cont, wpS_retV, wpS_throw, wpS_seq, wpS_if, wpS_trunc, yS_let, yS_inc, kgK_i, kgK_r, kok_nil, kok_i0, kok_is, kok_r0, kok_rs, kok_n0, kok_ns, xS_put, xS_putOp, xS_ast0, xS_ast1, xS_astOp, wpS_E, wpS_call, wpS_callS, wpS_ret, kThen_N, kThen_B, kThen_C, kThen_R, kThen_T, kNext_N, kNext_C, kNext_B, kNext_R, wpE_K, wpE_KL, xE_I, xE_R, wpE_J, xE_bin, wpE_ladd, wpE_i2l, xE_get, xE_ald0, xE_ald1, wpE_if, xE_max, xE_min, wpE_len, wpA_nil, wpA_snoc, xE_call, xE_callS, xC_C, xC_L, xC_Z, wpC_and, wpC_or, wpC_not, wpC_if, kcmp_0, kcmp_1, kcmp_2, kcmp_3, kcmp_4, kcmp_5, rR_inj, kgO_some, kgO_add, kgO_sub, kgO_mul, kgO_div, kgO_rem, kgO_and, kvI_inl, kvJ_inl, kgI_0, kgI_s, kgR_0, kgR_s, kst_nil, kst_0, kst_s, kNLl_nil, kNLl_i, kNLl_r, kNLl_n, ktag_i, ktag_r, List.length_cons, List.length_nil, List.take_succ_cons, List.take_zero, List.take_nil, List.nil_append, List.cons_append, decide_eq_true_eq, Bool.not_eq_true, Bool.not_eq_true', decide_eq_false_iff_not, ne_eq, Decidable.not_not, true_and, and_true, Nat.reduceAdd, Nat.reduceLeDiff, Nat.reduceEqDiff, Nat.le_refl, not_true_eq_false, not_false_eq_true, reduceIte, eq_self, Int.reduceNeg, Int.reduceEq, Int.reduceLT, Int.reduceLE, Nat.zero_le, Nat.one_ne_zero, q, decide_true, decide_false, Bool.false_eq_true, if_true, if_false, true_and, and_true, not_true_eq_false, not_false_eq_true]
          exact step5
        · rw [if_neg q] at hles2
          rw [hles2] at step5
          simp only [wpS_skip, wpS_break, wpS_cont, wpS_retV, wpS_throw, wpS_seq, wpS_if, wpS_trunc, yS_let, yS_inc, kgK_i, kgK_r, kok_nil, kok_i0, kok_is, kok_r0, kok_rs, kok_n0, kok_ns, xS_put, xS_putOp, xS_ast0, xS_ast1, xS_astOp, wpS_E, wpS_call, wpS_callS, wpS_ret, kThen_N, kThen_B, kThen_C, kThen_R, kThen_T, kNext_N, kNext_C, kNext_B, kNext_R, wpE_K, wpE_KL, xE_I, xE_R, wpE_J, xE_bin, wpE_ladd, wpE_i2l, xE_get, xE_ald0, xE_ald1, wpE_if, xE_max, xE_min, wpE_len, wpA_nil, wpA_snoc, xE_call, xE_callS, xC_C, xC_L, xC_Z, wpC_and, wpC_or, wpC_not, wpC_if, kcmp_0, kcmp_1, kcmp_2, kcmp_3, kcmp_4, kcmp_5, rR_inj, kgO_some, kgO_add, kgO_sub, kgO_mul, kgO_div, kgO_rem, kgO_and, kvI_inl, kvJ_inl, kgI_0, kgI_s, kgR_0, kgR_s, kst_nil, kst_0, kst_s, kNLl_nil, kNLl_i, kNLl_r, kNLl_n, ktag_i, ktag_r, List.length_cons, List.length_nil, List.take_succ_cons, List.take_zero, List.take_nil, List.nil_append, List.cons_append, decide_eq_true_eq, Bool.not_eq_true, Bool.not_eq_true', decide_eq_false_iff_not, ne_eq, Decidable.not_not, true_and, and_true, Nat.reduceAdd, Nat.reduceLeDiff, Nat.reduceEqDiff, Nat.le_refl, not_true_eq_false, not_false_eq_true, reduceIte, eq_self, Int.reduceNeg, Int.reduceEq, Int.reduceLT, Int.reduceLE, Nat.zero_le, Nat.one_ne_zero, q, decide_true, decide_false, Bool.false_eq_true, if_true, if_false, true_and, and_true, not_true_eq_false, not_false_eq_true]
          exact step5
      · have e : lv x0 + 1 - m = 0 := by omega
        have c1 : ¬ (0 : Int) ≤ (lv x0 : Int) - m := by omega
        refine wpC_gen (fun Q2 hQ2 => ?_)
        simp only [wpS_skip, wpS_break, wpS_cont, wpS_retV, wpS_throw, wpS_seq, wpS_if, wpS_trunc, yS_let, yS_inc, kgK_i, kgK_r, kok_nil, kok_i0, kok_is, kok_r0, kok_rs, kok_n0, kok_ns, xS_put, xS_putOp, xS_ast0, xS_ast1, xS_astOp, wpS_E, wpS_call, wpS_callS, wpS_ret, kThen_N, kThen_B, kThen_C, kThen_R, kThen_T, kNext_N, kNext_C, kNext_B, kNext_R, wpE_K, wpE_KL, xE_I, xE_R, wpE_J, xE_bin, wpE_ladd, wpE_i2l, xE_get, xE_ald0, xE_ald1, wpE_if, xE_max, xE_min, wpE_len, wpA_nil, wpA_snoc, xE_call, xE_callS, xC_C, xC_L, xC_Z, wpC_and, wpC_or, wpC_not, wpC_if, kcmp_0, kcmp_1, kcmp_2, kcmp_3, kcmp_4, kcmp_5, rR_inj, kgO_some, kgO_add, kgO_sub, kgO_mul, kgO_div, kgO_rem, kgO_and, kvI_inl, kvJ_inl, kgI_0, kgI_s, kgR_0, kgR_s, kst_nil, kst_0, kst_s, kNLl_nil, kNLl_i, kNLl_r, kNLl_n, ktag_i, ktag_r, List.length_cons, List.length_nil, List.take_succ_cons, List.take_zero, List.take_nil, List.nil_append, List.cons_append, decide_eq_true_eq, Bool.not_eq_true, Bool.not_eq_true', decide_eq_false_iff_not, ne_eq, Decidable.not_not, true_and, and_true, Nat.reduceAdd, Nat.reduceLeDiff, Nat.reduceEqDiff, Nat.le_refl, not_true_eq_false, not_false_eq_true, reduceIte, eq_self, Int.reduceNeg, Int.reduceEq, Int.reduceLT, Int.reduceLE, Nat.zero_le, Nat.one_ne_zero, c1, decide_true, decide_false, Bool.false_eq_true, if_true, if_false, true_and, and_true, not_true_eq_false, not_false_eq_true]
        rw [hQ2]
        rw [e] at hmn
        exact ⟨rfl, Or.inr ⟨rfl, fin (Or.inl hmn)⟩⟩
    · rcases Classical.em ((0 : Int) ≤ (lv x0 : Int) - m) with c1 | c1 <;> (refine wpC_gen (fun Q2 hQ2 => ?_); simp only [wpS_skip, wpS_break, wpS_cont, wpS_retV, wpS_throw, wpS_seq, wpS_if, wpS_trunc, yS_let, yS_inc, kgK_i, kgK_r, kok_nil, kok_i0, kok_is, kok_r0, kok_rs, kok_n0, kok_ns, xS_put, xS_putOp, xS_ast0, xS_ast1, xS_astOp, wpS_E, wpS_call, wpS_callS, wpS_ret, kThen_N, kThen_B, kThen_C, kThen_R, kThen_T, kNext_N, kNext_C, kNext_B, kNext_R, wpE_K, wpE_KL, xE_I, xE_R, wpE_J, xE_bin, wpE_ladd, wpE_i2l, xE_get, xE_ald0, xE_ald1, wpE_if, xE_max, xE_min, wpE_len, wpA_nil, wpA_snoc, xE_call, xE_callS, xC_C, xC_L, xC_Z, wpC_and, wpC_or, wpC_not, wpC_if, kcmp_0, kcmp_1, kcmp_2, kcmp_3, kcmp_4, kcmp_5, rR_inj, kgO_some, kgO_add, kgO_sub, kgO_mul, kgO_div, kgO_rem, kgO_and, kvI_inl, kvJ_inl, kgI_0, kgI_s, kgR_0, kgR_s, kst_nil, kst_0, kst_s, kNLl_nil, kNLl_i, kNLl_r, kNLl_n, ktag_i, ktag_r, List.length_cons, List.length_nil, List.take_succ_cons, List.take_zero, List.take_nil, List.nil_append, List.cons_append, decide_eq_true_eq, Bool.not_eq_true, Bool.not_eq_true', decide_eq_false_iff_not, ne_eq, Decidable.not_not, true_and, and_true, Nat.reduceAdd, Nat.reduceLeDiff, Nat.reduceEqDiff, Nat.le_refl, not_true_eq_false, not_false_eq_true, reduceIte, eq_self, Int.reduceNeg, Int.reduceEq, Int.reduceLT, Int.reduceLE, Nat.zero_le, Nat.one_ne_zero, c1, decide_true, decide_false, Bool.false_eq_true, if_true, if_false, true_and, and_true, not_true_eq_false, not_false_eq_true]; rw [hQ2]; exact ⟨rfl, Or.inr ⟨rfl, fin (Or.inr hr)⟩⟩)
