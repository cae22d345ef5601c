/-! THE CLASS'S ROW: spreading along ordered arcs -/
noncomputable def fAl (c : Nat) (li key : Nat → Nat) (P : Nat → Prop) (v : Nat) : List Nat := (List.range 5000).filter (fun x => @decide (th c li x ∧ P x ∧ key x = v) (Classical.propDecidable _))
theorem fAl_mem {n c ar : Nat} {li fs sn key : Nat → Nat} {P : Nat → Prop} (hG : gOk n c ar li fs sn) {v x : Nat} : x ∈ fAl c li key P v ↔ th c li x ∧ P x ∧ key x = v := by
  unfold fAl
  rw [List.mem_filter, List.mem_range, @decide_eq_true_eq _ (Classical.propDecidable _)]
  exact ⟨fun h => h.2, fun h => ⟨(th_lt hG h.1).2.1, h⟩⟩
def spS (σ s : kS) (F t : Nat) (q dp : Nat → Nat) : Prop := (∀ o k, o ≠ F → o ≠ 39 → s o k = σ o k) ∧ (∀ i, i < t → s 39 i = (q i : Int)) ∧ (∀ v, ((∃ i, i < t ∧ q i = v) → s F v = (dp v : Int)) ∧ (v < 300 → (¬ ∃ i, i < t ∧ q i = v) → s F v = -1))
theorem spreadFwd_ok {σ : kS} {n c ar fr : Nat} {li fs sn : Nat → Nat} {lo : Nat → Int} (hG : gOk n c ar li fs sn) (hW : Wb σ n c ar li fs sn) (hT : ∀ x, σ 33 x = lo x) (hfr : fr < n) :
    wpF F_Row_spread [.inr (.inl 7), .inl (fr : Int), .inr (.inl 2), .inr (.inl 16), .inr (.inl 36)] σ (fun r s => r = none ∧ (∀ o k, o ≠ 36 → o ≠ 39 → s o k = σ o k) ∧
      (∀ v d, ds (fun u v => dE (fun x => th c li x ∧ lo x = 0) fs sn u v) fr v d → s 36 v = (d : Int)) ∧ (∀ v, v < 300 → ¬ rch (fun u v => dE (fun x => th c li x ∧ lo x = 0) fs sn u v) fr v → s 36 v = -1) ∧ (∀ v, rch (fun u v => dE (fun x => th c li x ∧ lo x = 0) fs sn u v) fr v → v < n)) := by
  have hn3 := hG.1
  have hc9 := hG.2.1
  obtain ⟨al, hal⟩ : ∃ al, al = fAl c li fs (fun x => lo x = 0) := ⟨_, rfl⟩
  have hE : bE al sn = fun u v => dE (fun x => th c li x ∧ lo x = 0) fs sn u v := by
    funext u v
    rw [hal]
    refine propext ⟨?_, ?_⟩
    · rintro ⟨x, hx, rfl⟩
      obtain ⟨h1, h2, rfl⟩ := (fAl_mem hG).mp hx
      exact ⟨x, ⟨h1, h2⟩, rfl, rfl⟩
    · rintro ⟨x, ⟨h1, h2⟩, rfl, rfl⟩
      exact ⟨x, (fAl_mem hG).mpr ⟨h1, h2, rfl⟩, rfl⟩
  rw [← hE]
  obtain ⟨w1, w2, w3, w4, w5, w6, w7, Fo, So, Fi, Si, w8, w9, w10, w11⟩ := id hW
  unfold F_Row_spread
  rw [wpF_kF]
  refine ⟨rfl, rfl, ?_⟩
  unfold s_Row_spread
  simp only [List.map_cons, List.map_nil]
  refine wpS_seq' (fun Q0 hQ0 => ?_)
  refine wpS_seq' (fun Q101 hQ101 => ?_)
  simp only [wpS_skip, wpS_break, wpS_cont, wpS_retV, wpS_throw, wpS_seq, wpS_if, wpS_trunc, yS_let, yS_inc, kgK_i, kgK_r, kok_nil, kok_i0, kok_is, kok_r0, kok_rs, kok_n0, kok_ns, xS_put, xS_putOp, xS_ast0, xS_ast1, xS_astOp, wpS_E, wpS_call, wpS_callS, wpS_ret, kThen_N, kThen_B, kThen_C, kThen_R, kThen_T, kNext_N, kNext_C, kNext_B, kNext_R, wpE_K, wpE_KL, xE_I, xE_R, wpE_J, xE_bin, wpE_ladd, wpE_i2l, xE_get, xE_ald0, xE_ald1, wpE_if, xE_max, xE_min, wpE_len, wpA_nil, wpA_snoc, xE_call, xE_callS, xC_C, xC_L, xC_Z, wpC_and, wpC_or, wpC_not, wpC_if, kcmp_0, kcmp_1, kcmp_2, kcmp_3, kcmp_4, kcmp_5, rR_inj, kgO_some, kgO_add, kgO_sub, kgO_mul, kgO_div, kgO_rem, kgO_and, kvI_inl, kvJ_inl, kgI_0, kgI_s, kgR_0, kgR_s, kst_nil, kst_0, kst_s, kNLl_nil, kNLl_i, kNLl_r, kNLl_n, ktag_i, ktag_r, List.length_cons, List.length_nil, List.take_succ_cons, List.take_zero, List.take_nil, List.nil_append, List.cons_append, decide_eq_true_eq, Bool.not_eq_true, Bool.not_eq_true', decide_eq_false_iff_not, ne_eq, Decidable.not_not, true_and, and_true, Nat.reduceAdd, Nat.reduceLeDiff, Nat.reduceEqDiff, Nat.le_refl, not_true_eq_false, not_false_eq_true, reduceIte, eq_self, Int.reduceNeg, Int.reduceEq, Int.reduceLT, Int.reduceLE, Nat.zero_le, Nat.one_ne_zero, ev_row, ev_row_arr]
  refine (fill_ok (n := 300) (by omega) rfl rfl).mono ?_
  rintro r s0 ⟨rfl, hs0⟩
  refine ⟨rfl, ?_⟩
  rw [hQ101]
  clear hQ101
  refine kThen_N.mpr ?_
  have f1 : ∀ o k, o ≠ 36 → s0 o k = σ o k := by intro o k ho; rw [hs0]; unfold kfill; rw [if_neg (fun q => ho q.1)]
  have f2 : ∀ v, v < 300 → s0 36 v = -1 := by intro v hv; rw [hs0]; unfold kfill; rw [if_pos ⟨rfl, hv⟩]
  clear hs0
  refine wpS_seq' (fun Q102 hQ102 => ?_)
  simp only [wpS_skip, wpS_break, wpS_cont, wpS_retV, wpS_throw, wpS_seq, wpS_if, wpS_trunc, yS_let, yS_inc, kgK_i, kgK_r, kok_nil, kok_i0, kok_is, kok_r0, kok_rs, kok_n0, kok_ns, xS_put, xS_putOp, xS_ast0, xS_ast1, xS_astOp, wpS_E, wpS_call, wpS_callS, wpS_ret, kThen_N, kThen_B, kThen_C, kThen_R, kThen_T, kNext_N, kNext_C, kNext_B, kNext_R, wpE_K, wpE_KL, xE_I, xE_R, wpE_J, xE_bin, wpE_ladd, wpE_i2l, xE_get, xE_ald0, xE_ald1, wpE_if, xE_max, xE_min, wpE_len, wpA_nil, wpA_snoc, xE_call, xE_callS, xC_C, xC_L, xC_Z, wpC_and, wpC_or, wpC_not, wpC_if, kcmp_0, kcmp_1, kcmp_2, kcmp_3, kcmp_4, kcmp_5, rR_inj, kgO_some, kgO_add, kgO_sub, kgO_mul, kgO_div, kgO_rem, kgO_and, kvI_inl, kvJ_inl, kgI_0, kgI_s, kgR_0, kgR_s, kst_nil, kst_0, kst_s, kNLl_nil, kNLl_i, kNLl_r, kNLl_n, ktag_i, ktag_r, List.length_cons, List.length_nil, List.take_succ_cons, List.take_zero, List.take_nil, List.nil_append, List.cons_append, decide_eq_true_eq, Bool.not_eq_true, Bool.not_eq_true', decide_eq_false_iff_not, ne_eq, Decidable.not_not, true_and, and_true, Nat.reduceAdd, Nat.reduceLeDiff, Nat.reduceEqDiff, Nat.le_refl, not_true_eq_false, not_false_eq_true, reduceIte, eq_self, Int.reduceNeg, Int.reduceEq, Int.reduceLT, Int.reduceLE, Nat.zero_le, Nat.one_ne_zero, ev_row, ev_row_arr, Int.toNat_natCast]
  repeat refine And.intro (by omega) ?_
  rw [hQ102]
  clear hQ102 Q102
  refine kThen_N.mpr ?_
  refine wpS_seq' (fun Q103 hQ103 => ?_)
  simp only [wpS_skip, wpS_break, wpS_cont, wpS_retV, wpS_throw, wpS_seq, wpS_if, wpS_trunc, yS_let, yS_inc, kgK_i, kgK_r, kok_nil, kok_i0, kok_is, kok_r0, kok_rs, kok_n0, kok_ns, xS_put, xS_putOp, xS_ast0, xS_ast1, xS_astOp, wpS_E, wpS_call, wpS_callS, wpS_ret, kThen_N, kThen_B, kThen_C, kThen_R, kThen_T, kNext_N, kNext_C, kNext_B, kNext_R, wpE_K, wpE_KL, xE_I, xE_R, wpE_J, xE_bin, wpE_ladd, wpE_i2l, xE_get, xE_ald0, xE_ald1, wpE_if, xE_max, xE_min, wpE_len, wpA_nil, wpA_snoc, xE_call, xE_callS, xC_C, xC_L, xC_Z, wpC_and, wpC_or, wpC_not, wpC_if, kcmp_0, kcmp_1, kcmp_2, kcmp_3, kcmp_4, kcmp_5, rR_inj, kgO_some, kgO_add, kgO_sub, kgO_mul, kgO_div, kgO_rem, kgO_and, kvI_inl, kvJ_inl, kgI_0, kgI_s, kgR_0, kgR_s, kst_nil, kst_0, kst_s, kNLl_nil, kNLl_i, kNLl_r, kNLl_n, ktag_i, ktag_r, List.length_cons, List.length_nil, List.take_succ_cons, List.take_zero, List.take_nil, List.nil_append, List.cons_append, decide_eq_true_eq, Bool.not_eq_true, Bool.not_eq_true', decide_eq_false_iff_not, ne_eq, Decidable.not_not, true_and, and_true, Nat.reduceAdd, Nat.reduceLeDiff, Nat.reduceEqDiff, Nat.le_refl, not_true_eq_false, not_false_eq_true, reduceIte, eq_self, Int.reduceNeg, Int.reduceEq, Int.reduceLT, Int.reduceLE, Nat.zero_le, Nat.one_ne_zero, ev_row, ev_row_arr, Int.toNat_natCast]
  repeat refine And.intro (by omega) ?_
  rw [hQ103]
  clear hQ103 Q103
  refine kThen_N.mpr ?_
  refine wpS_seq' (fun Q104 hQ104 => ?_)
  simp only [wpS_skip, wpS_break, wpS_cont, wpS_retV, wpS_throw, wpS_seq, wpS_if, wpS_trunc, yS_let, yS_inc, kgK_i, kgK_r, kok_nil, kok_i0, kok_is, kok_r0, kok_rs, kok_n0, kok_ns, xS_put, xS_putOp, xS_ast0, xS_ast1, xS_astOp, wpS_E, wpS_call, wpS_callS, wpS_ret, kThen_N, kThen_B, kThen_C, kThen_R, kThen_T, kNext_N, kNext_C, kNext_B, kNext_R, wpE_K, wpE_KL, xE_I, xE_R, wpE_J, xE_bin, wpE_ladd, wpE_i2l, xE_get, xE_ald0, xE_ald1, wpE_if, xE_max, xE_min, wpE_len, wpA_nil, wpA_snoc, xE_call, xE_callS, xC_C, xC_L, xC_Z, wpC_and, wpC_or, wpC_not, wpC_if, kcmp_0, kcmp_1, kcmp_2, kcmp_3, kcmp_4, kcmp_5, rR_inj, kgO_some, kgO_add, kgO_sub, kgO_mul, kgO_div, kgO_rem, kgO_and, kvI_inl, kvJ_inl, kgI_0, kgI_s, kgR_0, kgR_s, kst_nil, kst_0, kst_s, kNLl_nil, kNLl_i, kNLl_r, kNLl_n, ktag_i, ktag_r, List.length_cons, List.length_nil, List.take_succ_cons, List.take_zero, List.take_nil, List.nil_append, List.cons_append, decide_eq_true_eq, Bool.not_eq_true, Bool.not_eq_true', decide_eq_false_iff_not, ne_eq, Decidable.not_not, true_and, and_true, Nat.reduceAdd, Nat.reduceLeDiff, Nat.reduceEqDiff, Nat.le_refl, not_true_eq_false, not_false_eq_true, reduceIte, eq_self, Int.reduceNeg, Int.reduceEq, Int.reduceLT, Int.reduceLE, Nat.zero_le, Nat.one_ne_zero]
  repeat refine And.intro (by omega) ?_
  rw [hQ104]
  clear hQ104 Q104
  refine kThen_N.mpr ?_
  refine wpS_gen (fun Q1 hQ1 => ?_)
  unfold l_Row_spread_2
  refine wpS_fortG (fun h P s => ∃ (t : Nat) (q dp by' : Nat → Nat), P = [some (.inr (.inl 7)), some (.inl (fr : Int)), some (.inr (.inl 2)), some (.inr (.inl 16)), some (.inr (.inl 36)), some (.inl (t : Int))] ∧ bf n al sn fr h t q dp by' ∧ spS σ s 36 t q dp) (fun m => (m : Int)) n rfl rfl ?_ ?_ ?_ ?_
  · simp only [wpS_skip, wpS_break, wpS_cont, wpS_retV, wpS_throw, wpS_seq, wpS_if, wpS_trunc, yS_let, yS_inc, kgK_i, kgK_r, kok_nil, kok_i0, kok_is, kok_r0, kok_rs, kok_n0, kok_ns, xS_put, xS_putOp, xS_ast0, xS_ast1, xS_astOp, wpS_E, wpS_call, wpS_callS, wpS_ret, kThen_N, kThen_B, kThen_C, kThen_R, kThen_T, kNext_N, kNext_C, kNext_B, kNext_R, wpE_K, wpE_KL, xE_I, xE_R, wpE_J, xE_bin, wpE_ladd, wpE_i2l, xE_get, xE_ald0, xE_ald1, wpE_if, xE_max, xE_min, wpE_len, wpA_nil, wpA_snoc, xE_call, xE_callS, xC_C, xC_L, xC_Z, wpC_and, wpC_or, wpC_not, wpC_if, kcmp_0, kcmp_1, kcmp_2, kcmp_3, kcmp_4, kcmp_5, rR_inj, kgO_some, kgO_add, kgO_sub, kgO_mul, kgO_div, kgO_rem, kgO_and, kvI_inl, kvJ_inl, kgI_0, kgI_s, kgR_0, kgR_s, kst_nil, kst_0, kst_s, kNLl_nil, kNLl_i, kNLl_r, kNLl_n, ktag_i, ktag_r, List.length_cons, List.length_nil, List.take_succ_cons, List.take_zero, List.take_nil, List.nil_append, List.cons_append, decide_eq_true_eq, Bool.not_eq_true, Bool.not_eq_true', decide_eq_false_iff_not, ne_eq, Decidable.not_not, true_and, and_true, Nat.reduceAdd, Nat.reduceLeDiff, Nat.reduceEqDiff, Nat.le_refl, not_true_eq_false, not_false_eq_true, reduceIte, eq_self, Int.reduceNeg, Int.reduceEq, Int.reduceLT, Int.reduceLE, Nat.zero_le, Nat.one_ne_zero]; trivial
  · refine ⟨1, fun _ => fr, fun _ => 0, fun _ => 0, rfl, bf_start hfr rfl, ?_, ?_, ?_⟩
    · intro o k h1 h2; rw [kup_ne h2, kup_ne h1]; exact f1 o k h1
    · intro i hi; have : i = 0 := by omega
      subst this; simp [kup]
    · intro v
      refine ⟨?_, ?_⟩
      · rintro ⟨i, hi, rfl⟩; simp [kup]
      · intro hv3 hv
        have : v ≠ fr := fun e => hv ⟨0, by omega, e.symm⟩
        rw [kup_ne (by decide), kup_eq, if_neg this]
        exact f2 v hv3
  · rintro h P s ⟨t, q, dp, by', rfl, -⟩; exact ⟨rfl, rfl⟩
  · rintro h P s hh ⟨t, q, dp, by', rfl, B, S1, S2, S3⟩
    have htn := bf_le B
    have hht : h ≤ t := B.2.1
    rcases Nat.lt_or_ge h t with hlt | hlt
    · have c1 : (h : Int) < 300 := by omega
      have c2 : (h : Int) < (t : Int) := by omega
      refine wpC_gen (fun Q2 hQ2 => ?_)
      simp only [wpS_skip, wpS_break, wpS_cont, wpS_retV, wpS_throw, wpS_seq, wpS_if, wpS_trunc, yS_let, yS_inc, kgK_i, kgK_r, kok_nil, kok_i0, kok_is, kok_r0, kok_rs, kok_n0, kok_ns, xS_put, xS_putOp, xS_ast0, xS_ast1, xS_astOp, wpS_E, wpS_call, wpS_callS, wpS_ret, kThen_N, kThen_B, kThen_C, kThen_R, kThen_T, kNext_N, kNext_C, kNext_B, kNext_R, wpE_K, wpE_KL, xE_I, xE_R, wpE_J, xE_bin, wpE_ladd, wpE_i2l, xE_get, xE_ald0, xE_ald1, wpE_if, xE_max, xE_min, wpE_len, wpA_nil, wpA_snoc, xE_call, xE_callS, xC_C, xC_L, xC_Z, wpC_and, wpC_or, wpC_not, wpC_if, kcmp_0, kcmp_1, kcmp_2, kcmp_3, kcmp_4, kcmp_5, rR_inj, kgO_some, kgO_add, kgO_sub, kgO_mul, kgO_div, kgO_rem, kgO_and, kvI_inl, kvJ_inl, kgI_0, kgI_s, kgR_0, kgR_s, kst_nil, kst_0, kst_s, kNLl_nil, kNLl_i, kNLl_r, kNLl_n, ktag_i, ktag_r, List.length_cons, List.length_nil, List.take_succ_cons, List.take_zero, List.take_nil, List.nil_append, List.cons_append, decide_eq_true_eq, Bool.not_eq_true, Bool.not_eq_true', decide_eq_false_iff_not, ne_eq, Decidable.not_not, true_and, and_true, Nat.reduceAdd, Nat.reduceLeDiff, Nat.reduceEqDiff, Nat.le_refl, not_true_eq_false, not_false_eq_true, reduceIte, eq_self, Int.reduceNeg, Int.reduceEq, Int.reduceLT, Int.reduceLE, Nat.zero_le, Nat.one_ne_zero, c1, c2, decide_true, decide_false, Bool.false_eq_true, if_true, if_false, true_and, and_true, not_true_eq_false, not_false_eq_true]
      rw [hQ2]
      refine ⟨rfl, Or.inl ⟨rfl, by omega, by simp, by omega, by omega, ?_⟩⟩
      rw [wpS_trunc]
      have hqn := B.2.2.2.2.1 h hlt
      have e29 := S2 h hlt
      refine wpS_seq' (fun Q105 hQ105 => ?_)
      simp only [wpS_skip, wpS_break, wpS_cont, wpS_retV, wpS_throw, wpS_seq, wpS_if, wpS_trunc, yS_let, yS_inc, kgK_i, kgK_r, kok_nil, kok_i0, kok_is, kok_r0, kok_rs, kok_n0, kok_ns, xS_put, xS_putOp, xS_ast0, xS_ast1, xS_astOp, wpS_E, wpS_call, wpS_callS, wpS_ret, kThen_N, kThen_B, kThen_C, kThen_R, kThen_T, kNext_N, kNext_C, kNext_B, kNext_R, wpE_K, wpE_KL, xE_I, xE_R, wpE_J, xE_bin, wpE_ladd, wpE_i2l, xE_get, xE_ald0, xE_ald1, wpE_if, xE_max, xE_min, wpE_len, wpA_nil, wpA_snoc, xE_call, xE_callS, xC_C, xC_L, xC_Z, wpC_and, wpC_or, wpC_not, wpC_if, kcmp_0, kcmp_1, kcmp_2, kcmp_3, kcmp_4, kcmp_5, rR_inj, kgO_some, kgO_add, kgO_sub, kgO_mul, kgO_div, kgO_rem, kgO_and, kvI_inl, kvJ_inl, kgI_0, kgI_s, kgR_0, kgR_s, kst_nil, kst_0, kst_s, kNLl_nil, kNLl_i, kNLl_r, kNLl_n, ktag_i, ktag_r, List.length_cons, List.length_nil, List.take_succ_cons, List.take_zero, List.take_nil, List.nil_append, List.cons_append, decide_eq_true_eq, Bool.not_eq_true, Bool.not_eq_true', decide_eq_false_iff_not, ne_eq, Decidable.not_not, true_and, and_true, Nat.reduceAdd, Nat.reduceLeDiff, Nat.reduceEqDiff, Nat.le_refl, not_true_eq_false, not_false_eq_true, reduceIte, eq_self, Int.reduceNeg, Int.reduceEq, Int.reduceLT, Int.reduceLE, Nat.zero_le, Nat.one_ne_zero, ev_row, ev_row_arr, Int.toNat_natCast, e29]
      repeat refine And.intro (by omega) ?_
      rw [hQ105]
      clear hQ105 Q105
      refine kThen_N.mpr ?_
      unfold l_Row_spread_1
      obtain ⟨v, hv⟩ : ∃ v, v = q h := ⟨_, rfl⟩
      rw [← hv] at hqn ⊢
      have sv := w8.2.2.2 v (by omega)
      have sv1 := w8.2.2.2 (v + 1) (by omega)
      have sle := fan_le w9 (show v + 1 ≤ n from hqn)
      have smo := w9.2.2.1 v hqn
      have t1 : ((v : Int) + 1).toNat = v + 1 := by omega
      refine wpS_gen (fun Q9 hQ9 => ?_)
      refine wpS_fort (fun k P s1 => ∃ (t : Nat) (q dp by' : Nat → Nat), P = [some (.inr (.inl 7)), some (.inl (fr : Int)), some (.inr (.inl 2)), some (.inr (.inl 16)), some (.inr (.inl 36)), some (.inl (t : Int)), some (.inl (h : Int)), some (.inl (v : Int))] ∧ h < t ∧ q h = v ∧ bf n al sn fr h t q dp by' ∧ spS σ s1 36 t q dp ∧ ∀ j, So v ≤ j → j < k → lo (Fo j) = 0 → ∃ i, i < t ∧ q i = sn (Fo j)) (So v) (So (v + 1)) rfl rfl ?_ ?_ ?_ ?_ ?_ ?_ ?_
      · have e20 : s 20 v = So v := by rw [S1 _ _ (by decide) (by decide)]; exact sv
        simp only [wpS_skip, wpS_break, wpS_cont, wpS_retV, wpS_throw, wpS_seq, wpS_if, wpS_trunc, yS_let, yS_inc, kgK_i, kgK_r, kok_nil, kok_i0, kok_is, kok_r0, kok_rs, kok_n0, kok_ns, xS_put, xS_putOp, xS_ast0, xS_ast1, xS_astOp, wpS_E, wpS_call, wpS_callS, wpS_ret, kThen_N, kThen_B, kThen_C, kThen_R, kThen_T, kNext_N, kNext_C, kNext_B, kNext_R, wpE_K, wpE_KL, xE_I, xE_R, wpE_J, xE_bin, wpE_ladd, wpE_i2l, xE_get, xE_ald0, xE_ald1, wpE_if, xE_max, xE_min, wpE_len, wpA_nil, wpA_snoc, xE_call, xE_callS, xC_C, xC_L, xC_Z, wpC_and, wpC_or, wpC_not, wpC_if, kcmp_0, kcmp_1, kcmp_2, kcmp_3, kcmp_4, kcmp_5, rR_inj, kgO_some, kgO_add, kgO_sub, kgO_mul, kgO_div, kgO_rem, kgO_and, kvI_inl, kvJ_inl, kgI_0, kgI_s, kgR_0, kgR_s, kst_nil, kst_0, kst_s, kNLl_nil, kNLl_i, kNLl_r, kNLl_n, ktag_i, ktag_r, List.length_cons, List.length_nil, List.take_succ_cons, List.take_zero, List.take_nil, List.nil_append, List.cons_append, decide_eq_true_eq, Bool.not_eq_true, Bool.not_eq_true', decide_eq_false_iff_not, ne_eq, Decidable.not_not, true_and, and_true, Nat.reduceAdd, Nat.reduceLeDiff, Nat.reduceEqDiff, Nat.le_refl, not_true_eq_false, not_false_eq_true, reduceIte, eq_self, Int.reduceNeg, Int.reduceEq, Int.reduceLT, Int.reduceLE, Nat.zero_le, Nat.one_ne_zero, ev_fout, ev_fout_arr, Int.toNat_natCast, e20]
        omega
      · omega
      · exact ⟨t, q, dp, by', rfl, hlt, hv.symm, B, ⟨S1, S2, S3⟩, fun j hj => by omega⟩
      · rintro k P s1 ⟨t, q, dp, by', rfl, -⟩; exact ⟨rfl, rfl⟩
      · rintro k P s1 h0 h1 ⟨t, q, dp, by', rfl, -, -, -, ⟨S1, -⟩, -⟩
        have e20 : s1 20 (v + 1) = So (v + 1) := by rw [S1 _ _ (by decide) (by decide)]; exact sv1
        simp only [wpS_skip, wpS_break, wpS_cont, wpS_retV, wpS_throw, wpS_seq, wpS_if, wpS_trunc, yS_let, yS_inc, kgK_i, kgK_r, kok_nil, kok_i0, kok_is, kok_r0, kok_rs, kok_n0, kok_ns, xS_put, xS_putOp, xS_ast0, xS_ast1, xS_astOp, wpS_E, wpS_call, wpS_callS, wpS_ret, kThen_N, kThen_B, kThen_C, kThen_R, kThen_T, kNext_N, kNext_C, kNext_B, kNext_R, wpE_K, wpE_KL, xE_I, xE_R, wpE_J, xE_bin, wpE_ladd, wpE_i2l, xE_get, xE_ald0, xE_ald1, wpE_if, xE_max, xE_min, wpE_len, wpA_nil, wpA_snoc, xE_call, xE_callS, xC_C, xC_L, xC_Z, wpC_and, wpC_or, wpC_not, wpC_if, kcmp_0, kcmp_1, kcmp_2, kcmp_3, kcmp_4, kcmp_5, rR_inj, kgO_some, kgO_add, kgO_sub, kgO_mul, kgO_div, kgO_rem, kgO_and, kvI_inl, kvJ_inl, kgI_0, kgI_s, kgR_0, kgR_s, kst_nil, kst_0, kst_s, kNLl_nil, kNLl_i, kNLl_r, kNLl_n, ktag_i, ktag_r, List.length_cons, List.length_nil, List.take_succ_cons, List.take_zero, List.take_nil, List.nil_append, List.cons_append, decide_eq_true_eq, Bool.not_eq_true, Bool.not_eq_true', decide_eq_false_iff_not, ne_eq, Decidable.not_not, true_and, and_true, Nat.reduceAdd, Nat.reduceLeDiff, Nat.reduceEqDiff, Nat.le_refl, not_true_eq_false, not_false_eq_true, reduceIte, eq_self, Int.reduceNeg, Int.reduceEq, Int.reduceLT, Int.reduceLE, Nat.zero_le, Nat.one_ne_zero, ev_fout, ev_fout_arr, Int.toNat_natCast, t1, e20]
        omega
      · rintro k P s1 h0 h1 ⟨t, q, dp, by', rfl, hlt, hqv, B, ⟨S1, S2, S3⟩, hdone⟩
        obtain ⟨x, hx⟩ : ∃ x, x = Fo k := ⟨_, rfl⟩
        have hkc : k < c := by omega
        have hxt : th c li x := by rw [hx]; exact (w9.2.2.2.1 k hkc).1
        have hxk : fs x = v := by rw [hx]; exact (fan_at w9 hkc hqn).mpr ⟨h0, h1⟩
        obtain ⟨x1, x2, x3, x4⟩ := th_lt hG hxt
        have e19 : s1 19 k = x := by rw [S1 _ _ (by decide) (by decide), w8.2.2.1 k hkc, hx]
        rw [wpS_trunc]
        refine wpS_seq' (fun Q106 hQ106 => ?_)
        simp only [wpS_skip, wpS_break, wpS_cont, wpS_retV, wpS_throw, wpS_seq, wpS_if, wpS_trunc, yS_let, yS_inc, kgK_i, kgK_r, kok_nil, kok_i0, kok_is, kok_r0, kok_rs, kok_n0, kok_ns, xS_put, xS_putOp, xS_ast0, xS_ast1, xS_astOp, wpS_E, wpS_call, wpS_callS, wpS_ret, kThen_N, kThen_B, kThen_C, kThen_R, kThen_T, kNext_N, kNext_C, kNext_B, kNext_R, wpE_K, wpE_KL, xE_I, xE_R, wpE_J, xE_bin, wpE_ladd, wpE_i2l, xE_get, xE_ald0, xE_ald1, wpE_if, xE_max, xE_min, wpE_len, wpA_nil, wpA_snoc, xE_call, xE_callS, xC_C, xC_L, xC_Z, wpC_and, wpC_or, wpC_not, wpC_if, kcmp_0, kcmp_1, kcmp_2, kcmp_3, kcmp_4, kcmp_5, rR_inj, kgO_some, kgO_add, kgO_sub, kgO_mul, kgO_div, kgO_rem, kgO_and, kvI_inl, kvJ_inl, kgI_0, kgI_s, kgR_0, kgR_s, kst_nil, kst_0, kst_s, kNLl_nil, kNLl_i, kNLl_r, kNLl_n, ktag_i, ktag_r, List.length_cons, List.length_nil, List.take_succ_cons, List.take_zero, List.take_nil, List.nil_append, List.cons_append, decide_eq_true_eq, Bool.not_eq_true, Bool.not_eq_true', decide_eq_false_iff_not, ne_eq, Decidable.not_not, true_and, and_true, Nat.reduceAdd, Nat.reduceLeDiff, Nat.reduceEqDiff, Nat.le_refl, not_true_eq_false, not_false_eq_true, reduceIte, eq_self, Int.reduceNeg, Int.reduceEq, Int.reduceLT, Int.reduceLE, Nat.zero_le, Nat.one_ne_zero, ev_fout, ev_fout_arr, Int.toNat_natCast, e19]
        repeat refine And.intro (by omega) ?_
        rw [hQ106]
        clear hQ106 Q106
        refine kThen_N.mpr ?_
        obtain ⟨u, hu⟩ : ∃ u, u = sn x := ⟨_, rfl⟩
        have hun : u < n := by omega
        have e16 : s1 16 x = u := by rw [S1 _ _ (by decide) (by decide), hu]; first | exact w4 x | exact w5 x
        refine wpS_seq' (fun Q107 hQ107 => ?_)
        simp only [wpS_skip, wpS_break, wpS_cont, wpS_retV, wpS_throw, wpS_seq, wpS_if, wpS_trunc, yS_let, yS_inc, kgK_i, kgK_r, kok_nil, kok_i0, kok_is, kok_r0, kok_rs, kok_n0, kok_ns, xS_put, xS_putOp, xS_ast0, xS_ast1, xS_astOp, wpS_E, wpS_call, wpS_callS, wpS_ret, kThen_N, kThen_B, kThen_C, kThen_R, kThen_T, kNext_N, kNext_C, kNext_B, kNext_R, wpE_K, wpE_KL, xE_I, xE_R, wpE_J, xE_bin, wpE_ladd, wpE_i2l, xE_get, xE_ald0, xE_ald1, wpE_if, xE_max, xE_min, wpE_len, wpA_nil, wpA_snoc, xE_call, xE_callS, xC_C, xC_L, xC_Z, wpC_and, wpC_or, wpC_not, wpC_if, kcmp_0, kcmp_1, kcmp_2, kcmp_3, kcmp_4, kcmp_5, rR_inj, kgO_some, kgO_add, kgO_sub, kgO_mul, kgO_div, kgO_rem, kgO_and, kvI_inl, kvJ_inl, kgI_0, kgI_s, kgR_0, kgR_s, kst_nil, kst_0, kst_s, kNLl_nil, kNLl_i, kNLl_r, kNLl_n, ktag_i, ktag_r, List.length_cons, List.length_nil, List.take_succ_cons, List.take_zero, List.take_nil, List.nil_append, List.cons_append, decide_eq_true_eq, Bool.not_eq_true, Bool.not_eq_true', decide_eq_false_iff_not, ne_eq, Decidable.not_not, true_and, and_true, Nat.reduceAdd, Nat.reduceLeDiff, Nat.reduceEqDiff, Nat.le_refl, not_true_eq_false, not_false_eq_true, reduceIte, eq_self, Int.reduceNeg, Int.reduceEq, Int.reduceLT, Int.reduceLE, Nat.zero_le, Nat.one_ne_zero, ev_web_arr, Int.toNat_natCast, e16]
        repeat refine And.intro (by omega) ?_
        rw [hQ107]
        clear hQ107 Q107
        refine kThen_N.mpr ?_
        refine wpS_gen (fun Q3 hQ3 => ?_)
        have e33 : s1 33 x = lo x := by rw [S1 _ _ (by decide) (by decide)]; exact hT x
        have old : (lo x = 0 → ∃ i, i < t ∧ q i = u) → Q3 rN [some (.inr (.inl 7)), some (.inl (fr : Int)), some (.inr (.inl 2)), some (.inr (.inl 16)), some (.inr (.inl 36)), some (.inl (t : Int)), some (.inl (h : Int)), some (.inl (v : Int)), some (.inl (k : Int)), some (.inl (x : Int)), some (.inl (u : Int))] s1 := by
          intro ha
          rw [hQ3]
          refine kStep_N rfl ⟨t, q, dp, by', rfl, hlt, hqv, B, ⟨S1, S2, S3⟩, fun j j0 hj hA => ?_⟩
          by_cases e : j = k
          · subst e; rw [← hx] at hA ⊢; rw [← hu]; exact ha hA
          · exact hdone j j0 (by omega) hA
        simp only [wpS_skip, wpS_break, wpS_cont, wpS_retV, wpS_throw, wpS_seq, wpS_if, wpS_trunc, yS_let, yS_inc, kgK_i, kgK_r, kok_nil, kok_i0, kok_is, kok_r0, kok_rs, kok_n0, kok_ns, xS_put, xS_putOp, xS_ast0, xS_ast1, xS_astOp, wpS_E, wpS_call, wpS_callS, wpS_ret, kThen_N, kThen_B, kThen_C, kThen_R, kThen_T, kNext_N, kNext_C, kNext_B, kNext_R, wpE_K, wpE_KL, xE_I, xE_R, wpE_J, xE_bin, wpE_ladd, wpE_i2l, xE_get, xE_ald0, xE_ald1, wpE_if, xE_max, xE_min, wpE_len, wpA_nil, wpA_snoc, xE_call, xE_callS, xC_C, xC_L, xC_Z, wpC_and, wpC_or, wpC_not, wpC_if, kcmp_0, kcmp_1, kcmp_2, kcmp_3, kcmp_4, kcmp_5, rR_inj, kgO_some, kgO_add, kgO_sub, kgO_mul, kgO_div, kgO_rem, kgO_and, kvI_inl, kvJ_inl, kgI_0, kgI_s, kgR_0, kgR_s, kst_nil, kst_0, kst_s, kNLl_nil, kNLl_i, kNLl_r, kNLl_n, ktag_i, ktag_r, List.length_cons, List.length_nil, List.take_succ_cons, List.take_zero, List.take_nil, List.nil_append, List.cons_append, decide_eq_true_eq, Bool.not_eq_true, Bool.not_eq_true', decide_eq_false_iff_not, ne_eq, Decidable.not_not, true_and, and_true, Nat.reduceAdd, Nat.reduceLeDiff, Nat.reduceEqDiff, Nat.le_refl, not_true_eq_false, not_false_eq_true, reduceIte, eq_self, Int.reduceNeg, Int.reduceEq, Int.reduceLT, Int.reduceLE, Nat.zero_le, Nat.one_ne_zero, ev_row, ev_row_arr, Int.toNat_natCast, e33]
        refine ⟨by omega, ?_⟩
        by_cases a1 : lo x = 0
        · simp only [a1, decide_true, decide_false, Bool.false_eq_true, if_true, if_false, true_and, and_true, not_true_eq_false, not_false_eq_true]
          refine ⟨by omega, ?_⟩
          by_cases a3 : s1 36 u = -1
          · simp only [a3, decide_true, decide_false, Bool.false_eq_true, if_true, if_false, true_and, and_true, not_true_eq_false, not_false_eq_true]
            have hnew : ∀ i, i < t → q i ≠ u := fun i hi e => by have := (S3 u).1 ⟨i, hi, e⟩; omega
            have htn := bf_lt B hun hnew
            have hmem : x ∈ al (q h) := by rw [hal, hqv]; exact (fAl_mem hG).mpr ⟨hxt, a1, hxk⟩
            have B' := bf_add B hlt hmem hu.symm hun hnew
            have e36 : s1 36 v = dp v := (S3 v).1 ⟨h, hlt, hqv⟩
            have hdv : dp v ≤ h := by rw [← hqv]; exact B.2.2.2.2.2.2.2.2.2.2.2 h hlt
            rw [e36]
            repeat refine And.intro (by omega) ?_
            rw [hQ3]
            refine kStep_N rfl ⟨t + 1, _, _, _, rfl, by omega, ?_, B', ⟨?_, ?_, ?_⟩, ?_⟩
            · rw [if_neg (by omega)]; exact hqv
            · intro o k q1 q2; rw [kup_ne q2, kup_ne q1]; exact S1 o k q1 q2
            · intro i hi
              rw [kup_eq]
              dsimp only
              by_cases e : i = t
              · rw [if_pos e, if_pos e]
              · rw [if_neg e, if_neg e, kup_ne (by decide)]; exact S2 i (by omega)
            · intro w
              rw [kup_ne (by decide), kup_eq]
              by_cases e : w = u
              · rw [if_pos e]
                refine ⟨fun _ => ?_, fun _ hn => absurd ⟨t, by omega, by simp [e]⟩ hn⟩
                dsimp only; rw [if_pos e, hqv]; rfl
              · rw [if_neg e]
                dsimp only
                rw [if_neg e]
                refine ⟨fun ⟨i, i1, i2⟩ => (S3 w).1 ?_, fun w3 hn => (S3 w).2 w3 (fun ⟨i, i1, i2⟩ => hn ⟨i, by omega, by rw [if_neg (by omega)]; exact i2⟩)⟩
                by_cases e2 : i = t
                · rw [if_pos e2] at i2; exact absurd i2.symm e
                · rw [if_neg e2] at i2; exact ⟨i, by omega, i2⟩
            · intro j j0 hj hA
              by_cases e : j = k
              · subst e; rw [← hx, ← hu]; exact ⟨t, by omega, by simp⟩
              · obtain ⟨i, i1, i2⟩ := hdone j j0 (by omega) hA
                exact ⟨i, by omega, by rw [if_neg (by omega)]; exact i2⟩
          · simp only [a3, decide_true, decide_false, Bool.false_eq_true, if_true, if_false, true_and, and_true, not_true_eq_false, not_false_eq_true]
            refine old (fun _ => Classical.byContradiction fun hn => ?_)
            exact a3 ((S3 u).2 (by omega) hn)
        · simp only [a1, decide_true, decide_false, Bool.false_eq_true, if_true, if_false, true_and, and_true, not_true_eq_false, not_false_eq_true]
          exact old (fun q => absurd q a1)
      · rintro P s1 ⟨t, q, dp, by', rfl, hlt, hqv, B, hS, hdone⟩
        rw [hQ9]
        refine kStep_N rfl ⟨t, q, dp, by', rfl, bf_next B hlt (fun e he => ?_), hS⟩
        rw [hal, hqv] at he
        obtain ⟨h1, h2, h3⟩ := (fAl_mem hG).mp he
        obtain ⟨k, k1, rfl⟩ := h1
        obtain ⟨i, i1, i2⟩ := w9.2.2.2.2.2 k k1
        have := (fan_at w9 i1 hqn).mp (by rw [i2]; exact h3)
        rw [← i2] at h2 ⊢
        exact hdone i this.1 this.2 h2
    · have c2 : ¬ (h : Int) < (t : Int) := by omega
      have c1 : (h : Int) < 300 ∨ ¬ (h : Int) < 300 := Classical.em _
      have e : h = t := by omega
      have fin : Q1 rN [some (.inr (.inl 7)), some (.inl (fr : Int)), some (.inr (.inl 2)), some (.inr (.inl 16)), some (.inr (.inl 36)), some (.inl (t : Int))] s := by
        subst e
        rw [hQ1]
        rw [hQ0]
        refine kThen_N.mpr (wpS_retV.mpr ⟨none, rfl, rfl, ?_⟩)
        obtain ⟨b1, b2⟩ := bf_end B
        refine ⟨rfl, S1, fun v d hd => ?_, fun v hv hr => (S3 v).2 hv (fun q => hr ((b1 v).mpr q)), fun v hv => ?_⟩
        · rw [(S3 v).1 ((b1 v).mp hd.rch), (b2 v hd.rch).uniq hd]
        · obtain ⟨i, i1, rfl⟩ := (b1 v).mp hv
          exact B.2.2.2.2.1 i i1
      rcases c1 with c1 | c1 <;> (refine wpC_gen (fun Q2 hQ2 => ?_); simp only [wpS_skip, wpS_break, wpS_cont, wpS_retV, wpS_throw, wpS_seq, wpS_if, wpS_trunc, yS_let, yS_inc, kgK_i, kgK_r, kok_nil, kok_i0, kok_is, kok_r0, kok_rs, kok_n0, kok_ns, xS_put, xS_putOp, xS_ast0, xS_ast1, xS_astOp, wpS_E, wpS_call, wpS_callS, wpS_ret, kThen_N, kThen_B, kThen_C, kThen_R, kThen_T, kNext_N, kNext_C, kNext_B, kNext_R, wpE_K, wpE_KL, xE_I, xE_R, wpE_J, xE_bin, wpE_ladd, wpE_i2l, xE_get, xE_ald0, xE_ald1, wpE_if, xE_max, xE_min, wpE_len, wpA_nil, wpA_snoc, xE_call, xE_callS, xC_C, xC_L, xC_Z, wpC_and, wpC_or, wpC_not, wpC_if, kcmp_0, kcmp_1, kcmp_2, kcmp_3, kcmp_4, kcmp_5, rR_inj, kgO_some, kgO_add, kgO_sub, kgO_mul, kgO_div, kgO_rem, kgO_and, kvI_inl, kvJ_inl, kgI_0, kgI_s, kgR_0, kgR_s, kst_nil, kst_0, kst_s, kNLl_nil, kNLl_i, kNLl_r, kNLl_n, ktag_i, ktag_r, List.length_cons, List.length_nil, List.take_succ_cons, List.take_zero, List.take_nil, List.nil_append, List.cons_append, decide_eq_true_eq, Bool.not_eq_true, Bool.not_eq_true', decide_eq_false_iff_not, ne_eq, Decidable.not_not, true_and, and_true, Nat.reduceAdd, Nat.reduceLeDiff, Nat.reduceEqDiff, Nat.le_refl, not_true_eq_false, not_false_eq_true, reduceIte, eq_self, Int.reduceNeg, Int.reduceEq, Int.reduceLT, Int.reduceLE, Nat.zero_le, Nat.one_ne_zero, c1, c2, decide_true, decide_false, Bool.false_eq_true, if_true, if_false, true_and, and_true, not_true_eq_false, not_false_eq_true]; rw [hQ2]; exact ⟨rfl, Or.inr ⟨rfl, fin⟩⟩)
theorem spreadBwd_ok {σ : kS} {n c ar fr : Nat} {li fs sn : Nat → Nat} {lo : Nat → Int} (hG : gOk n c ar li fs sn) (hW : Wb σ n c ar li fs sn) (hT : ∀ x, σ 33 x = lo x) (hfr : fr < n) :
    wpF F_Row_spread [.inr (.inl 7), .inl (fr : Int), .inr (.inl 3), .inr (.inl 15), .inr (.inl 37)] σ (fun r s => r = none ∧ (∀ o k, o ≠ 37 → o ≠ 39 → s o k = σ o k) ∧
      (∀ v d, ds (fun u v => dE (fun x => th c li x ∧ lo x = 0) fs sn v u) fr v d → s 37 v = (d : Int)) ∧ (∀ v, v < 300 → ¬ rch (fun u v => dE (fun x => th c li x ∧ lo x = 0) fs sn v u) fr v → s 37 v = -1) ∧ (∀ v, rch (fun u v => dE (fun x => th c li x ∧ lo x = 0) fs sn v u) fr v → v < n)) := by
  have hn3 := hG.1
  have hc9 := hG.2.1
  obtain ⟨al, hal⟩ : ∃ al, al = fAl c li sn (fun x => lo x = 0) := ⟨_, rfl⟩
  have hE : bE al fs = fun u v => dE (fun x => th c li x ∧ lo x = 0) fs sn v u := by
    funext u v
    rw [hal]
    refine propext ⟨?_, ?_⟩
    · rintro ⟨x, hx, rfl⟩
      obtain ⟨h1, h2, rfl⟩ := (fAl_mem hG).mp hx
      exact ⟨x, ⟨h1, h2⟩, rfl, rfl⟩
    · rintro ⟨x, ⟨h1, h2⟩, rfl, rfl⟩
      exact ⟨x, (fAl_mem hG).mpr ⟨h1, h2, rfl⟩, rfl⟩
  rw [← hE]
  obtain ⟨w1, w2, w3, w4, w5, w6, w7, Fo, So, Fi, Si, w8, w9, w10, w11⟩ := id hW
  unfold F_Row_spread
  rw [wpF_kF]
  refine ⟨rfl, rfl, ?_⟩
  unfold s_Row_spread
  simp only [List.map_cons, List.map_nil]
  refine wpS_seq' (fun Q0 hQ0 => ?_)
  refine wpS_seq' (fun Q108 hQ108 => ?_)
  simp only [wpS_skip, wpS_break, wpS_cont, wpS_retV, wpS_throw, wpS_seq, wpS_if, wpS_trunc, yS_let, yS_inc, kgK_i, kgK_r, kok_nil, kok_i0, kok_is, kok_r0, kok_rs, kok_n0, kok_ns, xS_put, xS_putOp, xS_ast0, xS_ast1, xS_astOp, wpS_E, wpS_call, wpS_callS, wpS_ret, kThen_N, kThen_B, kThen_C, kThen_R, kThen_T, kNext_N, kNext_C, kNext_B, kNext_R, wpE_K, wpE_KL, xE_I, xE_R, wpE_J, xE_bin, wpE_ladd, wpE_i2l, xE_get, xE_ald0, xE_ald1, wpE_if, xE_max, xE_min, wpE_len, wpA_nil, wpA_snoc, xE_call, xE_callS, xC_C, xC_L, xC_Z, wpC_and, wpC_or, wpC_not, wpC_if, kcmp_0, kcmp_1, kcmp_2, kcmp_3, kcmp_4, kcmp_5, rR_inj, kgO_some, kgO_add, kgO_sub, kgO_mul, kgO_div, kgO_rem, kgO_and, kvI_inl, kvJ_inl, kgI_0, kgI_s, kgR_0, kgR_s, kst_nil, kst_0, kst_s, kNLl_nil, kNLl_i, kNLl_r, kNLl_n, ktag_i, ktag_r, List.length_cons, List.length_nil, List.take_succ_cons, List.take_zero, List.take_nil, List.nil_append, List.cons_append, decide_eq_true_eq, Bool.not_eq_true, Bool.not_eq_true', decide_eq_false_iff_not, ne_eq, Decidable.not_not, true_and, and_true, Nat.reduceAdd, Nat.reduceLeDiff, Nat.reduceEqDiff, Nat.le_refl, not_true_eq_false, not_false_eq_true, reduceIte, eq_self, Int.reduceNeg, Int.reduceEq, Int.reduceLT, Int.reduceLE, Nat.zero_le, Nat.one_ne_zero, ev_row, ev_row_arr]
  refine (fill_ok (n := 300) (by omega) rfl rfl).mono ?_
  rintro r s0 ⟨rfl, hs0⟩
  refine ⟨rfl, ?_⟩
  rw [hQ108]
  clear hQ108
  refine kThen_N.mpr ?_
  have f1 : ∀ o k, o ≠ 37 → s0 o k = σ o k := by intro o k ho; rw [hs0]; unfold kfill; rw [if_neg (fun q => ho q.1)]
  have f2 : ∀ v, v < 300 → s0 37 v = -1 := by intro v hv; rw [hs0]; unfold kfill; rw [if_pos ⟨rfl, hv⟩]
  clear hs0
  refine wpS_seq' (fun Q109 hQ109 => ?_)
  simp only [wpS_skip, wpS_break, wpS_cont, wpS_retV, wpS_throw, wpS_seq, wpS_if, wpS_trunc, yS_let, yS_inc, kgK_i, kgK_r, kok_nil, kok_i0, kok_is, kok_r0, kok_rs, kok_n0, kok_ns, xS_put, xS_putOp, xS_ast0, xS_ast1, xS_astOp, wpS_E, wpS_call, wpS_callS, wpS_ret, kThen_N, kThen_B, kThen_C, kThen_R, kThen_T, kNext_N, kNext_C, kNext_B, kNext_R, wpE_K, wpE_KL, xE_I, xE_R, wpE_J, xE_bin, wpE_ladd, wpE_i2l, xE_get, xE_ald0, xE_ald1, wpE_if, xE_max, xE_min, wpE_len, wpA_nil, wpA_snoc, xE_call, xE_callS, xC_C, xC_L, xC_Z, wpC_and, wpC_or, wpC_not, wpC_if, kcmp_0, kcmp_1, kcmp_2, kcmp_3, kcmp_4, kcmp_5, rR_inj, kgO_some, kgO_add, kgO_sub, kgO_mul, kgO_div, kgO_rem, kgO_and, kvI_inl, kvJ_inl, kgI_0, kgI_s, kgR_0, kgR_s, kst_nil, kst_0, kst_s, kNLl_nil, kNLl_i, kNLl_r, kNLl_n, ktag_i, ktag_r, List.length_cons, List.length_nil, List.take_succ_cons, List.take_zero, List.take_nil, List.nil_append, List.cons_append, decide_eq_true_eq, Bool.not_eq_true, Bool.not_eq_true', decide_eq_false_iff_not, ne_eq, Decidable.not_not, true_and, and_true, Nat.reduceAdd, Nat.reduceLeDiff, Nat.reduceEqDiff, Nat.le_refl, not_true_eq_false, not_false_eq_true, reduceIte, eq_self, Int.reduceNeg, Int.reduceEq, Int.reduceLT, Int.reduceLE, Nat.zero_le, Nat.one_ne_zero, ev_row, ev_row_arr, Int.toNat_natCast]
  repeat refine And.intro (by omega) ?_
  rw [hQ109]
  clear hQ109 Q109
  refine kThen_N.mpr ?_
  refine wpS_seq' (fun Q110 hQ110 => ?_)
  simp only [wpS_skip, wpS_break, wpS_cont, wpS_retV, wpS_throw, wpS_seq, wpS_if, wpS_trunc, yS_let, yS_inc, kgK_i, kgK_r, kok_nil, kok_i0, kok_is, kok_r0, kok_rs, kok_n0, kok_ns, xS_put, xS_putOp, xS_ast0, xS_ast1, xS_astOp, wpS_E, wpS_call, wpS_callS, wpS_ret, kThen_N, kThen_B, kThen_C, kThen_R, kThen_T, kNext_N, kNext_C, kNext_B, kNext_R, wpE_K, wpE_KL, xE_I, xE_R, wpE_J, xE_bin, wpE_ladd, wpE_i2l, xE_get, xE_ald0, xE_ald1, wpE_if, xE_max, xE_min, wpE_len, wpA_nil, wpA_snoc, xE_call, xE_callS, xC_C, xC_L, xC_Z, wpC_and, wpC_or, wpC_not, wpC_if, kcmp_0, kcmp_1, kcmp_2, kcmp_3, kcmp_4, kcmp_5, rR_inj, kgO_some, kgO_add, kgO_sub, kgO_mul, kgO_div, kgO_rem, kgO_and, kvI_inl, kvJ_inl, kgI_0, kgI_s, kgR_0, kgR_s, kst_nil, kst_0, kst_s, kNLl_nil, kNLl_i, kNLl_r, kNLl_n, ktag_i, ktag_r, List.length_cons, List.length_nil, List.take_succ_cons, List.take_zero, List.take_nil, List.nil_append, List.cons_append, decide_eq_true_eq, Bool.not_eq_true, Bool.not_eq_true', decide_eq_false_iff_not, ne_eq, Decidable.not_not, true_and, and_true, Nat.reduceAdd, Nat.reduceLeDiff, Nat.reduceEqDiff, Nat.le_refl, not_true_eq_false, not_false_eq_true, reduceIte, eq_self, Int.reduceNeg, Int.reduceEq, Int.reduceLT, Int.reduceLE, Nat.zero_le, Nat.one_ne_zero, ev_row, ev_row_arr, Int.toNat_natCast]
  repeat refine And.intro (by omega) ?_
  rw [hQ110]
  clear hQ110 Q110
  refine kThen_N.mpr ?_
  refine wpS_seq' (fun Q111 hQ111 => ?_)
  simp only [wpS_skip, wpS_break, wpS_cont, wpS_retV, wpS_throw, wpS_seq, wpS_if, wpS_trunc, yS_let, yS_inc, kgK_i, kgK_r, kok_nil, kok_i0, kok_is, kok_r0, kok_rs, kok_n0, kok_ns, xS_put, xS_putOp, xS_ast0, xS_ast1, xS_astOp, wpS_E, wpS_call, wpS_callS, wpS_ret, kThen_N, kThen_B, kThen_C, kThen_R, kThen_T, kNext_N, kNext_C, kNext_B, kNext_R, wpE_K, wpE_KL, xE_I, xE_R, wpE_J, xE_bin, wpE_ladd, wpE_i2l, xE_get, xE_ald0, xE_ald1, wpE_if, xE_max, xE_min, wpE_len, wpA_nil, wpA_snoc, xE_call, xE_callS, xC_C, xC_L, xC_Z, wpC_and, wpC_or, wpC_not, wpC_if, kcmp_0, kcmp_1, kcmp_2, kcmp_3, kcmp_4, kcmp_5, rR_inj, kgO_some, kgO_add, kgO_sub, kgO_mul, kgO_div, kgO_rem, kgO_and, kvI_inl, kvJ_inl, kgI_0, kgI_s, kgR_0, kgR_s, kst_nil, kst_0, kst_s, kNLl_nil, kNLl_i, kNLl_r, kNLl_n, ktag_i, ktag_r, List.length_cons, List.length_nil, List.take_succ_cons, List.take_zero, List.take_nil, List.nil_append, List.cons_append, decide_eq_true_eq, Bool.not_eq_true, Bool.not_eq_true', decide_eq_false_iff_not, ne_eq, Decidable.not_not, true_and, and_true, Nat.reduceAdd, Nat.reduceLeDiff, Nat.reduceEqDiff, Nat.le_refl, not_true_eq_false, not_false_eq_true, reduceIte, eq_self, Int.reduceNeg, Int.reduceEq, Int.reduceLT, Int.reduceLE, Nat.zero_le, Nat.one_ne_zero]
  repeat refine And.intro (by omega) ?_
  rw [hQ111]
  clear hQ111 Q111
  refine kThen_N.mpr ?_
  refine wpS_gen (fun Q1 hQ1 => ?_)
  unfold l_Row_spread_2
  refine wpS_fortG (fun h P s => ∃ (t : Nat) (q dp by' : Nat → Nat), P = [some (.inr (.inl 7)), some (.inl (fr : Int)), some (.inr (.inl 3)), some (.inr (.inl 15)), some (.inr (.inl 37)), some (.inl (t : Int))] ∧ bf n al fs fr h t q dp by' ∧ spS σ s 37 t q dp) (fun m => (m : Int)) n rfl rfl ?_ ?_ ?_ ?_
  · simp only [wpS_skip, wpS_break, wpS_cont, wpS_retV, wpS_throw, wpS_seq, wpS_if, wpS_trunc, yS_let, yS_inc, kgK_i, kgK_r, kok_nil, kok_i0, kok_is, kok_r0, kok_rs, kok_n0, kok_ns, xS_put, xS_putOp, xS_ast0, xS_ast1, xS_astOp, wpS_E, wpS_call, wpS_callS, wpS_ret, kThen_N, kThen_B, kThen_C, kThen_R, kThen_T, kNext_N, kNext_C, kNext_B, kNext_R, wpE_K, wpE_KL, xE_I, xE_R, wpE_J, xE_bin, wpE_ladd, wpE_i2l, xE_get, xE_ald0, xE_ald1, wpE_if, xE_max, xE_min, wpE_len, wpA_nil, wpA_snoc, xE_call, xE_callS, xC_C, xC_L, xC_Z, wpC_and, wpC_or, wpC_not, wpC_if, kcmp_0, kcmp_1, kcmp_2, kcmp_3, kcmp_4, kcmp_5, rR_inj, kgO_some, kgO_add, kgO_sub, kgO_mul, kgO_div, kgO_rem, kgO_and, kvI_inl, kvJ_inl, kgI_0, kgI_s, kgR_0, kgR_s, kst_nil, kst_0, kst_s, kNLl_nil, kNLl_i, kNLl_r, kNLl_n, ktag_i, ktag_r, List.length_cons, List.length_nil, List.take_succ_cons, List.take_zero, List.take_nil, List.nil_append, List.cons_append, decide_eq_true_eq, Bool.not_eq_true, Bool.not_eq_true', decide_eq_false_iff_not, ne_eq, Decidable.not_not, true_and, and_true, Nat.reduceAdd, Nat.reduceLeDiff, Nat.reduceEqDiff, Nat.le_refl, not_true_eq_false, not_false_eq_true, reduceIte, eq_self, Int.reduceNeg, Int.reduceEq, Int.reduceLT, Int.reduceLE, Nat.zero_le, Nat.one_ne_zero]; trivial
  · refine ⟨1, fun _ => fr, fun _ => 0, fun _ => 0, rfl, bf_start hfr rfl, ?_, ?_, ?_⟩
    · intro o k h1 h2; rw [kup_ne h2, kup_ne h1]; exact f1 o k h1
    · intro i hi; have : i = 0 := by omega
      subst this; simp [kup]
    · intro v
      refine ⟨?_, ?_⟩
      · rintro ⟨i, hi, rfl⟩; simp [kup]
      · intro hv3 hv
        have : v ≠ fr := fun e => hv ⟨0, by omega, e.symm⟩
        rw [kup_ne (by decide), kup_eq, if_neg this]
        exact f2 v hv3
  · rintro h P s ⟨t, q, dp, by', rfl, -⟩; exact ⟨rfl, rfl⟩
  · rintro h P s hh ⟨t, q, dp, by', rfl, B, S1, S2, S3⟩
    have htn := bf_le B
    have hht : h ≤ t := B.2.1
    rcases Nat.lt_or_ge h t with hlt | hlt
    · have c1 : (h : Int) < 300 := by omega
      have c2 : (h : Int) < (t : Int) := by omega
      refine wpC_gen (fun Q2 hQ2 => ?_)
      simp only [wpS_skip, wpS_break, wpS_cont, wpS_retV, wpS_throw, wpS_seq, wpS_if, wpS_trunc, yS_let, yS_inc, kgK_i, kgK_r, kok_nil, kok_i0, kok_is, kok_r0, kok_rs, kok_n0, kok_ns, xS_put, xS_putOp, xS_ast0, xS_ast1, xS_astOp, wpS_E, wpS_call, wpS_callS, wpS_ret, kThen_N, kThen_B, kThen_C, kThen_R, kThen_T, kNext_N, kNext_C, kNext_B, kNext_R, wpE_K, wpE_KL, xE_I, xE_R, wpE_J, xE_bin, wpE_ladd, wpE_i2l, xE_get, xE_ald0, xE_ald1, wpE_if, xE_max, xE_min, wpE_len, wpA_nil, wpA_snoc, xE_call, xE_callS, xC_C, xC_L, xC_Z, wpC_and, wpC_or, wpC_not, wpC_if, kcmp_0, kcmp_1, kcmp_2, kcmp_3, kcmp_4, kcmp_5, rR_inj, kgO_some, kgO_add, kgO_sub, kgO_mul, kgO_div, kgO_rem, kgO_and, kvI_inl, kvJ_inl, kgI_0, kgI_s, kgR_0, kgR_s, kst_nil, kst_0, kst_s, kNLl_nil, kNLl_i, kNLl_r, kNLl_n, ktag_i, ktag_r, List.length_cons, List.length_nil, List.take_succ_cons, List.take_zero, List.take_nil, List.nil_append, List.cons_append, decide_eq_true_eq, Bool.not_eq_true, Bool.not_eq_true', decide_eq_false_iff_not, ne_eq, Decidable.not_not, true_and, and_true, Nat.reduceAdd, Nat.reduceLeDiff, Nat.reduceEqDiff, Nat.le_refl, not_true_eq_false, not_false_eq_true, reduceIte, eq_self, Int.reduceNeg, Int.reduceEq, Int.reduceLT, Int.reduceLE, Nat.zero_le, Nat.one_ne_zero, c1, c2, decide_true, decide_false, Bool.false_eq_true, if_true, if_false, true_and, and_true, not_true_eq_false, not_false_eq_true]
      rw [hQ2]
      refine ⟨rfl, Or.inl ⟨rfl, by omega, by simp, by omega, by omega, ?_⟩⟩
      rw [wpS_trunc]
      have hqn := B.2.2.2.2.1 h hlt
      have e29 := S2 h hlt
      refine wpS_seq' (fun Q112 hQ112 => ?_)
      simp only [wpS_skip, wpS_break, wpS_cont, wpS_retV, wpS_throw, wpS_seq, wpS_if, wpS_trunc, yS_let, yS_inc, kgK_i, kgK_r, kok_nil, kok_i0, kok_is, kok_r0, kok_rs, kok_n0, kok_ns, xS_put, xS_putOp, xS_ast0, xS_ast1, xS_astOp, wpS_E, wpS_call, wpS_callS, wpS_ret, kThen_N, kThen_B, kThen_C, kThen_R, kThen_T, kNext_N, kNext_C, kNext_B, kNext_R, wpE_K, wpE_KL, xE_I, xE_R, wpE_J, xE_bin, wpE_ladd, wpE_i2l, xE_get, xE_ald0, xE_ald1, wpE_if, xE_max, xE_min, wpE_len, wpA_nil, wpA_snoc, xE_call, xE_callS, xC_C, xC_L, xC_Z, wpC_and, wpC_or, wpC_not, wpC_if, kcmp_0, kcmp_1, kcmp_2, kcmp_3, kcmp_4, kcmp_5, rR_inj, kgO_some, kgO_add, kgO_sub, kgO_mul, kgO_div, kgO_rem, kgO_and, kvI_inl, kvJ_inl, kgI_0, kgI_s, kgR_0, kgR_s, kst_nil, kst_0, kst_s, kNLl_nil, kNLl_i, kNLl_r, kNLl_n, ktag_i, ktag_r, List.length_cons, List.length_nil, List.take_succ_cons, List.take_zero, List.take_nil, List.nil_append, List.cons_append, decide_eq_true_eq, Bool.not_eq_true, Bool.not_eq_true', decide_eq_false_iff_not, ne_eq, Decidable.not_not, true_and, and_true, Nat.reduceAdd, Nat.reduceLeDiff, Nat.reduceEqDiff, Nat.le_refl, not_true_eq_false, not_false_eq_true, reduceIte, eq_self, Int.reduceNeg, Int.reduceEq, Int.reduceLT, Int.reduceLE, Nat.zero_le, Nat.one_ne_zero, ev_row, ev_row_arr, Int.toNat_natCast, e29]
      repeat refine And.intro (by omega) ?_
      rw [hQ112]
      clear hQ112 Q112
      refine kThen_N.mpr ?_
      unfold l_Row_spread_1
      obtain ⟨v, hv⟩ : ∃ v, v = q h := ⟨_, rfl⟩
      rw [← hv] at hqn ⊢
      have sv := w10.2.2.2 v (by omega)
      have sv1 := w10.2.2.2 (v + 1) (by omega)
      have sle := fan_le w11 (show v + 1 ≤ n from hqn)
      have smo := w11.2.2.1 v hqn
      have t1 : ((v : Int) + 1).toNat = v + 1 := by omega
      refine wpS_gen (fun Q9 hQ9 => ?_)
      refine wpS_fort (fun k P s1 => ∃ (t : Nat) (q dp by' : Nat → Nat), P = [some (.inr (.inl 7)), some (.inl (fr : Int)), some (.inr (.inl 3)), some (.inr (.inl 15)), some (.inr (.inl 37)), some (.inl (t : Int)), some (.inl (h : Int)), some (.inl (v : Int))] ∧ h < t ∧ q h = v ∧ bf n al fs fr h t q dp by' ∧ spS σ s1 37 t q dp ∧ ∀ j, Si v ≤ j → j < k → lo (Fi j) = 0 → ∃ i, i < t ∧ q i = fs (Fi j)) (Si v) (Si (v + 1)) rfl rfl ?_ ?_ ?_ ?_ ?_ ?_ ?_
      · have e20 : s 22 v = Si v := by rw [S1 _ _ (by decide) (by decide)]; exact sv
        simp only [wpS_skip, wpS_break, wpS_cont, wpS_retV, wpS_throw, wpS_seq, wpS_if, wpS_trunc, yS_let, yS_inc, kgK_i, kgK_r, kok_nil, kok_i0, kok_is, kok_r0, kok_rs, kok_n0, kok_ns, xS_put, xS_putOp, xS_ast0, xS_ast1, xS_astOp, wpS_E, wpS_call, wpS_callS, wpS_ret, kThen_N, kThen_B, kThen_C, kThen_R, kThen_T, kNext_N, kNext_C, kNext_B, kNext_R, wpE_K, wpE_KL, xE_I, xE_R, wpE_J, xE_bin, wpE_ladd, wpE_i2l, xE_get, xE_ald0, xE_ald1, wpE_if, xE_max, xE_min, wpE_len, wpA_nil, wpA_snoc, xE_call, xE_callS, xC_C, xC_L, xC_Z, wpC_and, wpC_or, wpC_not, wpC_if, kcmp_0, kcmp_1, kcmp_2, kcmp_3, kcmp_4, kcmp_5, rR_inj, kgO_some, kgO_add, kgO_sub, kgO_mul, kgO_div, kgO_rem, kgO_and, kvI_inl, kvJ_inl, kgI_0, kgI_s, kgR_0, kgR_s, kst_nil, kst_0, kst_s, kNLl_nil, kNLl_i, kNLl_r, kNLl_n, ktag_i, ktag_r, List.length_cons, List.length_nil, List.take_succ_cons, List.take_zero, List.take_nil, List.nil_append, List.cons_append, decide_eq_true_eq, Bool.not_eq_true, Bool.not_eq_true', decide_eq_false_iff_not, ne_eq, Decidable.not_not, true_and, and_true, Nat.reduceAdd, Nat.reduceLeDiff, Nat.reduceEqDiff, Nat.le_refl, not_true_eq_false, not_false_eq_true, reduceIte, eq_self, Int.reduceNeg, Int.reduceEq, Int.reduceLT, Int.reduceLE, Nat.zero_le, Nat.one_ne_zero, ev_fin, ev_fin_arr, Int.toNat_natCast, e20]
        omega
      · omega
      · exact ⟨t, q, dp, by', rfl, hlt, hv.symm, B, ⟨S1, S2, S3⟩, fun j hj => by omega⟩
      · rintro k P s1 ⟨t, q, dp, by', rfl, -⟩; exact ⟨rfl, rfl⟩
      · rintro k P s1 h0 h1 ⟨t, q, dp, by', rfl, -, -, -, ⟨S1, -⟩, -⟩
        have e20 : s1 22 (v + 1) = Si (v + 1) := by rw [S1 _ _ (by decide) (by decide)]; exact sv1
        simp only [wpS_skip, wpS_break, wpS_cont, wpS_retV, wpS_throw, wpS_seq, wpS_if, wpS_trunc, yS_let, yS_inc, kgK_i, kgK_r, kok_nil, kok_i0, kok_is, kok_r0, kok_rs, kok_n0, kok_ns, xS_put, xS_putOp, xS_ast0, xS_ast1, xS_astOp, wpS_E, wpS_call, wpS_callS, wpS_ret, kThen_N, kThen_B, kThen_C, kThen_R, kThen_T, kNext_N, kNext_C, kNext_B, kNext_R, wpE_K, wpE_KL, xE_I, xE_R, wpE_J, xE_bin, wpE_ladd, wpE_i2l, xE_get, xE_ald0, xE_ald1, wpE_if, xE_max, xE_min, wpE_len, wpA_nil, wpA_snoc, xE_call, xE_callS, xC_C, xC_L, xC_Z, wpC_and, wpC_or, wpC_not, wpC_if, kcmp_0, kcmp_1, kcmp_2, kcmp_3, kcmp_4, kcmp_5, rR_inj, kgO_some, kgO_add, kgO_sub, kgO_mul, kgO_div, kgO_rem, kgO_and, kvI_inl, kvJ_inl, kgI_0, kgI_s, kgR_0, kgR_s, kst_nil, kst_0, kst_s, kNLl_nil, kNLl_i, kNLl_r, kNLl_n, ktag_i, ktag_r, List.length_cons, List.length_nil, List.take_succ_cons, List.take_zero, List.take_nil, List.nil_append, List.cons_append, decide_eq_true_eq, Bool.not_eq_true, Bool.not_eq_true', decide_eq_false_iff_not, ne_eq, Decidable.not_not, true_and, and_true, Nat.reduceAdd, Nat.reduceLeDiff, Nat.reduceEqDiff, Nat.le_refl, not_true_eq_false, not_false_eq_true, reduceIte, eq_self, Int.reduceNeg, Int.reduceEq, Int.reduceLT, Int.reduceLE, Nat.zero_le, Nat.one_ne_zero, ev_fin, ev_fin_arr, Int.toNat_natCast, t1, e20]
        omega
      · rintro k P s1 h0 h1 ⟨t, q, dp, by', rfl, hlt, hqv, B, ⟨S1, S2, S3⟩, hdone⟩
        obtain ⟨x, hx⟩ : ∃ x, x = Fi k := ⟨_, rfl⟩
        have hkc : k < c := by omega
        have hxt : th c li x := by rw [hx]; exact (w11.2.2.2.1 k hkc).1
        have hxk : sn x = v := by rw [hx]; exact (fan_at w11 hkc hqn).mpr ⟨h0, h1⟩
        obtain ⟨x1, x2, x3, x4⟩ := th_lt hG hxt
        have e19 : s1 21 k = x := by rw [S1 _ _ (by decide) (by decide), w10.2.2.1 k hkc, hx]
        rw [wpS_trunc]
        refine wpS_seq' (fun Q113 hQ113 => ?_)
        simp only [wpS_skip, wpS_break, wpS_cont, wpS_retV, wpS_throw, wpS_seq, wpS_if, wpS_trunc, yS_let, yS_inc, kgK_i, kgK_r, kok_nil, kok_i0, kok_is, kok_r0, kok_rs, kok_n0, kok_ns, xS_put, xS_putOp, xS_ast0, xS_ast1, xS_astOp, wpS_E, wpS_call, wpS_callS, wpS_ret, kThen_N, kThen_B, kThen_C, kThen_R, kThen_T, kNext_N, kNext_C, kNext_B, kNext_R, wpE_K, wpE_KL, xE_I, xE_R, wpE_J, xE_bin, wpE_ladd, wpE_i2l, xE_get, xE_ald0, xE_ald1, wpE_if, xE_max, xE_min, wpE_len, wpA_nil, wpA_snoc, xE_call, xE_callS, xC_C, xC_L, xC_Z, wpC_and, wpC_or, wpC_not, wpC_if, kcmp_0, kcmp_1, kcmp_2, kcmp_3, kcmp_4, kcmp_5, rR_inj, kgO_some, kgO_add, kgO_sub, kgO_mul, kgO_div, kgO_rem, kgO_and, kvI_inl, kvJ_inl, kgI_0, kgI_s, kgR_0, kgR_s, kst_nil, kst_0, kst_s, kNLl_nil, kNLl_i, kNLl_r, kNLl_n, ktag_i, ktag_r, List.length_cons, List.length_nil, List.take_succ_cons, List.take_zero, List.take_nil, List.nil_append, List.cons_append, decide_eq_true_eq, Bool.not_eq_true, Bool.not_eq_true', decide_eq_false_iff_not, ne_eq, Decidable.not_not, true_and, and_true, Nat.reduceAdd, Nat.reduceLeDiff, Nat.reduceEqDiff, Nat.le_refl, not_true_eq_false, not_false_eq_true, reduceIte, eq_self, Int.reduceNeg, Int.reduceEq, Int.reduceLT, Int.reduceLE, Nat.zero_le, Nat.one_ne_zero, ev_fin, ev_fin_arr, Int.toNat_natCast, e19]
        repeat refine And.intro (by omega) ?_
        rw [hQ113]
        clear hQ113 Q113
        refine kThen_N.mpr ?_
        obtain ⟨u, hu⟩ : ∃ u, u = fs x := ⟨_, rfl⟩
        have hun : u < n := by omega
        have e16 : s1 15 x = u := by rw [S1 _ _ (by decide) (by decide), hu]; first | exact w4 x | exact w5 x
        refine wpS_seq' (fun Q114 hQ114 => ?_)
        simp only [wpS_skip, wpS_break, wpS_cont, wpS_retV, wpS_throw, wpS_seq, wpS_if, wpS_trunc, yS_let, yS_inc, kgK_i, kgK_r, kok_nil, kok_i0, kok_is, kok_r0, kok_rs, kok_n0, kok_ns, xS_put, xS_putOp, xS_ast0, xS_ast1, xS_astOp, wpS_E, wpS_call, wpS_callS, wpS_ret, kThen_N, kThen_B, kThen_C, kThen_R, kThen_T, kNext_N, kNext_C, kNext_B, kNext_R, wpE_K, wpE_KL, xE_I, xE_R, wpE_J, xE_bin, wpE_ladd, wpE_i2l, xE_get, xE_ald0, xE_ald1, wpE_if, xE_max, xE_min, wpE_len, wpA_nil, wpA_snoc, xE_call, xE_callS, xC_C, xC_L, xC_Z, wpC_and, wpC_or, wpC_not, wpC_if, kcmp_0, kcmp_1, kcmp_2, kcmp_3, kcmp_4, kcmp_5, rR_inj, kgO_some, kgO_add, kgO_sub, kgO_mul, kgO_div, kgO_rem, kgO_and, kvI_inl, kvJ_inl, kgI_0, kgI_s, kgR_0, kgR_s, kst_nil, kst_0, kst_s, kNLl_nil, kNLl_i, kNLl_r, kNLl_n, ktag_i, ktag_r, List.length_cons, List.length_nil, List.take_succ_cons, List.take_zero, List.take_nil, List.nil_append, List.cons_append, decide_eq_true_eq, Bool.not_eq_true, Bool.not_eq_true', decide_eq_false_iff_not, ne_eq, Decidable.not_not, true_and, and_true, Nat.reduceAdd, Nat.reduceLeDiff, Nat.reduceEqDiff, Nat.le_refl, not_true_eq_false, not_false_eq_true, reduceIte, eq_self, Int.reduceNeg, Int.reduceEq, Int.reduceLT, Int.reduceLE, Nat.zero_le, Nat.one_ne_zero, ev_web_arr, Int.toNat_natCast, e16]
        repeat refine And.intro (by omega) ?_
        rw [hQ114]
        clear hQ114 Q114
        refine kThen_N.mpr ?_
        refine wpS_gen (fun Q3 hQ3 => ?_)
        have e33 : s1 33 x = lo x := by rw [S1 _ _ (by decide) (by decide)]; exact hT x
        have old : (lo x = 0 → ∃ i, i < t ∧ q i = u) → Q3 rN [some (.inr (.inl 7)), some (.inl (fr : Int)), some (.inr (.inl 3)), some (.inr (.inl 15)), some (.inr (.inl 37)), some (.inl (t : Int)), some (.inl (h : Int)), some (.inl (v : Int)), some (.inl (k : Int)), some (.inl (x : Int)), some (.inl (u : Int))] s1 := by
          intro ha
          rw [hQ3]
          refine kStep_N rfl ⟨t, q, dp, by', rfl, hlt, hqv, B, ⟨S1, S2, S3⟩, fun j j0 hj hA => ?_⟩
          by_cases e : j = k
          · subst e; rw [← hx] at hA ⊢; rw [← hu]; exact ha hA
          · exact hdone j j0 (by omega) hA
        simp only [wpS_skip, wpS_break, wpS_cont, wpS_retV, wpS_throw, wpS_seq, wpS_if, wpS_trunc, yS_let, yS_inc, kgK_i, kgK_r, kok_nil, kok_i0, kok_is, kok_r0, kok_rs, kok_n0, kok_ns, xS_put, xS_putOp, xS_ast0, xS_ast1, xS_astOp, wpS_E, wpS_call, wpS_callS, wpS_ret, kThen_N, kThen_B, kThen_C, kThen_R, kThen_T, kNext_N, kNext_C, kNext_B, kNext_R, wpE_K, wpE_KL, xE_I, xE_R, wpE_J, xE_bin, wpE_ladd, wpE_i2l, xE_get, xE_ald0, xE_ald1, wpE_if, xE_max, xE_min, wpE_len, wpA_nil, wpA_snoc, xE_call, xE_callS, xC_C, xC_L, xC_Z, wpC_and, wpC_or, wpC_not, wpC_if, kcmp_0, kcmp_1, kcmp_2, kcmp_3, kcmp_4, kcmp_5, rR_inj, kgO_some, kgO_add, kgO_sub, kgO_mul, kgO_div, kgO_rem, kgO_and, kvI_inl, kvJ_inl, kgI_0, kgI_s, kgR_0, kgR_s, kst_nil, kst_0, kst_s, kNLl_nil, kNLl_i, kNLl_r, kNLl_n, ktag_i, ktag_r, List.length_cons, List.length_nil, List.take_succ_cons, List.take_zero, List.take_nil, List.nil_append, List.cons_append, decide_eq_true_eq, Bool.not_eq_true, Bool.not_eq_true', decide_eq_false_iff_not, ne_eq, Decidable.not_not, true_and, and_true, Nat.reduceAdd, Nat.reduceLeDiff, Nat.reduceEqDiff, Nat.le_refl, not_true_eq_false, not_false_eq_true, reduceIte, eq_self, Int.reduceNeg, Int.reduceEq, Int.reduceLT, Int.reduceLE, Nat.zero_le, Nat.one_ne_zero, ev_row, ev_row_arr, Int.toNat_natCast, e33]
        refine ⟨by omega, ?_⟩
        by_cases a1 : lo x = 0
        · simp only [a1, decide_true, decide_false, Bool.false_eq_true, if_true, if_false, true_and, and_true, not_true_eq_false, not_false_eq_true]
          refine ⟨by omega, ?_⟩
          by_cases a3 : s1 37 u = -1
          · simp only [a3, decide_true, decide_false, Bool.false_eq_true, if_true, if_false, true_and, and_true, not_true_eq_false, not_false_eq_true]
            have hnew : ∀ i, i < t → q i ≠ u := fun i hi e => by have := (S3 u).1 ⟨i, hi, e⟩; omega
            have htn := bf_lt B hun hnew
            have hmem : x ∈ al (q h) := by rw [hal, hqv]; exact (fAl_mem hG).mpr ⟨hxt, a1, hxk⟩
            have B' := bf_add B hlt hmem hu.symm hun hnew
            have e36 : s1 37 v = dp v := (S3 v).1 ⟨h, hlt, hqv⟩
            have hdv : dp v ≤ h := by rw [← hqv]; exact B.2.2.2.2.2.2.2.2.2.2.2 h hlt
            rw [e36]
            repeat refine And.intro (by omega) ?_
            rw [hQ3]
            refine kStep_N rfl ⟨t + 1, _, _, _, rfl, by omega, ?_, B', ⟨?_, ?_, ?_⟩, ?_⟩
            · rw [if_neg (by omega)]; exact hqv
            · intro o k q1 q2; rw [kup_ne q2, kup_ne q1]; exact S1 o k q1 q2
            · intro i hi
              rw [kup_eq]
              dsimp only
              by_cases e : i = t
              · rw [if_pos e, if_pos e]
              · rw [if_neg e, if_neg e, kup_ne (by decide)]; exact S2 i (by omega)
            · intro w
              rw [kup_ne (by decide), kup_eq]
              by_cases e : w = u
              · rw [if_pos e]
                refine ⟨fun _ => ?_, fun _ hn => absurd ⟨t, by omega, by simp [e]⟩ hn⟩
                dsimp only; rw [if_pos e, hqv]; rfl
              · rw [if_neg e]
                dsimp only
                rw [if_neg e]
                refine ⟨fun ⟨i, i1, i2⟩ => (S3 w).1 ?_, fun w3 hn => (S3 w).2 w3 (fun ⟨i, i1, i2⟩ => hn ⟨i, by omega, by rw [if_neg (by omega)]; exact i2⟩)⟩
                by_cases e2 : i = t
                · rw [if_pos e2] at i2; exact absurd i2.symm e
                · rw [if_neg e2] at i2; exact ⟨i, by omega, i2⟩
            · intro j j0 hj hA
              by_cases e : j = k
              · subst e; rw [← hx, ← hu]; exact ⟨t, by omega, by simp⟩
              · obtain ⟨i, i1, i2⟩ := hdone j j0 (by omega) hA
                exact ⟨i, by omega, by rw [if_neg (by omega)]; exact i2⟩
          · simp only [a3, decide_true, decide_false, Bool.false_eq_true, if_true, if_false, true_and, and_true, not_true_eq_false, not_false_eq_true]
            refine old (fun _ => Classical.byContradiction fun hn => ?_)
            exact a3 ((S3 u).2 (by omega) hn)
        · simp only [a1, decide_true, decide_false, Bool.false_eq_true, if_true, if_false, true_and, and_true, not_true_eq_false, not_false_eq_true]
          exact old (fun q => absurd q a1)
      · rintro P s1 ⟨t, q, dp, by', rfl, hlt, hqv, B, hS, hdone⟩
        rw [hQ9]
        refine kStep_N rfl ⟨t, q, dp, by', rfl, bf_next B hlt (fun e he => ?_), hS⟩
        rw [hal, hqv] at he
        obtain ⟨h1, h2, h3⟩ := (fAl_mem hG).mp he
        obtain ⟨k, k1, rfl⟩ := h1
        obtain ⟨i, i1, i2⟩ := w11.2.2.2.2.2 k k1
        have := (fan_at w11 i1 hqn).mp (by rw [i2]; exact h3)
        rw [← i2] at h2 ⊢
        exact hdone i this.1 this.2 h2
    · have c2 : ¬ (h : Int) < (t : Int) := by omega
      have c1 : (h : Int) < 300 ∨ ¬ (h : Int) < 300 := Classical.em _
      have e : h = t := by omega
      have fin : Q1 rN [some (.inr (.inl 7)), some (.inl (fr : Int)), some (.inr (.inl 3)), some (.inr (.inl 15)), some (.inr (.inl 37)), some (.inl (t : Int))] s := by
        subst e
        rw [hQ1]
        rw [hQ0]
        refine kThen_N.mpr (wpS_retV.mpr ⟨none, rfl, rfl, ?_⟩)
        obtain ⟨b1, b2⟩ := bf_end B
        refine ⟨rfl, S1, fun v d hd => ?_, fun v hv hr => (S3 v).2 hv (fun q => hr ((b1 v).mpr q)), fun v hv => ?_⟩
        · rw [(S3 v).1 ((b1 v).mp hd.rch), (b2 v hd.rch).uniq hd]
        · obtain ⟨i, i1, rfl⟩ := (b1 v).mp hv
          exact B.2.2.2.2.1 i i1
      rcases c1 with c1 | c1 <;> (refine wpC_gen (fun Q2 hQ2 => ?_); simp only [wpS_skip, wpS_break, wpS_cont, wpS_retV, wpS_throw, wpS_seq, wpS_if, wpS_trunc, yS_let, yS_inc, kgK_i, kgK_r, kok_nil, kok_i0, kok_is, kok_r0, kok_rs, kok_n0, kok_ns, xS_put, xS_putOp, xS_ast0, xS_ast1, xS_astOp, wpS_E, wpS_call, wpS_callS, wpS_ret, kThen_N, kThen_B, kThen_C, kThen_R, kThen_T, kNext_N, kNext_C, kNext_B, kNext_R, wpE_K, wpE_KL, xE_I, xE_R, wpE_J, xE_bin, wpE_ladd, wpE_i2l, xE_get, xE_ald0, xE_ald1, wpE_if, xE_max, xE_min, wpE_len, wpA_nil, wpA_snoc, xE_call, xE_callS, xC_C, xC_L, xC_Z, wpC_and, wpC_or, wpC_not, wpC_if, kcmp_0, kcmp_1, kcmp_2, kcmp_3, kcmp_4, kcmp_5, rR_inj, kgO_some, kgO_add, kgO_sub, kgO_mul, kgO_div, kgO_rem, kgO_and, kvI_inl, kvJ_inl, kgI_0, kgI_s, kgR_0, kgR_s, kst_nil, kst_0, kst_s, kNLl_nil, kNLl_i, kNLl_r, kNLl_n, ktag_i, ktag_r, List.length_cons, List.length_nil, List.take_succ_cons, List.take_zero, List.take_nil, List.nil_append, List.cons_append, decide_eq_true_eq, Bool.not_eq_true, Bool.not_eq_true', decide_eq_false_iff_not, ne_eq, Decidable.not_not, true_and, and_true, Nat.reduceAdd, Nat.reduceLeDiff, Nat.reduceEqDiff, Nat.le_refl, not_true_eq_false, not_false_eq_true, reduceIte, eq_self, Int.reduceNeg, Int.reduceEq, Int.reduceLT, Int.reduceLE, Nat.zero_le, Nat.one_ne_zero, c1, c2, decide_true, decide_false, Bool.false_eq_true, if_true, if_false, true_and, and_true, not_true_eq_false, not_false_eq_true]; rw [hQ2]; exact ⟨rfl, Or.inr ⟨rfl, fin⟩⟩)
