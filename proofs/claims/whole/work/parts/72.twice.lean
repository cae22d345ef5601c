/-! TWICE -/
section TW
variable {σ : kS} {n c ar : Nat} {li fs sn lv : Nat → Nat} {tr : Nat → Int} {rt dp : Nat → Nat} {pa up : Nat → Int} {C : Nat → Prop}
/-- the row top leads along covered nodes, and from each covered one -/
def Tp (s : kS) (n : Nat) (dp : Nat → Nat) (pa : Nat → Int) (C : Nat → Prop) : Prop :=
  ∀ v, v < n → ∃ d, d ≤ dp v ∧ s 32 v = (clb pa d v : Int) ∧ (∀ k, k < d → C (clb pa k v)) ∧ (d = 0 → ¬ C v)
/-- u is the first node above v (v with it) that is not covered -/
def topIs (dp : Nat → Nat) (pa : Nat → Int) (C : Nat → Prop) (v u : Nat) : Prop := ∃ k, k ≤ dp v ∧ u = clb pa k v ∧ (∀ j, j < k → C (clb pa j v)) ∧ ¬ C u
theorem topIs.uniq {v u w : Nat} (h1 : topIs dp pa C v u) (h2 : topIs dp pa C v w) : u = w := by
  obtain ⟨k, k1, rfl, k3, k4⟩ := h1
  obtain ⟨j, j1, rfl, j3, j4⟩ := h2
  rcases Nat.lt_trichotomy k j with z | z | z
  · exact absurd (j3 k z) k4
  · rw [z]
  · exact absurd (k3 j z) j4
theorem topOf_ok {A : Nat → Prop} {v : Nat} (hL : LF n A fs sn rt dp pa up) (hn : n ≤ 300) (hT : Tp σ n dp pa C) (hv : v < n) :
    wpF F_Twice_topOf [.inr (.inl 6), .inl (v : Int)] σ (fun r s => (∀ o, o ≠ 32 → s o = σ o) ∧ Tp s n dp pa C ∧ ∃ u : Nat, r = some (.inl (u : Int)) ∧ topIs dp pa C v u) := by
  have hdv := hL.dp_lt hv
  unfold F_Twice_topOf
  rw [wpF_kF]
  refine ⟨rfl, rfl, ?_⟩
  unfold s_Twice_topOf
  simp only [List.map_cons, List.map_nil]
  refine wpS_seq' (fun Q101 hQ101 => ?_)
  simp only [wpS_skip, wpS_break, wpS_cont, wpS_retV, wpS_throw, wpS_seq, wpS_if, wpS_trunc, yS_let, yS_inc, kgK_i, kgK_r, kok_nil, kok_i0, kok_is, kok_r0, kok_rs, kok_n0, kok_ns, xS_put, xS_putOp, xS_ast0, xS_ast1, xS_astOp, wpS_E, wpS_call, wpS_callS, wpS_ret, kThen_N, kThen_B, kThen_C, kThen_R, kThen_T, kNext_N, kNext_C, kNext_B, kNext_R, wpE_K, wpE_KL, xE_I, xE_R, wpE_J, xE_bin, wpE_ladd, wpE_i2l, xE_get, xE_ald0, xE_ald1, wpE_if, xE_max, xE_min, wpE_len, wpA_nil, wpA_snoc, xE_call, xE_callS, xC_C, xC_L, xC_Z, wpC_and, wpC_or, wpC_not, wpC_if, kcmp_0, kcmp_1, kcmp_2, kcmp_3, kcmp_4, kcmp_5, rR_inj, kgO_some, kgO_add, kgO_sub, kgO_mul, kgO_div, kgO_rem, kgO_and, kvI_inl, kvJ_inl, kgI_0, kgI_s, kgR_0, kgR_s, kst_nil, kst_0, kst_s, kNLl_nil, kNLl_i, kNLl_r, kNLl_n, ktag_i, ktag_r, List.length_cons, List.length_nil, List.take_succ_cons, List.take_zero, List.take_nil, List.nil_append, List.cons_append, decide_eq_true_eq, Bool.not_eq_true, Bool.not_eq_true', decide_eq_false_iff_not, ne_eq, Decidable.not_not, true_and, and_true, Nat.reduceAdd, Nat.reduceLeDiff, Nat.reduceEqDiff, Nat.le_refl, not_true_eq_false, not_false_eq_true, reduceIte, eq_self, Int.reduceNeg, Int.reduceEq, Int.reduceLT, Int.reduceLE, Nat.zero_le, Nat.one_ne_zero]
  repeat refine And.intro (by omega) ?_
  rw [hQ101]
  clear hQ101 Q101
  refine kThen_N.mpr ?_
  refine wpS_seq' (fun Q1 hQ1 => ?_)
  unfold l_Twice_topOf_1
  refine wpS_fortG (fun i P s => ∃ k, i ≤ k ∧ k ≤ dp v ∧ P = [some (.inr (.inl 6)), some (.inl (v : Int)), some (.inl (clb pa k v : Int))] ∧ (∀ o, o ≠ 32 → s o = σ o) ∧ Tp s n dp pa C ∧ ∀ j, j < k → C (clb pa j v)) (fun i => (i : Int)) (dp v) rfl rfl ?_ ?_ ?_ ?_
  · simp only [wpS_skip, wpS_break, wpS_cont, wpS_retV, wpS_throw, wpS_seq, wpS_if, wpS_trunc, yS_let, yS_inc, kgK_i, kgK_r, kok_nil, kok_i0, kok_is, kok_r0, kok_rs, kok_n0, kok_ns, xS_put, xS_putOp, xS_ast0, xS_ast1, xS_astOp, wpS_E, wpS_call, wpS_callS, wpS_ret, kThen_N, kThen_B, kThen_C, kThen_R, kThen_T, kNext_N, kNext_C, kNext_B, kNext_R, wpE_K, wpE_KL, xE_I, xE_R, wpE_J, xE_bin, wpE_ladd, wpE_i2l, xE_get, xE_ald0, xE_ald1, wpE_if, xE_max, xE_min, wpE_len, wpA_nil, wpA_snoc, xE_call, xE_callS, xC_C, xC_L, xC_Z, wpC_and, wpC_or, wpC_not, wpC_if, kcmp_0, kcmp_1, kcmp_2, kcmp_3, kcmp_4, kcmp_5, rR_inj, kgO_some, kgO_add, kgO_sub, kgO_mul, kgO_div, kgO_rem, kgO_and, kvI_inl, kvJ_inl, kgI_0, kgI_s, kgR_0, kgR_s, kst_nil, kst_0, kst_s, kNLl_nil, kNLl_i, kNLl_r, kNLl_n, ktag_i, ktag_r, List.length_cons, List.length_nil, List.take_succ_cons, List.take_zero, List.take_nil, List.nil_append, List.cons_append, decide_eq_true_eq, Bool.not_eq_true, Bool.not_eq_true', decide_eq_false_iff_not, ne_eq, Decidable.not_not, true_and, and_true, Nat.reduceAdd, Nat.reduceLeDiff, Nat.reduceEqDiff, Nat.le_refl, not_true_eq_false, not_false_eq_true, reduceIte, eq_self, Int.reduceNeg, Int.reduceEq, Int.reduceLT, Int.reduceLE, Nat.zero_le, Nat.one_ne_zero]; trivial
  · exact ⟨0, Nat.le_refl _, Nat.zero_le _, rfl, fun _ _ => rfl, hT, fun j hj => by omega⟩
  · rintro i P s ⟨k, -, -, rfl, -⟩; exact ⟨rfl, rfl⟩
  · rintro i P s hi ⟨k, k1, k2, rfl, k3, k4, k5⟩
    obtain ⟨w, hw⟩ : ∃ w, w = clb pa k v := ⟨_, rfl⟩
    have hcl := hL.climb hv k2
    rw [← hw] at hcl ⊢
    obtain ⟨hwn, hwd, -⟩ := hcl
    obtain ⟨d, d1, d2, d3, d4⟩ := k4 w hwn
    have hi3 : (i : Int) < 300 := by omega
    refine wpC_gen (fun Q2 hQ2 => ?_)
    simp only [wpS_skip, wpS_break, wpS_cont, wpS_retV, wpS_throw, wpS_seq, wpS_if, wpS_trunc, yS_let, yS_inc, kgK_i, kgK_r, kok_nil, kok_i0, kok_is, kok_r0, kok_rs, kok_n0, kok_ns, xS_put, xS_putOp, xS_ast0, xS_ast1, xS_astOp, wpS_E, wpS_call, wpS_callS, wpS_ret, kThen_N, kThen_B, kThen_C, kThen_R, kThen_T, kNext_N, kNext_C, kNext_B, kNext_R, wpE_K, wpE_KL, xE_I, xE_R, wpE_J, xE_bin, wpE_ladd, wpE_i2l, xE_get, xE_ald0, xE_ald1, wpE_if, xE_max, xE_min, wpE_len, wpA_nil, wpA_snoc, xE_call, xE_callS, xC_C, xC_L, xC_Z, wpC_and, wpC_or, wpC_not, wpC_if, kcmp_0, kcmp_1, kcmp_2, kcmp_3, kcmp_4, kcmp_5, rR_inj, kgO_some, kgO_add, kgO_sub, kgO_mul, kgO_div, kgO_rem, kgO_and, kvI_inl, kvJ_inl, kgI_0, kgI_s, kgR_0, kgR_s, kst_nil, kst_0, kst_s, kNLl_nil, kNLl_i, kNLl_r, kNLl_n, ktag_i, ktag_r, List.length_cons, List.length_nil, List.take_succ_cons, List.take_zero, List.take_nil, List.nil_append, List.cons_append, decide_eq_true_eq, Bool.not_eq_true, Bool.not_eq_true', decide_eq_false_iff_not, ne_eq, Decidable.not_not, true_and, and_true, Nat.reduceAdd, Nat.reduceLeDiff, Nat.reduceEqDiff, Nat.le_refl, not_true_eq_false, not_false_eq_true, reduceIte, eq_self, Int.reduceNeg, Int.reduceEq, Int.reduceLT, Int.reduceLE, Nat.zero_le, Nat.one_ne_zero, ev_twice, ev_twice_arr, Int.toNat_natCast, hi3, decide_true, decide_false, Bool.false_eq_true, if_true, if_false, true_and, and_true, not_true_eq_false, not_false_eq_true]
    refine ⟨by omega, ?_⟩
    rw [hQ2]
    by_cases e : d = 0
    · subst e
      have e2 : s 32 w = (w : Int) := d2
      have : (decide (s 32 w = (w : Int))) = true := decide_eq_true e2
      refine ⟨rfl, Or.inr ⟨by simp [e2], ?_⟩⟩
      rw [hQ1]
      refine kThen_N.mpr ?_
      refine wpS_gen (fun Q102 hQ102 => ?_)
      simp only [wpS_skip, wpS_break, wpS_cont, wpS_retV, wpS_throw, wpS_seq, wpS_if, wpS_trunc, yS_let, yS_inc, kgK_i, kgK_r, kok_nil, kok_i0, kok_is, kok_r0, kok_rs, kok_n0, kok_ns, xS_put, xS_putOp, xS_ast0, xS_ast1, xS_astOp, wpS_E, wpS_call, wpS_callS, wpS_ret, kThen_N, kThen_B, kThen_C, kThen_R, kThen_T, kNext_N, kNext_C, kNext_B, kNext_R, wpE_K, wpE_KL, xE_I, xE_R, wpE_J, xE_bin, wpE_ladd, wpE_i2l, xE_get, xE_ald0, xE_ald1, wpE_if, xE_max, xE_min, wpE_len, wpA_nil, wpA_snoc, xE_call, xE_callS, xC_C, xC_L, xC_Z, wpC_and, wpC_or, wpC_not, wpC_if, kcmp_0, kcmp_1, kcmp_2, kcmp_3, kcmp_4, kcmp_5, rR_inj, kgO_some, kgO_add, kgO_sub, kgO_mul, kgO_div, kgO_rem, kgO_and, kvI_inl, kvJ_inl, kgI_0, kgI_s, kgR_0, kgR_s, kst_nil, kst_0, kst_s, kNLl_nil, kNLl_i, kNLl_r, kNLl_n, ktag_i, ktag_r, List.length_cons, List.length_nil, List.take_succ_cons, List.take_zero, List.take_nil, List.nil_append, List.cons_append, decide_eq_true_eq, Bool.not_eq_true, Bool.not_eq_true', decide_eq_false_iff_not, ne_eq, Decidable.not_not, true_and, and_true, Nat.reduceAdd, Nat.reduceLeDiff, Nat.reduceEqDiff, Nat.le_refl, not_true_eq_false, not_false_eq_true, reduceIte, eq_self, Int.reduceNeg, Int.reduceEq, Int.reduceLT, Int.reduceLE, Nat.zero_le, Nat.one_ne_zero]
      repeat refine And.intro (by omega) ?_
      rw [hQ102]
      clear hQ102 Q102
      exact ⟨_, rfl, rfl, k3, k4, w, rfl, k, k2, hw, k5, d4 rfl⟩
    · have hx := hL.climb hwn d1
      have hne : ¬ s 32 w = (w : Int) := by
        intro q
        have q2 : clb pa d w = w := by omega
        rw [q2] at hx; omega
      refine ⟨rfl, Or.inl ⟨by simp [hne], by omega, by omega, by omega, by omega, ?_⟩⟩
      obtain ⟨y, hy⟩ : ∃ y, y = clb pa d w := ⟨_, rfl⟩
      rw [← hy] at hx d2
      obtain ⟨d', e1, e2, e3, e4⟩ := k4 y hx.1
      have e2' : s 32 y = (clb pa d' y : Int) := e2
      have hz := hL.climb hx.1 e1
      obtain ⟨z, hzz⟩ : ∃ z, z = clb pa d' y := ⟨_, rfl⟩
      rw [← hzz] at hz e2
      have hadd : clb pa (d + d') w = z := by rw [clb_add, ← hy, ← hzz]
      have hC : ∀ j, j < d + d' → C (clb pa j w) := by
        intro j hj
        by_cases q : j < d
        · exact d3 j q
        · have : clb pa j w = clb pa (j - d) y := by rw [hy, ← clb_add]; congr 1; omega
          rw [this]; exact e3 _ (by omega)
      refine wpS_seq' (fun Q103 hQ103 => ?_)
      simp only [wpS_skip, wpS_break, wpS_cont, wpS_retV, wpS_throw, wpS_seq, wpS_if, wpS_trunc, yS_let, yS_inc, kgK_i, kgK_r, kok_nil, kok_i0, kok_is, kok_r0, kok_rs, kok_n0, kok_ns, xS_put, xS_putOp, xS_ast0, xS_ast1, xS_astOp, wpS_E, wpS_call, wpS_callS, wpS_ret, kThen_N, kThen_B, kThen_C, kThen_R, kThen_T, kNext_N, kNext_C, kNext_B, kNext_R, wpE_K, wpE_KL, xE_I, xE_R, wpE_J, xE_bin, wpE_ladd, wpE_i2l, xE_get, xE_ald0, xE_ald1, wpE_if, xE_max, xE_min, wpE_len, wpA_nil, wpA_snoc, xE_call, xE_callS, xC_C, xC_L, xC_Z, wpC_and, wpC_or, wpC_not, wpC_if, kcmp_0, kcmp_1, kcmp_2, kcmp_3, kcmp_4, kcmp_5, rR_inj, kgO_some, kgO_add, kgO_sub, kgO_mul, kgO_div, kgO_rem, kgO_and, kvI_inl, kvJ_inl, kgI_0, kgI_s, kgR_0, kgR_s, kst_nil, kst_0, kst_s, kNLl_nil, kNLl_i, kNLl_r, kNLl_n, ktag_i, ktag_r, List.length_cons, List.length_nil, List.take_succ_cons, List.take_zero, List.take_nil, List.nil_append, List.cons_append, decide_eq_true_eq, Bool.not_eq_true, Bool.not_eq_true', decide_eq_false_iff_not, ne_eq, Decidable.not_not, true_and, and_true, Nat.reduceAdd, Nat.reduceLeDiff, Nat.reduceEqDiff, Nat.le_refl, not_true_eq_false, not_false_eq_true, reduceIte, eq_self, Int.reduceNeg, Int.reduceEq, Int.reduceLT, Int.reduceLE, Nat.zero_le, Nat.one_ne_zero, ev_twice, ev_twice_arr, Int.toNat_natCast, d2, e2]
      repeat refine And.intro (by omega) ?_
      rw [hQ103]
      clear hQ103
      refine kThen_N.mpr ?_
      have e3' : kup s 32 w (z : Int) 32 w = (z : Int) := by rw [kup_eq, if_pos rfl]
      refine wpS_gen (fun Q4 hQ4 => ?_)
      simp only [wpS_skip, wpS_break, wpS_cont, wpS_retV, wpS_throw, wpS_seq, wpS_if, wpS_trunc, yS_let, yS_inc, kgK_i, kgK_r, kok_nil, kok_i0, kok_is, kok_r0, kok_rs, kok_n0, kok_ns, xS_put, xS_putOp, xS_ast0, xS_ast1, xS_astOp, wpS_E, wpS_call, wpS_callS, wpS_ret, kThen_N, kThen_B, kThen_C, kThen_R, kThen_T, kNext_N, kNext_C, kNext_B, kNext_R, wpE_K, wpE_KL, xE_I, xE_R, wpE_J, xE_bin, wpE_ladd, wpE_i2l, xE_get, xE_ald0, xE_ald1, wpE_if, xE_max, xE_min, wpE_len, wpA_nil, wpA_snoc, xE_call, xE_callS, xC_C, xC_L, xC_Z, wpC_and, wpC_or, wpC_not, wpC_if, kcmp_0, kcmp_1, kcmp_2, kcmp_3, kcmp_4, kcmp_5, rR_inj, kgO_some, kgO_add, kgO_sub, kgO_mul, kgO_div, kgO_rem, kgO_and, kvI_inl, kvJ_inl, kgI_0, kgI_s, kgR_0, kgR_s, kst_nil, kst_0, kst_s, kNLl_nil, kNLl_i, kNLl_r, kNLl_n, ktag_i, ktag_r, List.length_cons, List.length_nil, List.take_succ_cons, List.take_zero, List.take_nil, List.nil_append, List.cons_append, decide_eq_true_eq, Bool.not_eq_true, Bool.not_eq_true', decide_eq_false_iff_not, ne_eq, Decidable.not_not, true_and, and_true, Nat.reduceAdd, Nat.reduceLeDiff, Nat.reduceEqDiff, Nat.le_refl, not_true_eq_false, not_false_eq_true, reduceIte, eq_self, Int.reduceNeg, Int.reduceEq, Int.reduceLT, Int.reduceLE, Nat.zero_le, Nat.one_ne_zero, ev_twice, ev_twice_arr, Int.toNat_natCast, e3']
      refine ⟨by omega, ?_⟩
      rw [hQ4]
      have hkz : clb pa (k + (d + d')) v = z := by rw [clb_add, ← hw, hadd]
      refine kStep_N (P := [some (.inr (.inl 6)), some (.inl (v : Int)), some (.inl (z : Int))]) rfl ⟨k + (d + d'), by omega, by omega, by rw [hkz], fun o ho => by rw [kup_ne ho]; exact k3 o ho, fun t ht => ?_, fun j hj => ?_⟩
      · by_cases q : t = w
        · subst q
          exact ⟨d + d', by omega, by rw [e3', hadd], hC, fun h => by omega⟩
        · obtain ⟨b, b1, b2, b3, b4⟩ := k4 t ht
          exact ⟨b, b1, by rw [kup_eq, if_neg q]; exact b2, b3, b4⟩
      · by_cases q : j < k
        · exact k5 j q
        · have : clb pa j v = clb pa (j - k) w := by rw [hw, ← clb_add]; congr 1; omega
          rw [this]; exact hC _ (by omega)
end TW
