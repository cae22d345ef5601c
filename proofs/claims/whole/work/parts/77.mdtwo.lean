/-! THE REFERENCE'S two -/
section MT
variable {σ : kS} {n c ar : Nat} {li fs sn lv : Nat → Nat} {tr lo : Nat → Int} {rt dp : Nat → Nat} {pa up : Nat → Int}
/-- the i arcs noted lead along the way to b: without any other arc w and b stay joined -/
def wayI (s : kS) (c : Nat) (li fs sn : Nat → Nat) (b i w : Nat) : Prop :=
  (∀ t, t < i → ∃ x : Nat, s 104 t = (x : Int) ∧ th c li x) ∧ ∀ x, (∀ t, t < i → s 104 t ≠ (x : Int)) → rch (uE (fun y => th c li y ∧ y ≠ x) fs sn) w b
theorem mdTwo_ok {a b : Int} (hG : gOk n c ar li fs sn) (hM : RM σ n c ar li fs sn lv tr lo) :
    wpF F_Md_two [.inr (.inl 14), .inl a, .inl b] σ (fun r s => (¬ (0 ≤ a ∧ a < (n : Int) ∧ 0 ≤ b ∧ b < (n : Int)) → sK (kup σ 14 22 1) s ∧ r = some (.inl 0)) ∧ (0 ≤ a ∧ a < (n : Int) ∧ 0 ≤ b ∧ b < (n : Int) → sK (kup σ 14 22 0) s ∧ ((twice c li fs sn a.toNat b.toNat ∧ r = some (.inl 1)) ∨ (¬ twice c li fs sn a.toNat b.toNat ∧ r = some (.inl 0))))) := by
  have hn3 := hG.1
  unfold F_Md_two
  rw [wpF_kF]
  refine ⟨rfl, rfl, ?_⟩
  unfold s_Md_two
  simp only [List.map_cons, List.map_nil]
  refine wpS_seq' (fun Q101 hQ101 => ?_)
  simp only [wpS_skip, wpS_break, wpS_cont, wpS_retV, wpS_throw, wpS_seq, wpS_if, wpS_trunc, yS_let, yS_inc, kgK_i, kgK_r, kok_nil, kok_i0, kok_is, kok_r0, kok_rs, kok_n0, kok_ns, xS_put, xS_putOp, xS_ast0, xS_ast1, xS_astOp, wpS_E, wpS_call, wpS_callS, wpS_ret, kThen_N, kThen_B, kThen_C, kThen_R, kThen_T, kNext_N, kNext_C, kNext_B, kNext_R, wpE_K, wpE_KL, xE_I, xE_R, wpE_J, xE_bin, wpE_ladd, wpE_i2l, xE_get, xE_ald0, xE_ald1, wpE_if, xE_max, xE_min, wpE_len, wpA_nil, wpA_snoc, xE_call, xE_callS, xC_C, xC_L, xC_Z, wpC_and, wpC_or, wpC_not, wpC_if, kcmp_0, kcmp_1, kcmp_2, kcmp_3, kcmp_4, kcmp_5, rR_inj, kgO_some, kgO_add, kgO_sub, kgO_mul, kgO_div, kgO_rem, kgO_and, kvI_inl, kvJ_inl, kgI_0, kgI_s, kgR_0, kgR_s, kst_nil, kst_0, kst_s, kNLl_nil, kNLl_i, kNLl_r, kNLl_n, ktag_i, ktag_r, List.length_cons, List.length_nil, List.take_succ_cons, List.take_zero, List.take_nil, List.nil_append, List.cons_append, decide_eq_true_eq, Bool.not_eq_true, Bool.not_eq_true', decide_eq_false_iff_not, ne_eq, Decidable.not_not, true_and, and_true, Nat.reduceAdd, Nat.reduceLeDiff, Nat.reduceEqDiff, Nat.le_refl, not_true_eq_false, not_false_eq_true, reduceIte, eq_self, Int.reduceNeg, Int.reduceEq, Int.reduceLT, Int.reduceLE, Nat.zero_le, Nat.one_ne_zero, ev_model]
  repeat refine And.intro (by omega) ?_
  rw [hQ101]
  clear hQ101 Q101
  refine kThen_N.mpr ?_
  obtain ⟨σ0, hσ⟩ : ∃ s, s = kup σ 14 22 0 := ⟨_, rfl⟩
  rw [← hσ]
  have M0 : RM σ0 n c ar li fs sn lv tr lo := by rw [hσ]; exact hM.thrown
  have w1 := M0.1
  have bad : ∀ Q : kV → kS → Prop, Q (.inl 0) (kup σ 14 22 1) → wpF F_Md_fail [Sum.inr (Sum.inl 14), Sum.inl 1] σ0 fun r σ2 => kgO r fun v_2 => Q v_2 σ2 := by
    intro Q h
    refine mdFail_ok.mono ?_
    rintro r s ⟨rfl, hs⟩
    rw [hs, kgO_some, hσ, kup_kup]
    exact h
  refine wpS_seq' (fun Q102 hQ102 => ?_)
  simp only [wpS_skip, wpS_break, wpS_cont, wpS_retV, wpS_throw, wpS_seq, wpS_if, wpS_trunc, yS_let, yS_inc, kgK_i, kgK_r, kok_nil, kok_i0, kok_is, kok_r0, kok_rs, kok_n0, kok_ns, xS_put, xS_putOp, xS_ast0, xS_ast1, xS_astOp, wpS_E, wpS_call, wpS_callS, wpS_ret, kThen_N, kThen_B, kThen_C, kThen_R, kThen_T, kNext_N, kNext_C, kNext_B, kNext_R, wpE_K, wpE_KL, xE_I, xE_R, wpE_J, xE_bin, wpE_ladd, wpE_i2l, xE_get, xE_ald0, xE_ald1, wpE_if, xE_max, xE_min, wpE_len, wpA_nil, wpA_snoc, xE_call, xE_callS, xC_C, xC_L, xC_Z, wpC_and, wpC_or, wpC_not, wpC_if, kcmp_0, kcmp_1, kcmp_2, kcmp_3, kcmp_4, kcmp_5, rR_inj, kgO_some, kgO_add, kgO_sub, kgO_mul, kgO_div, kgO_rem, kgO_and, kvI_inl, kvJ_inl, kgI_0, kgI_s, kgR_0, kgR_s, kst_nil, kst_0, kst_s, kNLl_nil, kNLl_i, kNLl_r, kNLl_n, ktag_i, ktag_r, List.length_cons, List.length_nil, List.take_succ_cons, List.take_zero, List.take_nil, List.nil_append, List.cons_append, decide_eq_true_eq, Bool.not_eq_true, Bool.not_eq_true', decide_eq_false_iff_not, ne_eq, Decidable.not_not, true_and, and_true, Nat.reduceAdd, Nat.reduceLeDiff, Nat.reduceEqDiff, Nat.le_refl, not_true_eq_false, not_false_eq_true, reduceIte, eq_self, Int.reduceNeg, Int.reduceEq, Int.reduceLT, Int.reduceLE, Nat.zero_le, Nat.one_ne_zero, ev_model]
  refine mdIsNode_ok.mono ?_
  rintro r s ⟨hs, hr⟩
  subst s
  trace_state
  sorry
end MT
