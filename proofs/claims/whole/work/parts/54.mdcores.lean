/-! CORES: what they are; the reference -/
def kClo (n : Nat) (N : Nat → Nat → Prop) (k : Nat) (X : Nat → Prop) : Prop := ∀ u, X u → u < n ∧ k ≤ cntP (fun w => N u w ∧ X w) n
def kcr (n : Nat) (N : Nat → Nat → Prop) (k v : Nat) : Prop := ∃ X, X v ∧ kClo n N k X
theorem kcr_clo {n k : Nat} {N : Nat → Nat → Prop} : kClo n N k (kcr n N k) := by
  rintro u ⟨X, h1, h2⟩
  obtain ⟨a, b⟩ := h2 u h1
  exact ⟨a, Nat.le_trans b (cntP_le (fun w _ q => ⟨q.1, X, q.2, h2⟩))⟩
theorem kcr_lt {n k v : Nat} {N : Nat → Nat → Prop} (h : kcr n N k v) : v < n := (kcr_clo v h).1
theorem kcr_anti {n k m v : Nat} {N : Nat → Nat → Prop} (h : kcr n N m v) (hk : k ≤ m) : kcr n N k v := ⟨kcr n N m, h, fun u hu => ⟨(kcr_clo u hu).1, by have := (kcr_clo u hu).2; omega⟩⟩
theorem kcr_zero {n v : Nat} {N : Nat → Nat → Prop} (h : v < n) : kcr n N 0 v := ⟨fun u => u < n, h, fun u hu => ⟨hu, Nat.zero_le _⟩⟩
/-- the core of a node -/
def coreIs (n : Nat) (N : Nat → Nat → Prop) (v k : Nat) : Prop := kcr n N k v ∧ ¬ kcr n N (k + 1) v
theorem coreIs.uniq {n v j k : Nat} {N : Nat → Nat → Prop} (h1 : coreIs n N v j) (h2 : coreIs n N v k) : j = k := by
  rcases Nat.lt_trichotomy j k with w | w | w
  · exact absurd (kcr_anti h2.1 w) h1.2
  · exact w
  · exact absurd (kcr_anti h1.1 w) h2.2
theorem cntP_split {P D : Nat → Prop} {n : Nat} : cntP P n = cntP (fun w => P w ∧ D w) n + cntP (fun w => P w ∧ ¬ D w) n := by
  rw [← cntP_sum (fun k _ q => q.2.2 q.1.2)]
  exact cntP_congr (fun k _ => ⟨fun q => (Classical.em (D k)).imp (fun d => ⟨q, d⟩) (fun d => ⟨q, d⟩), fun q => q.elim (fun q => q.1) (fun q => q.1)⟩)
theorem cntP_drop {P : Nat → Prop} {n b : Nat} (hb : b < n) : cntP P n = cntP (fun w => P w ∧ w ≠ b) n + @ite _ (P b) (Classical.propDecidable _) 1 0 := by
  by_cases h : P b
  · rw [if_pos h, ← cntP_insert hb (fun q : P b ∧ b ≠ b => q.2 rfl)]
    exact cntP_congr (fun k _ => ⟨fun q => by
      by_cases e : k = b
      · exact Or.inr e
      · exact Or.inl ⟨q, e⟩, fun q => q.elim (fun q => q.1) (fun e => e ▸ h)⟩)
  · rw [if_neg h]
    exact cntP_congr (fun k _ => ⟨fun q => ⟨q, fun e => h (e ▸ q)⟩, fun q => q.1⟩)
section MC
variable {σ : kS} {n c ar : Nat} {li fs sn lv : Nat → Nat} {tr lo : Nat → Int}
/-- D is done, m is the most so far -/
def coI (s : kS) (n : Nat) (N : Nat → Nat → Prop) (k m : Nat) (D : Nat → Prop) : Prop :=
  (∀ v, v < n → (s 101 v = 0 ∨ s 101 v = 1) ∧ (s 101 v = 1 ↔ D v) ∧ s 103 v = (cntP (fun w => N v w ∧ ¬ D w) n : Int)) ∧ cntP D n = k ∧ (∀ v, v < n → ¬ D v → kcr n N m v) ∧ (∀ v, D v → ¬ kcr n N (m + 1) v) ∧ (∀ v, v < n → D v → ∃ k : Nat, s 102 v = (k : Int) ∧ coreIs n N v k) ∧ m ≤ n
theorem mdCores_ok (hG : gOk n c ar li fs sn) (hM : RM σ n c ar li fs sn lv tr lo) :
    wpF F_Md_cores [.inr (.inl 14)] σ (fun r s => r = none ∧ sK σ s ∧ ∀ v, v < n → ∃ k : Nat, s 102 v = (k : Int) ∧ k ≤ 300 ∧ coreIs n (nbr (th c li) fs sn) v k) := by
  have hn3 := hG.1
  obtain ⟨N, hN⟩ : ∃ N, N = nbr (th c li) fs sn := ⟨_, rfl⟩
  have hNs : ∀ u v, N u v → N v u := by rw [hN]; exact fun u v q => q.symm
  obtain ⟨w1, -⟩ := id hM
  have hNb := mdNeighbours_ok hG hM
  rw [← hN] at hNb ⊢
  unfold F_Md_cores
  rw [wpF_kF]
  refine ⟨rfl, rfl, ?_⟩
  unfold s_Md_cores
  simp only [List.map_cons, List.map_nil]
  refine wpS_seq' (fun Q0 hQ0 => ?_)
  refine wpS_seq' (fun Q101 hQ101 => ?_)
  simp only [wpS_skip, wpS_break, wpS_cont, wpS_retV, wpS_throw, wpS_seq, wpS_if, wpS_trunc, yS_let, yS_inc, kgK_i, kgK_r, kok_nil, kok_i0, kok_is, kok_r0, kok_rs, kok_n0, kok_ns, xS_put, xS_putOp, xS_ast0, xS_ast1, xS_astOp, wpS_E, wpS_call, wpS_callS, wpS_ret, kThen_N, kThen_B, kThen_C, kThen_R, kThen_T, kNext_N, kNext_C, kNext_B, kNext_R, wpE_K, wpE_KL, xE_I, xE_R, wpE_J, xE_bin, wpE_ladd, wpE_i2l, xE_get, xE_ald0, xE_ald1, wpE_if, xE_max, xE_min, wpE_len, wpA_nil, wpA_snoc, xE_call, xE_callS, xC_C, xC_L, xC_Z, wpC_and, wpC_or, wpC_not, wpC_if, kcmp_0, kcmp_1, kcmp_2, kcmp_3, kcmp_4, kcmp_5, rR_inj, kgO_some, kgO_add, kgO_sub, kgO_mul, kgO_div, kgO_rem, kgO_and, kvI_inl, kvJ_inl, kgI_0, kgI_s, kgR_0, kgR_s, kst_nil, kst_0, kst_s, kNLl_nil, kNLl_i, kNLl_r, kNLl_n, ktag_i, ktag_r, List.length_cons, List.length_nil, List.take_succ_cons, List.take_zero, List.take_nil, List.nil_append, List.cons_append, decide_eq_true_eq, Bool.not_eq_true, Bool.not_eq_true', decide_eq_false_iff_not, ne_eq, Decidable.not_not, true_and, and_true, Nat.reduceAdd, Nat.reduceLeDiff, Nat.reduceEqDiff, Nat.le_refl, not_true_eq_false, not_false_eq_true, reduceIte, eq_self, Int.reduceNeg, Int.reduceEq, Int.reduceLT, Int.reduceLE, Nat.zero_le, Nat.one_ne_zero, ev_model]
  refine hNb.mono ?_
  rintro r s1 ⟨rfl, k1, k2⟩
  refine ⟨rfl, ?_⟩
  rw [hQ101]
  clear hQ101
  refine kThen_N.mpr ?_
  have n1 : s1 14 1 = n := by rw [k1 _ _ (by decide) (by decide)]; exact w1
  refine wpS_seq' (fun Q1 hQ1 => ?_)
  unfold l_Md_cores_1
  refine wpS_fp (fun i s => (∀ o k, o ≠ 101 → o ≠ 103 → s o k = s1 o k) ∧ ∀ v, v < i → s 101 v = 0 ∧ s 103 v = (cntP (N v) n : Int)) 0 n rfl rfl ?_ ?_ ?_ ?_ ?_ ?_
  · simp only [wpS_skip, wpS_break, wpS_cont, wpS_retV, wpS_throw, wpS_seq, wpS_if, wpS_trunc, yS_let, yS_inc, kgK_i, kgK_r, kok_nil, kok_i0, kok_is, kok_r0, kok_rs, kok_n0, kok_ns, xS_put, xS_putOp, xS_ast0, xS_ast1, xS_astOp, wpS_E, wpS_call, wpS_callS, wpS_ret, kThen_N, kThen_B, kThen_C, kThen_R, kThen_T, kNext_N, kNext_C, kNext_B, kNext_R, wpE_K, wpE_KL, xE_I, xE_R, wpE_J, xE_bin, wpE_ladd, wpE_i2l, xE_get, xE_ald0, xE_ald1, wpE_if, xE_max, xE_min, wpE_len, wpA_nil, wpA_snoc, xE_call, xE_callS, xC_C, xC_L, xC_Z, wpC_and, wpC_or, wpC_not, wpC_if, kcmp_0, kcmp_1, kcmp_2, kcmp_3, kcmp_4, kcmp_5, rR_inj, kgO_some, kgO_add, kgO_sub, kgO_mul, kgO_div, kgO_rem, kgO_and, kvI_inl, kvJ_inl, kgI_0, kgI_s, kgR_0, kgR_s, kst_nil, kst_0, kst_s, kNLl_nil, kNLl_i, kNLl_r, kNLl_n, ktag_i, ktag_r, List.length_cons, List.length_nil, List.take_succ_cons, List.take_zero, List.take_nil, List.nil_append, List.cons_append, decide_eq_true_eq, Bool.not_eq_true, Bool.not_eq_true', decide_eq_false_iff_not, ne_eq, Decidable.not_not, true_and, and_true, Nat.reduceAdd, Nat.reduceLeDiff, Nat.reduceEqDiff, Nat.le_refl, not_true_eq_false, not_false_eq_true, reduceIte, eq_self, Int.reduceNeg, Int.reduceEq, Int.reduceLT, Int.reduceLE, Nat.zero_le, Nat.one_ne_zero]; trivial
  · omega
  · exact ⟨fun _ _ _ _ => rfl, fun v hv => by omega⟩
  · rintro i s - - ⟨S1, -⟩
    simp only [wpS_skip, wpS_break, wpS_cont, wpS_retV, wpS_throw, wpS_seq, wpS_if, wpS_trunc, yS_let, yS_inc, kgK_i, kgK_r, kok_nil, kok_i0, kok_is, kok_r0, kok_rs, kok_n0, kok_ns, xS_put, xS_putOp, xS_ast0, xS_ast1, xS_astOp, wpS_E, wpS_call, wpS_callS, wpS_ret, kThen_N, kThen_B, kThen_C, kThen_R, kThen_T, kNext_N, kNext_C, kNext_B, kNext_R, wpE_K, wpE_KL, xE_I, xE_R, wpE_J, xE_bin, wpE_ladd, wpE_i2l, xE_get, xE_ald0, xE_ald1, wpE_if, xE_max, xE_min, wpE_len, wpA_nil, wpA_snoc, xE_call, xE_callS, xC_C, xC_L, xC_Z, wpC_and, wpC_or, wpC_not, wpC_if, kcmp_0, kcmp_1, kcmp_2, kcmp_3, kcmp_4, kcmp_5, rR_inj, kgO_some, kgO_add, kgO_sub, kgO_mul, kgO_div, kgO_rem, kgO_and, kvI_inl, kvJ_inl, kgI_0, kgI_s, kgR_0, kgR_s, kst_nil, kst_0, kst_s, kNLl_nil, kNLl_i, kNLl_r, kNLl_n, ktag_i, ktag_r, List.length_cons, List.length_nil, List.take_succ_cons, List.take_zero, List.take_nil, List.nil_append, List.cons_append, decide_eq_true_eq, Bool.not_eq_true, Bool.not_eq_true', decide_eq_false_iff_not, ne_eq, Decidable.not_not, true_and, and_true, Nat.reduceAdd, Nat.reduceLeDiff, Nat.reduceEqDiff, Nat.le_refl, not_true_eq_false, not_false_eq_true, reduceIte, eq_self, Int.reduceNeg, Int.reduceEq, Int.reduceLT, Int.reduceLE, Nat.zero_le, Nat.one_ne_zero, ev_model, show s 14 1 = (n : Int) by rw [S1 _ _ (by decide) (by decide)]; exact n1]
  · rintro i s - hi ⟨S1, S2⟩
    refine wpS_gen (fun Q2 hQ2 => ?_)
    have e98 : s 98 i = cntP (N i) n := by rw [S1 _ _ (by decide) (by decide)]; exact k2.2 i hi
    simp only [wpS_skip, wpS_break, wpS_cont, wpS_retV, wpS_throw, wpS_seq, wpS_if, wpS_trunc, yS_let, yS_inc, kgK_i, kgK_r, kok_nil, kok_i0, kok_is, kok_r0, kok_rs, kok_n0, kok_ns, xS_put, xS_putOp, xS_ast0, xS_ast1, xS_astOp, wpS_E, wpS_call, wpS_callS, wpS_ret, kThen_N, kThen_B, kThen_C, kThen_R, kThen_T, kNext_N, kNext_C, kNext_B, kNext_R, wpE_K, wpE_KL, xE_I, xE_R, wpE_J, xE_bin, wpE_ladd, wpE_i2l, xE_get, xE_ald0, xE_ald1, wpE_if, xE_max, xE_min, wpE_len, wpA_nil, wpA_snoc, xE_call, xE_callS, xC_C, xC_L, xC_Z, wpC_and, wpC_or, wpC_not, wpC_if, kcmp_0, kcmp_1, kcmp_2, kcmp_3, kcmp_4, kcmp_5, rR_inj, kgO_some, kgO_add, kgO_sub, kgO_mul, kgO_div, kgO_rem, kgO_and, kvI_inl, kvJ_inl, kgI_0, kgI_s, kgR_0, kgR_s, kst_nil, kst_0, kst_s, kNLl_nil, kNLl_i, kNLl_r, kNLl_n, ktag_i, ktag_r, List.length_cons, List.length_nil, List.take_succ_cons, List.take_zero, List.take_nil, List.nil_append, List.cons_append, decide_eq_true_eq, Bool.not_eq_true, Bool.not_eq_true', decide_eq_false_iff_not, ne_eq, Decidable.not_not, true_and, and_true, Nat.reduceAdd, Nat.reduceLeDiff, Nat.reduceEqDiff, Nat.le_refl, not_true_eq_false, not_false_eq_true, reduceIte, eq_self, Int.reduceNeg, Int.reduceEq, Int.reduceLT, Int.reduceLE, Nat.zero_le, Nat.one_ne_zero, ev_model, ev_model_arr, Int.toNat_natCast, e98, true_or]
    repeat refine And.intro (by omega) ?_
    rw [hQ2]
    refine kStep_N rfl ⟨rfl, fun o k o1 o2 => by rw [kup_ne o1, kup_ne o2]; exact S1 o k o1 o2, fun v hv => ⟨?_, ?_⟩⟩
    · rw [kup_eq]
      split
      · rfl
      · rw [kup_ne (by decide)]; exact (S2 v (by omega)).1
    · rw [kup_ne (by decide), kup_eq]
      split
      · rename_i e; rw [e]
      · exact (S2 v (by omega)).2
  · rintro s2 ⟨S1, S2⟩
    rw [hQ1]
    refine kThen_N.mpr ?_
    refine wpS_seq' (fun Q102 hQ102 => ?_)
    simp only [wpS_skip, wpS_break, wpS_cont, wpS_retV, wpS_throw, wpS_seq, wpS_if, wpS_trunc, yS_let, yS_inc, kgK_i, kgK_r, kok_nil, kok_i0, kok_is, kok_r0, kok_rs, kok_n0, kok_ns, xS_put, xS_putOp, xS_ast0, xS_ast1, xS_astOp, wpS_E, wpS_call, wpS_callS, wpS_ret, kThen_N, kThen_B, kThen_C, kThen_R, kThen_T, kNext_N, kNext_C, kNext_B, kNext_R, wpE_K, wpE_KL, xE_I, xE_R, wpE_J, xE_bin, wpE_ladd, wpE_i2l, xE_get, xE_ald0, xE_ald1, wpE_if, xE_max, xE_min, wpE_len, wpA_nil, wpA_snoc, xE_call, xE_callS, xC_C, xC_L, xC_Z, wpC_and, wpC_or, wpC_not, wpC_if, kcmp_0, kcmp_1, kcmp_2, kcmp_3, kcmp_4, kcmp_5, rR_inj, kgO_some, kgO_add, kgO_sub, kgO_mul, kgO_div, kgO_rem, kgO_and, kvI_inl, kvJ_inl, kgI_0, kgI_s, kgR_0, kgR_s, kst_nil, kst_0, kst_s, kNLl_nil, kNLl_i, kNLl_r, kNLl_n, ktag_i, ktag_r, List.length_cons, List.length_nil, List.take_succ_cons, List.take_zero, List.take_nil, List.nil_append, List.cons_append, decide_eq_true_eq, Bool.not_eq_true, Bool.not_eq_true', decide_eq_false_iff_not, ne_eq, Decidable.not_not, true_and, and_true, Nat.reduceAdd, Nat.reduceLeDiff, Nat.reduceEqDiff, Nat.le_refl, not_true_eq_false, not_false_eq_true, reduceIte, eq_self, Int.reduceNeg, Int.reduceEq, Int.reduceLT, Int.reduceLE, Nat.zero_le, Nat.one_ne_zero]
    repeat refine And.intro (by omega) ?_
    rw [hQ102]
    clear hQ102 Q102
    refine kThen_N.mpr ?_
    refine wpS_gen (fun Q2 hQ2 => ?_)
    unfold l_Md_cores_4
    refine wpS_fort (fun k P s => ∃ (m : Nat) (D : Nat → Prop), P = [some (.inr (.inl 14)), some (.inl (m : Int))] ∧ (∀ o k, o ≠ 101 → o ≠ 102 → o ≠ 103 → s o k = s1 o k) ∧ coI s n N k m D) 0 n rfl rfl ?_ ?_ ?_ ?_ ?_ ?_ ?_
    · simp only [wpS_skip, wpS_break, wpS_cont, wpS_retV, wpS_throw, wpS_seq, wpS_if, wpS_trunc, yS_let, yS_inc, kgK_i, kgK_r, kok_nil, kok_i0, kok_is, kok_r0, kok_rs, kok_n0, kok_ns, xS_put, xS_putOp, xS_ast0, xS_ast1, xS_astOp, wpS_E, wpS_call, wpS_callS, wpS_ret, kThen_N, kThen_B, kThen_C, kThen_R, kThen_T, kNext_N, kNext_C, kNext_B, kNext_R, wpE_K, wpE_KL, xE_I, xE_R, wpE_J, xE_bin, wpE_ladd, wpE_i2l, xE_get, xE_ald0, xE_ald1, wpE_if, xE_max, xE_min, wpE_len, wpA_nil, wpA_snoc, xE_call, xE_callS, xC_C, xC_L, xC_Z, wpC_and, wpC_or, wpC_not, wpC_if, kcmp_0, kcmp_1, kcmp_2, kcmp_3, kcmp_4, kcmp_5, rR_inj, kgO_some, kgO_add, kgO_sub, kgO_mul, kgO_div, kgO_rem, kgO_and, kvI_inl, kvJ_inl, kgI_0, kgI_s, kgR_0, kgR_s, kst_nil, kst_0, kst_s, kNLl_nil, kNLl_i, kNLl_r, kNLl_n, ktag_i, ktag_r, List.length_cons, List.length_nil, List.take_succ_cons, List.take_zero, List.take_nil, List.nil_append, List.cons_append, decide_eq_true_eq, Bool.not_eq_true, Bool.not_eq_true', decide_eq_false_iff_not, ne_eq, Decidable.not_not, true_and, and_true, Nat.reduceAdd, Nat.reduceLeDiff, Nat.reduceEqDiff, Nat.le_refl, not_true_eq_false, not_false_eq_true, reduceIte, eq_self, Int.reduceNeg, Int.reduceEq, Int.reduceLT, Int.reduceLE, Nat.zero_le, Nat.one_ne_zero]; trivial
    · omega
    · refine ⟨0, fun _ => False, rfl, fun o k o1 _ o3 => S1 o k o1 o3, fun v hv => ?_, cntP_zero (fun _ _ q => q), fun v hv _ => kcr_zero hv, fun _ q => q.elim, fun _ _ q => q.elim, Nat.zero_le _⟩
      obtain ⟨e1, e2⟩ := S2 v hv
      rw [e1, e2]
      refine ⟨Or.inl rfl, by simp, ?_⟩
      rw [cntP_congr (Q := fun w => N v w ∧ ¬ False) (fun w _ => ⟨fun q => ⟨q, id⟩, fun q => q.1⟩)]
    · rintro k P s ⟨m, D, rfl, -⟩; exact ⟨rfl, rfl⟩
    · rintro k P s - - ⟨m, D, rfl, T1, -⟩
      simp only [wpS_skip, wpS_break, wpS_cont, wpS_retV, wpS_throw, wpS_seq, wpS_if, wpS_trunc, yS_let, yS_inc, kgK_i, kgK_r, kok_nil, kok_i0, kok_is, kok_r0, kok_rs, kok_n0, kok_ns, xS_put, xS_putOp, xS_ast0, xS_ast1, xS_astOp, wpS_E, wpS_call, wpS_callS, wpS_ret, kThen_N, kThen_B, kThen_C, kThen_R, kThen_T, kNext_N, kNext_C, kNext_B, kNext_R, wpE_K, wpE_KL, xE_I, xE_R, wpE_J, xE_bin, wpE_ladd, wpE_i2l, xE_get, xE_ald0, xE_ald1, wpE_if, xE_max, xE_min, wpE_len, wpA_nil, wpA_snoc, xE_call, xE_callS, xC_C, xC_L, xC_Z, wpC_and, wpC_or, wpC_not, wpC_if, kcmp_0, kcmp_1, kcmp_2, kcmp_3, kcmp_4, kcmp_5, rR_inj, kgO_some, kgO_add, kgO_sub, kgO_mul, kgO_div, kgO_rem, kgO_and, kvI_inl, kvJ_inl, kgI_0, kgI_s, kgR_0, kgR_s, kst_nil, kst_0, kst_s, kNLl_nil, kNLl_i, kNLl_r, kNLl_n, ktag_i, ktag_r, List.length_cons, List.length_nil, List.take_succ_cons, List.take_zero, List.take_nil, List.nil_append, List.cons_append, decide_eq_true_eq, Bool.not_eq_true, Bool.not_eq_true', decide_eq_false_iff_not, ne_eq, Decidable.not_not, true_and, and_true, Nat.reduceAdd, Nat.reduceLeDiff, Nat.reduceEqDiff, Nat.le_refl, not_true_eq_false, not_false_eq_true, reduceIte, eq_self, Int.reduceNeg, Int.reduceEq, Int.reduceLT, Int.reduceLE, Nat.zero_le, Nat.one_ne_zero, ev_model, show s 14 1 = (n : Int) by rw [T1 _ _ (by decide) (by decide) (by decide)]; exact n1]
    · rintro k P s - hk ⟨m, D, rfl, T1, I1, I2, I3, I4, I5, I6⟩
      have hex : ∃ v, v < n ∧ ¬ D v := Classical.byContradiction fun hno => by
        have : cntP D n = n := by
          have h1 := @cntP_not D n
          have h2 : cntP (fun v => ¬ D v) n = 0 := cntP_zero (fun v hv q => hno ⟨v, hv, q⟩)
          omega
        omega
      obtain ⟨lf, hlf⟩ : ∃ lf : Nat → Nat, lf = fun v => cntP (fun w => N v w ∧ ¬ D w) n := ⟨_, rfl⟩
      have e103 : ∀ v, v < n → s 103 v = (lf v : Int) := fun v hv => by rw [(I1 v hv).2.2, hlf]
      have lfb : ∀ v, lf v ≤ n := fun v => by rw [hlf]; exact cntP_bound
      rw [wpS_trunc]
      refine wpS_seq' (fun Q103 hQ103 => ?_)
      simp only [wpS_skip, wpS_break, wpS_cont, wpS_retV, wpS_throw, wpS_seq, wpS_if, wpS_trunc, yS_let, yS_inc, kgK_i, kgK_r, kok_nil, kok_i0, kok_is, kok_r0, kok_rs, kok_n0, kok_ns, xS_put, xS_putOp, xS_ast0, xS_ast1, xS_astOp, wpS_E, wpS_call, wpS_callS, wpS_ret, kThen_N, kThen_B, kThen_C, kThen_R, kThen_T, kNext_N, kNext_C, kNext_B, kNext_R, wpE_K, wpE_KL, xE_I, xE_R, wpE_J, xE_bin, wpE_ladd, wpE_i2l, xE_get, xE_ald0, xE_ald1, wpE_if, xE_max, xE_min, wpE_len, wpA_nil, wpA_snoc, xE_call, xE_callS, xC_C, xC_L, xC_Z, wpC_and, wpC_or, wpC_not, wpC_if, kcmp_0, kcmp_1, kcmp_2, kcmp_3, kcmp_4, kcmp_5, rR_inj, kgO_some, kgO_add, kgO_sub, kgO_mul, kgO_div, kgO_rem, kgO_and, kvI_inl, kvJ_inl, kgI_0, kgI_s, kgR_0, kgR_s, kst_nil, kst_0, kst_s, kNLl_nil, kNLl_i, kNLl_r, kNLl_n, ktag_i, ktag_r, List.length_cons, List.length_nil, List.take_succ_cons, List.take_zero, List.take_nil, List.nil_append, List.cons_append, decide_eq_true_eq, Bool.not_eq_true, Bool.not_eq_true', decide_eq_false_iff_not, ne_eq, Decidable.not_not, true_and, and_true, Nat.reduceAdd, Nat.reduceLeDiff, Nat.reduceEqDiff, Nat.le_refl, not_true_eq_false, not_false_eq_true, reduceIte, eq_self, Int.reduceNeg, Int.reduceEq, Int.reduceLT, Int.reduceLE, Nat.zero_le, Nat.one_ne_zero]
      repeat refine And.intro (by omega) ?_
      rw [hQ103]
      clear hQ103 Q103
      refine kThen_N.mpr ?_
      refine wpS_seq' (fun Q3 hQ3 => ?_)
      unfold l_Md_cores_2
      refine wpS_fort (fun i P s' => s' = s ∧ ∃ best : Int, P = [some (.inr (.inl 14)), some (.inl (m : Int)), some (.inl (k : Int)), some (.inl best)] ∧ ((best = -1 ∧ ∀ v, v < i → D v) ∨ ∃ b : Nat, best = (b : Int) ∧ b < i ∧ ¬ D b ∧ ∀ v, v < i → ¬ D v → lf b ≤ lf v)) 0 n rfl rfl ?_ ?_ ?_ ?_ ?_ ?_ ?_
      · simp only [wpS_skip, wpS_break, wpS_cont, wpS_retV, wpS_throw, wpS_seq, wpS_if, wpS_trunc, yS_let, yS_inc, kgK_i, kgK_r, kok_nil, kok_i0, kok_is, kok_r0, kok_rs, kok_n0, kok_ns, xS_put, xS_putOp, xS_ast0, xS_ast1, xS_astOp, wpS_E, wpS_call, wpS_callS, wpS_ret, kThen_N, kThen_B, kThen_C, kThen_R, kThen_T, kNext_N, kNext_C, kNext_B, kNext_R, wpE_K, wpE_KL, xE_I, xE_R, wpE_J, xE_bin, wpE_ladd, wpE_i2l, xE_get, xE_ald0, xE_ald1, wpE_if, xE_max, xE_min, wpE_len, wpA_nil, wpA_snoc, xE_call, xE_callS, xC_C, xC_L, xC_Z, wpC_and, wpC_or, wpC_not, wpC_if, kcmp_0, kcmp_1, kcmp_2, kcmp_3, kcmp_4, kcmp_5, rR_inj, kgO_some, kgO_add, kgO_sub, kgO_mul, kgO_div, kgO_rem, kgO_and, kvI_inl, kvJ_inl, kgI_0, kgI_s, kgR_0, kgR_s, kst_nil, kst_0, kst_s, kNLl_nil, kNLl_i, kNLl_r, kNLl_n, ktag_i, ktag_r, List.length_cons, List.length_nil, List.take_succ_cons, List.take_zero, List.take_nil, List.nil_append, List.cons_append, decide_eq_true_eq, Bool.not_eq_true, Bool.not_eq_true', decide_eq_false_iff_not, ne_eq, Decidable.not_not, true_and, and_true, Nat.reduceAdd, Nat.reduceLeDiff, Nat.reduceEqDiff, Nat.le_refl, not_true_eq_false, not_false_eq_true, reduceIte, eq_self, Int.reduceNeg, Int.reduceEq, Int.reduceLT, Int.reduceLE, Nat.zero_le, Nat.one_ne_zero]; trivial
      · omega
      · exact ⟨rfl, -1, rfl, Or.inl ⟨rfl, fun v hv => by omega⟩⟩
      · rintro i P s' ⟨-, best, rfl, -⟩; exact ⟨rfl, rfl⟩
      · rintro i P s' - - ⟨hs', best, rfl, -⟩
        subst s'
        simp only [wpS_skip, wpS_break, wpS_cont, wpS_retV, wpS_throw, wpS_seq, wpS_if, wpS_trunc, yS_let, yS_inc, kgK_i, kgK_r, kok_nil, kok_i0, kok_is, kok_r0, kok_rs, kok_n0, kok_ns, xS_put, xS_putOp, xS_ast0, xS_ast1, xS_astOp, wpS_E, wpS_call, wpS_callS, wpS_ret, kThen_N, kThen_B, kThen_C, kThen_R, kThen_T, kNext_N, kNext_C, kNext_B, kNext_R, wpE_K, wpE_KL, xE_I, xE_R, wpE_J, xE_bin, wpE_ladd, wpE_i2l, xE_get, xE_ald0, xE_ald1, wpE_if, xE_max, xE_min, wpE_len, wpA_nil, wpA_snoc, xE_call, xE_callS, xC_C, xC_L, xC_Z, wpC_and, wpC_or, wpC_not, wpC_if, kcmp_0, kcmp_1, kcmp_2, kcmp_3, kcmp_4, kcmp_5, rR_inj, kgO_some, kgO_add, kgO_sub, kgO_mul, kgO_div, kgO_rem, kgO_and, kvI_inl, kvJ_inl, kgI_0, kgI_s, kgR_0, kgR_s, kst_nil, kst_0, kst_s, kNLl_nil, kNLl_i, kNLl_r, kNLl_n, ktag_i, ktag_r, List.length_cons, List.length_nil, List.take_succ_cons, List.take_zero, List.take_nil, List.nil_append, List.cons_append, decide_eq_true_eq, Bool.not_eq_true, Bool.not_eq_true', decide_eq_false_iff_not, ne_eq, Decidable.not_not, true_and, and_true, Nat.reduceAdd, Nat.reduceLeDiff, Nat.reduceEqDiff, Nat.le_refl, not_true_eq_false, not_false_eq_true, reduceIte, eq_self, Int.reduceNeg, Int.reduceEq, Int.reduceLT, Int.reduceLE, Nat.zero_le, Nat.one_ne_zero, ev_model, show s 14 1 = (n : Int) by rw [T1 _ _ (by decide) (by decide) (by decide)]; exact n1]
      · rintro i P s' - hi ⟨hs', best, rfl, hbest⟩
        subst s'
        refine wpS_gen (fun Q4 hQ4 => ?_)
        obtain ⟨z1, z2, -⟩ := I1 i hi
        have keep : (D i ∨ ∃ b : Nat, best = (b : Int) ∧ lf b ≤ lf i) → Q4 rN [some (.inr (.inl 14)), some (.inl (m : Int)), some (.inl (k : Int)), some (.inl best), some (.inl (i : Int))] s := by
          intro h
          rw [hQ4]
          refine kStep_N rfl ⟨rfl, best, rfl, ?_⟩
          rcases hbest with ⟨h1, h2⟩ | ⟨b, h1, h2, h3, h4⟩
          · left
            refine ⟨h1, fun v hv => ?_⟩
            by_cases e : v = i
            · rcases h with h | ⟨b, hb, -⟩
              · rw [e]; exact h
              · omega
            · exact h2 v (by omega)
          · right
            refine ⟨b, h1, by omega, h3, fun v hv hd => ?_⟩
            by_cases e : v = i
            · subst e
              rcases h with h | ⟨b', hb', q3⟩
              · exact absurd h hd
              · have : b' = b := by omega
                subst this
                exact q3
            · exact h4 v (by omega) hd
        have take : ¬ D i → (best = -1 ∨ ∃ b : Nat, best = (b : Int) ∧ lf i < lf b) → Q4 rN [some (.inr (.inl 14)), some (.inl (m : Int)), some (.inl (k : Int)), some (.inl (i : Int)), some (.inl (i : Int))] s := by
          intro hnd h
          rw [hQ4]
          refine kStep_N rfl ⟨rfl, (i : Int), rfl, Or.inr ⟨i, rfl, by omega, hnd, fun v hv hd => ?_⟩⟩
          by_cases e : v = i
          · rw [e]; exact Nat.le_refl _
          · rcases hbest with ⟨h1, h2⟩ | ⟨b, h1, h2, h3, h4⟩
            · exact absurd (h2 v (by omega)) hd
            · rcases h with h | ⟨b', hb', q3⟩
              · omega
              · have : b' = b := by omega
                subst this
                have := h4 v (by omega) hd
                omega
        have e103i := e103 i hi
        by_cases hd : s 101 i = 0
        · have hnd : ¬ D i := fun q => by have := z2.mpr q; omega
          rcases hbest with ⟨rfl, h2⟩ | ⟨b, rfl, h2, h3, h4⟩
          · simp only [wpS_skip, wpS_break, wpS_cont, wpS_retV, wpS_throw, wpS_seq, wpS_if, wpS_trunc, yS_let, yS_inc, kgK_i, kgK_r, kok_nil, kok_i0, kok_is, kok_r0, kok_rs, kok_n0, kok_ns, xS_put, xS_putOp, xS_ast0, xS_ast1, xS_astOp, wpS_E, wpS_call, wpS_callS, wpS_ret, kThen_N, kThen_B, kThen_C, kThen_R, kThen_T, kNext_N, kNext_C, kNext_B, kNext_R, wpE_K, wpE_KL, xE_I, xE_R, wpE_J, xE_bin, wpE_ladd, wpE_i2l, xE_get, xE_ald0, xE_ald1, wpE_if, xE_max, xE_min, wpE_len, wpA_nil, wpA_snoc, xE_call, xE_callS, xC_C, xC_L, xC_Z, wpC_and, wpC_or, wpC_not, wpC_if, kcmp_0, kcmp_1, kcmp_2, kcmp_3, kcmp_4, kcmp_5, rR_inj, kgO_some, kgO_add, kgO_sub, kgO_mul, kgO_div, kgO_rem, kgO_and, kvI_inl, kvJ_inl, kgI_0, kgI_s, kgR_0, kgR_s, kst_nil, kst_0, kst_s, kNLl_nil, kNLl_i, kNLl_r, kNLl_n, ktag_i, ktag_r, List.length_cons, List.length_nil, List.take_succ_cons, List.take_zero, List.take_nil, List.nil_append, List.cons_append, decide_eq_true_eq, Bool.not_eq_true, Bool.not_eq_true', decide_eq_false_iff_not, ne_eq, Decidable.not_not, true_and, and_true, Nat.reduceAdd, Nat.reduceLeDiff, Nat.reduceEqDiff, Nat.le_refl, not_true_eq_false, not_false_eq_true, reduceIte, eq_self, Int.reduceNeg, Int.reduceEq, Int.reduceLT, Int.reduceLE, Nat.zero_le, Nat.one_ne_zero, ev_model, ev_model_arr, Int.toNat_natCast, hd, decide_true, decide_false, Bool.false_eq_true, if_true, if_false, true_and, and_true, not_true_eq_false, not_false_eq_true]
            repeat refine And.intro (by omega) ?_
            exact take hnd (Or.inl rfl)
          · have hbne : ¬ (b : Int) = -1 := by omega
            have e103b := e103 b (by omega)
            by_cases hw2 : (lf i : Int) < (lf b : Int)
            · simp only [wpS_skip, wpS_break, wpS_cont, wpS_retV, wpS_throw, wpS_seq, wpS_if, wpS_trunc, yS_let, yS_inc, kgK_i, kgK_r, kok_nil, kok_i0, kok_is, kok_r0, kok_rs, kok_n0, kok_ns, xS_put, xS_putOp, xS_ast0, xS_ast1, xS_astOp, wpS_E, wpS_call, wpS_callS, wpS_ret, kThen_N, kThen_B, kThen_C, kThen_R, kThen_T, kNext_N, kNext_C, kNext_B, kNext_R, wpE_K, wpE_KL, xE_I, xE_R, wpE_J, xE_bin, wpE_ladd, wpE_i2l, xE_get, xE_ald0, xE_ald1, wpE_if, xE_max, xE_min, wpE_len, wpA_nil, wpA_snoc, xE_call, xE_callS, xC_C, xC_L, xC_Z, wpC_and, wpC_or, wpC_not, wpC_if, kcmp_0, kcmp_1, kcmp_2, kcmp_3, kcmp_4, kcmp_5, rR_inj, kgO_some, kgO_add, kgO_sub, kgO_mul, kgO_div, kgO_rem, kgO_and, kvI_inl, kvJ_inl, kgI_0, kgI_s, kgR_0, kgR_s, kst_nil, kst_0, kst_s, kNLl_nil, kNLl_i, kNLl_r, kNLl_n, ktag_i, ktag_r, List.length_cons, List.length_nil, List.take_succ_cons, List.take_zero, List.take_nil, List.nil_append, List.cons_append, decide_eq_true_eq, Bool.not_eq_true, Bool.not_eq_true', decide_eq_false_iff_not, ne_eq, Decidable.not_not, true_and, and_true, Nat.reduceAdd, Nat.reduceLeDiff, Nat.reduceEqDiff, Nat.le_refl, not_true_eq_false, not_false_eq_true, reduceIte, eq_self, Int.reduceNeg, Int.reduceEq, Int.reduceLT, Int.reduceLE, Nat.zero_le, Nat.one_ne_zero, ev_model, ev_model_arr, Int.toNat_natCast, hd, hbne, e103i, e103b, hw2, decide_true, decide_false, Bool.false_eq_true, if_true, if_false, true_and, and_true, not_true_eq_false, not_false_eq_true]
              repeat refine And.intro (by omega) ?_
              exact take hnd (Or.inr ⟨b, rfl, by omega⟩)
            · simp only [wpS_skip, wpS_break, wpS_cont, wpS_retV, wpS_throw, wpS_seq, wpS_if, wpS_trunc, yS_let, yS_inc, kgK_i, kgK_r, kok_nil, kok_i0, kok_is, kok_r0, kok_rs, kok_n0, kok_ns, xS_put, xS_putOp, xS_ast0, xS_ast1, xS_astOp, wpS_E, wpS_call, wpS_callS, wpS_ret, kThen_N, kThen_B, kThen_C, kThen_R, kThen_T, kNext_N, kNext_C, kNext_B, kNext_R, wpE_K, wpE_KL, xE_I, xE_R, wpE_J, xE_bin, wpE_ladd, wpE_i2l, xE_get, xE_ald0, xE_ald1, wpE_if, xE_max, xE_min, wpE_len, wpA_nil, wpA_snoc, xE_call, xE_callS, xC_C, xC_L, xC_Z, wpC_and, wpC_or, wpC_not, wpC_if, kcmp_0, kcmp_1, kcmp_2, kcmp_3, kcmp_4, kcmp_5, rR_inj, kgO_some, kgO_add, kgO_sub, kgO_mul, kgO_div, kgO_rem, kgO_and, kvI_inl, kvJ_inl, kgI_0, kgI_s, kgR_0, kgR_s, kst_nil, kst_0, kst_s, kNLl_nil, kNLl_i, kNLl_r, kNLl_n, ktag_i, ktag_r, List.length_cons, List.length_nil, List.take_succ_cons, List.take_zero, List.take_nil, List.nil_append, List.cons_append, decide_eq_true_eq, Bool.not_eq_true, Bool.not_eq_true', decide_eq_false_iff_not, ne_eq, Decidable.not_not, true_and, and_true, Nat.reduceAdd, Nat.reduceLeDiff, Nat.reduceEqDiff, Nat.le_refl, not_true_eq_false, not_false_eq_true, reduceIte, eq_self, Int.reduceNeg, Int.reduceEq, Int.reduceLT, Int.reduceLE, Nat.zero_le, Nat.one_ne_zero, ev_model, ev_model_arr, Int.toNat_natCast, hd, hbne, e103i, e103b, hw2, decide_true, decide_false, Bool.false_eq_true, if_true, if_false, true_and, and_true, not_true_eq_false, not_false_eq_true]
              repeat refine And.intro (by omega) ?_
              exact keep (Or.inr ⟨b, rfl, by omega⟩)
        · simp only [wpS_skip, wpS_break, wpS_cont, wpS_retV, wpS_throw, wpS_seq, wpS_if, wpS_trunc, yS_let, yS_inc, kgK_i, kgK_r, kok_nil, kok_i0, kok_is, kok_r0, kok_rs, kok_n0, kok_ns, xS_put, xS_putOp, xS_ast0, xS_ast1, xS_astOp, wpS_E, wpS_call, wpS_callS, wpS_ret, kThen_N, kThen_B, kThen_C, kThen_R, kThen_T, kNext_N, kNext_C, kNext_B, kNext_R, wpE_K, wpE_KL, xE_I, xE_R, wpE_J, xE_bin, wpE_ladd, wpE_i2l, xE_get, xE_ald0, xE_ald1, wpE_if, xE_max, xE_min, wpE_len, wpA_nil, wpA_snoc, xE_call, xE_callS, xC_C, xC_L, xC_Z, wpC_and, wpC_or, wpC_not, wpC_if, kcmp_0, kcmp_1, kcmp_2, kcmp_3, kcmp_4, kcmp_5, rR_inj, kgO_some, kgO_add, kgO_sub, kgO_mul, kgO_div, kgO_rem, kgO_and, kvI_inl, kvJ_inl, kgI_0, kgI_s, kgR_0, kgR_s, kst_nil, kst_0, kst_s, kNLl_nil, kNLl_i, kNLl_r, kNLl_n, ktag_i, ktag_r, List.length_cons, List.length_nil, List.take_succ_cons, List.take_zero, List.take_nil, List.nil_append, List.cons_append, decide_eq_true_eq, Bool.not_eq_true, Bool.not_eq_true', decide_eq_false_iff_not, ne_eq, Decidable.not_not, true_and, and_true, Nat.reduceAdd, Nat.reduceLeDiff, Nat.reduceEqDiff, Nat.le_refl, not_true_eq_false, not_false_eq_true, reduceIte, eq_self, Int.reduceNeg, Int.reduceEq, Int.reduceLT, Int.reduceLE, Nat.zero_le, Nat.one_ne_zero, ev_model, ev_model_arr, Int.toNat_natCast, hd, decide_true, decide_false, Bool.false_eq_true, if_true, if_false, true_and, and_true, not_true_eq_false, not_false_eq_true]
          repeat refine And.intro (by omega) ?_
          exact keep (Or.inl (z2.mp (by omega)))
      · rintro P s' ⟨hs', best, rfl, hbest⟩
        subst s'
        rcases hbest with ⟨-, h2⟩ | ⟨b, rfl, hb, hbd, hmin⟩
        · exfalso
          obtain ⟨v, v1, v2⟩ := hex
          exact v2 (h2 v v1)
        · rw [hQ3]
          refine kThen_N.mpr ?_
          have e103b := e103 b hb
          have lb := lfb b
          obtain ⟨m', hm', hm2⟩ : ∃ m' : Nat, (m' = if m < lf b then lf b else m) ∧ ((m < lf b ∧ m' = lf b) ∨ (lf b ≤ m ∧ m' = m)) := by
            by_cases h : m < lf b
            · exact ⟨lf b, by rw [if_pos h], Or.inl ⟨h, rfl⟩⟩
            · exact ⟨m, by rw [if_neg h], Or.inr ⟨by omega, rfl⟩⟩
          refine wpS_seq' (fun Q5 hQ5 => ?_)
          have go : Q5 rN [some (.inr (.inl 14)), some (.inl (m' : Int)), some (.inl (k : Int)), some (.inl (b : Int))] s := by
            rw [hQ5]
            refine kThen_N.mpr ?_
            refine wpS_seq' (fun Q104 hQ104 => ?_)
            simp only [wpS_skip, wpS_break, wpS_cont, wpS_retV, wpS_throw, wpS_seq, wpS_if, wpS_trunc, yS_let, yS_inc, kgK_i, kgK_r, kok_nil, kok_i0, kok_is, kok_r0, kok_rs, kok_n0, kok_ns, xS_put, xS_putOp, xS_ast0, xS_ast1, xS_astOp, wpS_E, wpS_call, wpS_callS, wpS_ret, kThen_N, kThen_B, kThen_C, kThen_R, kThen_T, kNext_N, kNext_C, kNext_B, kNext_R, wpE_K, wpE_KL, xE_I, xE_R, wpE_J, xE_bin, wpE_ladd, wpE_i2l, xE_get, xE_ald0, xE_ald1, wpE_if, xE_max, xE_min, wpE_len, wpA_nil, wpA_snoc, xE_call, xE_callS, xC_C, xC_L, xC_Z, wpC_and, wpC_or, wpC_not, wpC_if, kcmp_0, kcmp_1, kcmp_2, kcmp_3, kcmp_4, kcmp_5, rR_inj, kgO_some, kgO_add, kgO_sub, kgO_mul, kgO_div, kgO_rem, kgO_and, kvI_inl, kvJ_inl, kgI_0, kgI_s, kgR_0, kgR_s, kst_nil, kst_0, kst_s, kNLl_nil, kNLl_i, kNLl_r, kNLl_n, ktag_i, ktag_r, List.length_cons, List.length_nil, List.take_succ_cons, List.take_zero, List.take_nil, List.nil_append, List.cons_append, decide_eq_true_eq, Bool.not_eq_true, Bool.not_eq_true', decide_eq_false_iff_not, ne_eq, Decidable.not_not, true_and, and_true, Nat.reduceAdd, Nat.reduceLeDiff, Nat.reduceEqDiff, Nat.le_refl, not_true_eq_false, not_false_eq_true, reduceIte, eq_self, Int.reduceNeg, Int.reduceEq, Int.reduceLT, Int.reduceLE, Nat.zero_le, Nat.one_ne_zero, ev_model, ev_model_arr, Int.toNat_natCast]
            repeat refine And.intro (by omega) ?_
            rw [hQ104]
            clear hQ104 Q104
            refine kThen_N.mpr ?_
            refine wpS_seq' (fun Q105 hQ105 => ?_)
            simp only [wpS_skip, wpS_break, wpS_cont, wpS_retV, wpS_throw, wpS_seq, wpS_if, wpS_trunc, yS_let, yS_inc, kgK_i, kgK_r, kok_nil, kok_i0, kok_is, kok_r0, kok_rs, kok_n0, kok_ns, xS_put, xS_putOp, xS_ast0, xS_ast1, xS_astOp, wpS_E, wpS_call, wpS_callS, wpS_ret, kThen_N, kThen_B, kThen_C, kThen_R, kThen_T, kNext_N, kNext_C, kNext_B, kNext_R, wpE_K, wpE_KL, xE_I, xE_R, wpE_J, xE_bin, wpE_ladd, wpE_i2l, xE_get, xE_ald0, xE_ald1, wpE_if, xE_max, xE_min, wpE_len, wpA_nil, wpA_snoc, xE_call, xE_callS, xC_C, xC_L, xC_Z, wpC_and, wpC_or, wpC_not, wpC_if, kcmp_0, kcmp_1, kcmp_2, kcmp_3, kcmp_4, kcmp_5, rR_inj, kgO_some, kgO_add, kgO_sub, kgO_mul, kgO_div, kgO_rem, kgO_and, kvI_inl, kvJ_inl, kgI_0, kgI_s, kgR_0, kgR_s, kst_nil, kst_0, kst_s, kNLl_nil, kNLl_i, kNLl_r, kNLl_n, ktag_i, ktag_r, List.length_cons, List.length_nil, List.take_succ_cons, List.take_zero, List.take_nil, List.nil_append, List.cons_append, decide_eq_true_eq, Bool.not_eq_true, Bool.not_eq_true', decide_eq_false_iff_not, ne_eq, Decidable.not_not, true_and, and_true, Nat.reduceAdd, Nat.reduceLeDiff, Nat.reduceEqDiff, Nat.le_refl, not_true_eq_false, not_false_eq_true, reduceIte, eq_self, Int.reduceNeg, Int.reduceEq, Int.reduceLT, Int.reduceLE, Nat.zero_le, Nat.one_ne_zero, ev_model, ev_model_arr, Int.toNat_natCast, or_true]
            repeat refine And.intro (by omega) ?_
            rw [hQ105]
            clear hQ105 Q105
            refine kThen_N.mpr ?_
            obtain ⟨s3, hs3⟩ : ∃ s3, s3 = kup (kup s 102 b (m' : Int)) 101 b 1 := ⟨_, rfl⟩
            rw [← hs3]
            have m1 : ∀ o j, o ≠ 101 → o ≠ 102 → s3 o j = s o j := by intro o j o1 o2; rw [hs3, kup_ne o1, kup_ne o2]
            have mm2 : ∀ v, s3 102 v = if v = b then (m' : Int) else s 102 v := by intro v; rw [hs3, kup_ne (by decide), kup_eq]
            have m3 : ∀ v, s3 101 v = if v = b then 1 else s 101 v := by intro v; rw [hs3, kup_eq, kup_ne (by decide)]
            -- what is left for each
            have dr : ∀ v, lf v = cntP (fun w => N v w ∧ ¬ (D w ∨ w = b)) n + @ite _ (N v b) (Classical.propDecidable _) 1 0 := by
              intro v
              rw [hlf]
              dsimp only
              rw [cntP_drop hb (P := fun w => N v w ∧ ¬ D w)]
              have e1 : cntP (fun w => (N v w ∧ ¬ D w) ∧ w ≠ b) n = cntP (fun w => N v w ∧ ¬ (D w ∨ w = b)) n := cntP_congr (fun w _ => ⟨fun q => ⟨q.1.1, fun h => h.elim q.1.2 q.2⟩, fun q => ⟨⟨q.1, fun h => q.2 (Or.inl h)⟩, fun h => q.2 (Or.inr h)⟩⟩)
              rw [e1]
              by_cases h : N v b
              · rw [if_pos h, if_pos ⟨h, hbd⟩]
              · rw [if_neg h, if_neg (fun q => h q.1)]
            refine wpS_gen (fun Q6 hQ6 => ?_)
            unfold l_Md_cores_3
            refine wpS_fp (fun i s' => (∀ o j, o ≠ 103 → s' o j = s3 o j) ∧ (∀ v, v < i → s' 103 v = (cntP (fun w => N v w ∧ ¬ (D w ∨ w = b)) n : Int)) ∧ (∀ v, i ≤ v → s' 103 v = s 103 v)) 0 n rfl rfl ?_ ?_ ?_ ?_ ?_ ?_
            · simp only [wpS_skip, wpS_break, wpS_cont, wpS_retV, wpS_throw, wpS_seq, wpS_if, wpS_trunc, yS_let, yS_inc, kgK_i, kgK_r, kok_nil, kok_i0, kok_is, kok_r0, kok_rs, kok_n0, kok_ns, xS_put, xS_putOp, xS_ast0, xS_ast1, xS_astOp, wpS_E, wpS_call, wpS_callS, wpS_ret, kThen_N, kThen_B, kThen_C, kThen_R, kThen_T, kNext_N, kNext_C, kNext_B, kNext_R, wpE_K, wpE_KL, xE_I, xE_R, wpE_J, xE_bin, wpE_ladd, wpE_i2l, xE_get, xE_ald0, xE_ald1, wpE_if, xE_max, xE_min, wpE_len, wpA_nil, wpA_snoc, xE_call, xE_callS, xC_C, xC_L, xC_Z, wpC_and, wpC_or, wpC_not, wpC_if, kcmp_0, kcmp_1, kcmp_2, kcmp_3, kcmp_4, kcmp_5, rR_inj, kgO_some, kgO_add, kgO_sub, kgO_mul, kgO_div, kgO_rem, kgO_and, kvI_inl, kvJ_inl, kgI_0, kgI_s, kgR_0, kgR_s, kst_nil, kst_0, kst_s, kNLl_nil, kNLl_i, kNLl_r, kNLl_n, ktag_i, ktag_r, List.length_cons, List.length_nil, List.take_succ_cons, List.take_zero, List.take_nil, List.nil_append, List.cons_append, decide_eq_true_eq, Bool.not_eq_true, Bool.not_eq_true', decide_eq_false_iff_not, ne_eq, Decidable.not_not, true_and, and_true, Nat.reduceAdd, Nat.reduceLeDiff, Nat.reduceEqDiff, Nat.le_refl, not_true_eq_false, not_false_eq_true, reduceIte, eq_self, Int.reduceNeg, Int.reduceEq, Int.reduceLT, Int.reduceLE, Nat.zero_le, Nat.one_ne_zero]; trivial
            · omega
            · exact ⟨fun _ _ _ => rfl, fun v hv => by omega, fun v _ => m1 _ _ (by decide) (by decide)⟩
            · rintro i s' - - ⟨U1, -⟩
              simp only [wpS_skip, wpS_break, wpS_cont, wpS_retV, wpS_throw, wpS_seq, wpS_if, wpS_trunc, yS_let, yS_inc, kgK_i, kgK_r, kok_nil, kok_i0, kok_is, kok_r0, kok_rs, kok_n0, kok_ns, xS_put, xS_putOp, xS_ast0, xS_ast1, xS_astOp, wpS_E, wpS_call, wpS_callS, wpS_ret, kThen_N, kThen_B, kThen_C, kThen_R, kThen_T, kNext_N, kNext_C, kNext_B, kNext_R, wpE_K, wpE_KL, xE_I, xE_R, wpE_J, xE_bin, wpE_ladd, wpE_i2l, xE_get, xE_ald0, xE_ald1, wpE_if, xE_max, xE_min, wpE_len, wpA_nil, wpA_snoc, xE_call, xE_callS, xC_C, xC_L, xC_Z, wpC_and, wpC_or, wpC_not, wpC_if, kcmp_0, kcmp_1, kcmp_2, kcmp_3, kcmp_4, kcmp_5, rR_inj, kgO_some, kgO_add, kgO_sub, kgO_mul, kgO_div, kgO_rem, kgO_and, kvI_inl, kvJ_inl, kgI_0, kgI_s, kgR_0, kgR_s, kst_nil, kst_0, kst_s, kNLl_nil, kNLl_i, kNLl_r, kNLl_n, ktag_i, ktag_r, List.length_cons, List.length_nil, List.take_succ_cons, List.take_zero, List.take_nil, List.nil_append, List.cons_append, decide_eq_true_eq, Bool.not_eq_true, Bool.not_eq_true', decide_eq_false_iff_not, ne_eq, Decidable.not_not, true_and, and_true, Nat.reduceAdd, Nat.reduceLeDiff, Nat.reduceEqDiff, Nat.le_refl, not_true_eq_false, not_false_eq_true, reduceIte, eq_self, Int.reduceNeg, Int.reduceEq, Int.reduceLT, Int.reduceLE, Nat.zero_le, Nat.one_ne_zero, ev_model, show s' 14 1 = (n : Int) by rw [U1 _ _ (by decide), m1 _ _ (by decide) (by decide), T1 _ _ (by decide) (by decide) (by decide)]; exact n1]
            · rintro i s' - hi ⟨U1, U2, U3⟩
              refine wpS_gen (fun Q7 hQ7 => ?_)
              have t1 : (300 * (b : Int) + i).toNat = 300 * b + i := by omega
              obtain ⟨y1, y2⟩ := k2.1 b i hb hi
              have e97 : s' 97 (300 * b + i) = s1 97 (300 * b + i) := by rw [U1 _ _ (by decide), m1 _ _ (by decide) (by decide), T1 _ _ (by decide) (by decide) (by decide)]
              have e3 : s' 103 i = lf i := by rw [U3 i (Nat.le_refl _)]; exact e103 i hi
              have li2 := lfb i
              have dri := dr i
              have fin : ∀ z : Int, z = (cntP (fun w => N i w ∧ ¬ (D w ∨ w = b)) n : Int) → Q7 rN [some (.inr (.inl 14)), some (.inl (m' : Int)), some (.inl (k : Int)), some (.inl (b : Int)), some (.inl (i : Int))] (kup s' 103 i z) := by
                intro z hz
                rw [hQ7]
                refine kStep_N rfl ⟨rfl, fun o j ho => by rw [kup_ne ho]; exact U1 o j ho, fun v hv => ?_, fun v hv => ?_⟩
                · rw [kup_eq]
                  by_cases e : v = i
                  · rw [if_pos e, e]; exact hz
                  · rw [if_neg e]; exact U2 v (by omega)
                · rw [kup_eq, if_neg (by omega)]; exact U3 v (by omega)
              by_cases h97 : s1 97 (300 * b + i) = 0
              · have hnn : ¬ N i b := fun q => by have := y2.mpr (hNs _ _ q); omega
                rw [if_neg hnn] at dri
                simp only [wpS_skip, wpS_break, wpS_cont, wpS_retV, wpS_throw, wpS_seq, wpS_if, wpS_trunc, yS_let, yS_inc, kgK_i, kgK_r, kok_nil, kok_i0, kok_is, kok_r0, kok_rs, kok_n0, kok_ns, xS_put, xS_putOp, xS_ast0, xS_ast1, xS_astOp, wpS_E, wpS_call, wpS_callS, wpS_ret, kThen_N, kThen_B, kThen_C, kThen_R, kThen_T, kNext_N, kNext_C, kNext_B, kNext_R, wpE_K, wpE_KL, xE_I, xE_R, wpE_J, xE_bin, wpE_ladd, wpE_i2l, xE_get, xE_ald0, xE_ald1, wpE_if, xE_max, xE_min, wpE_len, wpA_nil, wpA_snoc, xE_call, xE_callS, xC_C, xC_L, xC_Z, wpC_and, wpC_or, wpC_not, wpC_if, kcmp_0, kcmp_1, kcmp_2, kcmp_3, kcmp_4, kcmp_5, rR_inj, kgO_some, kgO_add, kgO_sub, kgO_mul, kgO_div, kgO_rem, kgO_and, kvI_inl, kvJ_inl, kgI_0, kgI_s, kgR_0, kgR_s, kst_nil, kst_0, kst_s, kNLl_nil, kNLl_i, kNLl_r, kNLl_n, ktag_i, ktag_r, List.length_cons, List.length_nil, List.take_succ_cons, List.take_zero, List.take_nil, List.nil_append, List.cons_append, decide_eq_true_eq, Bool.not_eq_true, Bool.not_eq_true', decide_eq_false_iff_not, ne_eq, Decidable.not_not, true_and, and_true, Nat.reduceAdd, Nat.reduceLeDiff, Nat.reduceEqDiff, Nat.le_refl, not_true_eq_false, not_false_eq_true, reduceIte, eq_self, Int.reduceNeg, Int.reduceEq, Int.reduceLT, Int.reduceLE, Nat.zero_le, Nat.one_ne_zero, ev_model, ev_model_arr, Int.toNat_natCast, t1, e97, h97, e3, decide_true, decide_false, Bool.false_eq_true, if_true, if_false, true_and, and_true, not_true_eq_false, not_false_eq_true]
                repeat refine And.intro (by omega) ?_
                exact fin _ (by omega)
              · have hyy : N i b := hNs _ _ (y2.mp (by omega))
                rw [if_pos hyy] at dri
                simp only [wpS_skip, wpS_break, wpS_cont, wpS_retV, wpS_throw, wpS_seq, wpS_if, wpS_trunc, yS_let, yS_inc, kgK_i, kgK_r, kok_nil, kok_i0, kok_is, kok_r0, kok_rs, kok_n0, kok_ns, xS_put, xS_putOp, xS_ast0, xS_ast1, xS_astOp, wpS_E, wpS_call, wpS_callS, wpS_ret, kThen_N, kThen_B, kThen_C, kThen_R, kThen_T, kNext_N, kNext_C, kNext_B, kNext_R, wpE_K, wpE_KL, xE_I, xE_R, wpE_J, xE_bin, wpE_ladd, wpE_i2l, xE_get, xE_ald0, xE_ald1, wpE_if, xE_max, xE_min, wpE_len, wpA_nil, wpA_snoc, xE_call, xE_callS, xC_C, xC_L, xC_Z, wpC_and, wpC_or, wpC_not, wpC_if, kcmp_0, kcmp_1, kcmp_2, kcmp_3, kcmp_4, kcmp_5, rR_inj, kgO_some, kgO_add, kgO_sub, kgO_mul, kgO_div, kgO_rem, kgO_and, kvI_inl, kvJ_inl, kgI_0, kgI_s, kgR_0, kgR_s, kst_nil, kst_0, kst_s, kNLl_nil, kNLl_i, kNLl_r, kNLl_n, ktag_i, ktag_r, List.length_cons, List.length_nil, List.take_succ_cons, List.take_zero, List.take_nil, List.nil_append, List.cons_append, decide_eq_true_eq, Bool.not_eq_true, Bool.not_eq_true', decide_eq_false_iff_not, ne_eq, Decidable.not_not, true_and, and_true, Nat.reduceAdd, Nat.reduceLeDiff, Nat.reduceEqDiff, Nat.le_refl, not_true_eq_false, not_false_eq_true, reduceIte, eq_self, Int.reduceNeg, Int.reduceEq, Int.reduceLT, Int.reduceLE, Nat.zero_le, Nat.one_ne_zero, ev_model, ev_model_arr, Int.toNat_natCast, t1, e97, h97, e3, decide_true, decide_false, Bool.false_eq_true, if_true, if_false, true_and, and_true, not_true_eq_false, not_false_eq_true]
                repeat refine And.intro (by omega) ?_
                exact fin _ (by omega)
            · rintro s4 ⟨U1, U2, U3⟩
              have up : ∀ v, v < n → ¬ D v → kcr n N m' v := by
                intro v hv hd
                rcases hm2 with ⟨h1, h2⟩ | ⟨h1, h2⟩
                · rw [h2]
                  refine ⟨fun u => u < n ∧ ¬ D u, ⟨hv, hd⟩, fun u hu => ⟨hu.1, ?_⟩⟩
                  have a1 := hmin u hu.1 hu.2
                  have a2 : lf u ≤ cntP (fun w => N u w ∧ w < n ∧ ¬ D w) n := by rw [hlf]; exact cntP_le (fun w hw q => ⟨q.1, hw, q.2⟩)
                  show _ ≤ cntP (fun w => N u w ∧ w < n ∧ ¬ D w) n
                  omega
                · rw [h2]; exact I3 v hv hd
              have dn : ¬ kcr n N (m' + 1) b := by
                intro hcr
                have h1 := (kcr_clo b hcr).2
                have h2 : cntP (fun w => N b w ∧ kcr n N (m' + 1) w) n ≤ lf b := by
                  rw [hlf]
                  exact cntP_le (fun w hw q => ⟨q.1, fun hd => I4 w hd (kcr_anti q.2 (by omega))⟩)
                omega
              rw [hQ6]
              refine kStep_N rfl ⟨m', fun v => D v ∨ v = b, rfl, fun o j o1 o2 o3 => by rw [U1 o j o3, m1 o j o1 o2]; exact T1 o j o1 o2 o3, fun v hv => ?_, ?_, fun v hv hd => up v hv (fun q => hd (Or.inl q)), fun v hd => ?_, fun v hv hd => ?_, by omega⟩
              · obtain ⟨x1, x2, x3⟩ := I1 v hv
                have e101 : s4 101 v = if v = b then 1 else s 101 v := by rw [U1 _ _ (by decide), m3]
                rw [e101, U2 v hv]
                by_cases e : v = b
                · rw [if_pos e]
                  exact ⟨Or.inr rfl, ⟨fun _ => Or.inr e, fun _ => rfl⟩, rfl⟩
                · rw [if_neg e]
                  exact ⟨x1, x2.trans ⟨Or.inl, fun q => q.elim id (fun q => absurd q e)⟩, rfl⟩
              · rw [cntP_insert hb hbd, I2]
              · rcases hd with q | rfl
                · exact fun h => I4 v q (kcr_anti h (by omega))
                · exact dn
              · have e102 : s4 102 v = if v = b then (m' : Int) else s 102 v := by rw [U1 _ _ (by decide), mm2]
                rw [e102]
                by_cases e : v = b
                · rw [if_pos e, e]
                  exact ⟨m', rfl, up b hb hbd, dn⟩
                · rw [if_neg e]
                  exact I5 v hv (hd.elim id (fun q => absurd q e))
          by_cases h : (m : Int) < (lf b : Int)
          · have e : m' = lf b := by rw [hm', if_pos (by omega)]
            rw [e] at go
            simp only [wpS_skip, wpS_break, wpS_cont, wpS_retV, wpS_throw, wpS_seq, wpS_if, wpS_trunc, yS_let, yS_inc, kgK_i, kgK_r, kok_nil, kok_i0, kok_is, kok_r0, kok_rs, kok_n0, kok_ns, xS_put, xS_putOp, xS_ast0, xS_ast1, xS_astOp, wpS_E, wpS_call, wpS_callS, wpS_ret, kThen_N, kThen_B, kThen_C, kThen_R, kThen_T, kNext_N, kNext_C, kNext_B, kNext_R, wpE_K, wpE_KL, xE_I, xE_R, wpE_J, xE_bin, wpE_ladd, wpE_i2l, xE_get, xE_ald0, xE_ald1, wpE_if, xE_max, xE_min, wpE_len, wpA_nil, wpA_snoc, xE_call, xE_callS, xC_C, xC_L, xC_Z, wpC_and, wpC_or, wpC_not, wpC_if, kcmp_0, kcmp_1, kcmp_2, kcmp_3, kcmp_4, kcmp_5, rR_inj, kgO_some, kgO_add, kgO_sub, kgO_mul, kgO_div, kgO_rem, kgO_and, kvI_inl, kvJ_inl, kgI_0, kgI_s, kgR_0, kgR_s, kst_nil, kst_0, kst_s, kNLl_nil, kNLl_i, kNLl_r, kNLl_n, ktag_i, ktag_r, List.length_cons, List.length_nil, List.take_succ_cons, List.take_zero, List.take_nil, List.nil_append, List.cons_append, decide_eq_true_eq, Bool.not_eq_true, Bool.not_eq_true', decide_eq_false_iff_not, ne_eq, Decidable.not_not, true_and, and_true, Nat.reduceAdd, Nat.reduceLeDiff, Nat.reduceEqDiff, Nat.le_refl, not_true_eq_false, not_false_eq_true, reduceIte, eq_self, Int.reduceNeg, Int.reduceEq, Int.reduceLT, Int.reduceLE, Nat.zero_le, Nat.one_ne_zero, ev_model, ev_model_arr, Int.toNat_natCast, e103b, h, decide_true, decide_false, Bool.false_eq_true, if_true, if_false, true_and, and_true, not_true_eq_false, not_false_eq_true]
            repeat refine And.intro (by omega) ?_
            exact go
          · have e : m' = m := by rw [hm', if_neg (by omega)]
            rw [e] at go
            simp only [wpS_skip, wpS_break, wpS_cont, wpS_retV, wpS_throw, wpS_seq, wpS_if, wpS_trunc, yS_let, yS_inc, kgK_i, kgK_r, kok_nil, kok_i0, kok_is, kok_r0, kok_rs, kok_n0, kok_ns, xS_put, xS_putOp, xS_ast0, xS_ast1, xS_astOp, wpS_E, wpS_call, wpS_callS, wpS_ret, kThen_N, kThen_B, kThen_C, kThen_R, kThen_T, kNext_N, kNext_C, kNext_B, kNext_R, wpE_K, wpE_KL, xE_I, xE_R, wpE_J, xE_bin, wpE_ladd, wpE_i2l, xE_get, xE_ald0, xE_ald1, wpE_if, xE_max, xE_min, wpE_len, wpA_nil, wpA_snoc, xE_call, xE_callS, xC_C, xC_L, xC_Z, wpC_and, wpC_or, wpC_not, wpC_if, kcmp_0, kcmp_1, kcmp_2, kcmp_3, kcmp_4, kcmp_5, rR_inj, kgO_some, kgO_add, kgO_sub, kgO_mul, kgO_div, kgO_rem, kgO_and, kvI_inl, kvJ_inl, kgI_0, kgI_s, kgR_0, kgR_s, kst_nil, kst_0, kst_s, kNLl_nil, kNLl_i, kNLl_r, kNLl_n, ktag_i, ktag_r, List.length_cons, List.length_nil, List.take_succ_cons, List.take_zero, List.take_nil, List.nil_append, List.cons_append, decide_eq_true_eq, Bool.not_eq_true, Bool.not_eq_true', decide_eq_false_iff_not, ne_eq, Decidable.not_not, true_and, and_true, Nat.reduceAdd, Nat.reduceLeDiff, Nat.reduceEqDiff, Nat.le_refl, not_true_eq_false, not_false_eq_true, reduceIte, eq_self, Int.reduceNeg, Int.reduceEq, Int.reduceLT, Int.reduceLE, Nat.zero_le, Nat.one_ne_zero, ev_model, ev_model_arr, Int.toNat_natCast, e103b, h, decide_true, decide_false, Bool.false_eq_true, if_true, if_false, true_and, and_true, not_true_eq_false, not_false_eq_true]
            repeat refine And.intro (by omega) ?_
            exact go
    · rintro P s ⟨m, D, rfl, T1, I1, I2, I3, I4, I5, I6⟩
      rw [hQ2]
      rw [hQ0]
      refine kThen_N.mpr (wpS_retV.mpr ⟨none, rfl, rfl, ?_⟩)
      refine ⟨rfl, fun o j ho => by unfold mSc at ho; rw [T1 o j (by omega) (by omega) (by omega), k1 o j (by omega) (by omega)], fun v hv => ?_⟩
      have hd : D v := by
        refine Classical.byContradiction fun hn => ?_
        have h1 := @cntP_not D n
        have h2 : 0 < cntP (fun v => ¬ D v) n := Nat.lt_of_le_of_lt (Nat.zero_le _) (cntP_lt (P := fun v => ¬ D v) hv hn)
        omega
      obtain ⟨k, q1, q2⟩ := I5 v hv hd
      refine ⟨k, q1, ?_, q2⟩
      have h1 := (kcr_clo v q2.1).2
      have h2 := @cntP_bound (fun w => N v w ∧ kcr n N k w) n
      omega
end MC
