/-! THE CLASS'S NEIGHBOURS -/
def nrP (n : Nat) (N : Nat → Nat → Prop) (m : Nat) (St Ne : Nat → Nat) : Prop := St 0 = 0 ∧ (∀ v, v < m → St v ≤ St (v + 1)) ∧ (∀ v i, v < m → St v ≤ i → i < St (v + 1) → N v (Ne i) ∧ Ne i < n) ∧ (∀ v i j, v < m → St v ≤ i → i < j → j < St (v + 1) → Ne i ≠ Ne j) ∧ (∀ v u, v < m → u < n → N v u → ∃ i, St v ≤ i ∧ i < St (v + 1) ∧ Ne i = u)
theorem nrP.mono {n m : Nat} {N : Nat → Nat → Prop} {St Ne : Nat → Nat} (h : nrP n N m St Ne) : ∀ {u v : Nat}, u ≤ v → v ≤ m → St u ≤ St v := by
  intro u v huv
  induction v with
  | zero => intro _; have : u = 0 := by omega
            subst this; exact Nat.le_refl _
  | succ v ih =>
    intro hv
    by_cases e : u = v + 1
    · subst e; exact Nat.le_refl _
    · have := ih (by omega) (by omega)
      have := h.2.1 v (by omega)
      omega
theorem nrP.deg {n m v : Nat} {N : Nat → Nat → Prop} {St Ne : Nat → Nat} (h : nrP n N m St Ne) (hv : v < m) : St (v + 1) = St v + cntP (N v) n := by
  have h1 := h.2.1 v hv
  have := (cntP_row (P := N v) (n := n) (q := fun k => Ne (St v + k)) (t := St (v + 1) - St v) (fun i hi => ⟨(h.2.2.1 v _ hv (by omega) (by omega)).2, (h.2.2.1 v _ hv (by omega) (by omega)).1⟩) (fun i j hi hj e => by
    have e2 : Ne (St v + i) = Ne (St v + j) := e
    rcases Nat.lt_trichotomy i j with w | w | w
    · exact absurd e2 (h.2.2.2.1 v _ _ hv (by omega) (by omega) (by omega))
    · exact w
    · exact absurd e2.symm (h.2.2.2.1 v _ _ hv (by omega) (by omega) (by omega)))).2 (fun u hu hp => by
    obtain ⟨i, i1, i2, i3⟩ := h.2.2.2.2 v u hv hu hp
    exact ⟨i - St v, by omega, by rw [show St v + (i - St v) = i by omega]; exact i3⟩)
  omega
/-- the arrays of neighbours -/
def Sr (s : kS) (st ne n : Nat) (St Ne : Nat → Nat) : Prop := (∀ v, v ≤ n → s st v = (St v : Int)) ∧ (∀ i, i < St n → s ne i = (Ne i : Int)) ∧ St n ≤ 1800
theorem sidesFindNear_ok {σ : kS} {n c ar : Nat} {li fs sn : Nat → Nat} (hG : gOk n c ar li fs sn) (hW : Wb σ n c ar li fs sn) :
    wpF F_Sides_findNear [.inr (.inl 9)] σ (fun r s => r = none ∧ (∀ o k, o ≠ 45 → o ≠ 46 → o ≠ 48 → s o k = σ o k) ∧ ∃ St Ne, Sr s 45 46 n St Ne ∧ nrP n (nbr (th c li) fs sn) n St Ne) := by
  have hn3 := hG.1
  have hc9 := hG.2.1
  obtain ⟨N, hN⟩ : ∃ N, N = nbr (th c li) fs sn := ⟨_, rfl⟩
  rw [← hN]
  obtain ⟨w1, w2, w3, w4, w5, w6, w7, Fo, So, Fi, Si, w8, w9, w10, w11⟩ := id hW
  unfold F_Sides_findNear
  rw [wpF_kF]
  refine ⟨rfl, rfl, ?_⟩
  unfold s_Sides_findNear
  simp only [List.map_cons, List.map_nil]
  refine wpS_seq' (fun Q0 hQ0 => ?_)
  refine wpS_seq' (fun Q101 hQ101 => ?_)
  simp only [wpS_skip, wpS_break, wpS_cont, wpS_retV, wpS_throw, wpS_seq, wpS_if, wpS_trunc, yS_let, yS_inc, kgK_i, kgK_r, kok_nil, kok_i0, kok_is, kok_r0, kok_rs, kok_n0, kok_ns, xS_put, xS_putOp, xS_ast0, xS_ast1, xS_astOp, wpS_E, wpS_call, wpS_callS, wpS_ret, kThen_N, kThen_B, kThen_C, kThen_R, kThen_T, kNext_N, kNext_C, kNext_B, kNext_R, wpE_K, wpE_KL, xE_I, xE_R, wpE_J, xE_bin, wpE_ladd, wpE_i2l, xE_get, xE_ald0, xE_ald1, wpE_if, xE_max, xE_min, wpE_len, wpA_nil, wpA_snoc, xE_call, xE_callS, xC_C, xC_L, xC_Z, wpC_and, wpC_or, wpC_not, wpC_if, kcmp_0, kcmp_1, kcmp_2, kcmp_3, kcmp_4, kcmp_5, rR_inj, kgO_some, kgO_add, kgO_sub, kgO_mul, kgO_div, kgO_rem, kgO_and, kvI_inl, kvJ_inl, kgI_0, kgI_s, kgR_0, kgR_s, kst_nil, kst_0, kst_s, kNLl_nil, kNLl_i, kNLl_r, kNLl_n, ktag_i, ktag_r, List.length_cons, List.length_nil, List.take_succ_cons, List.take_zero, List.take_nil, List.nil_append, List.cons_append, decide_eq_true_eq, Bool.not_eq_true, Bool.not_eq_true', decide_eq_false_iff_not, ne_eq, Decidable.not_not, true_and, and_true, Nat.reduceAdd, Nat.reduceLeDiff, Nat.reduceEqDiff, Nat.le_refl, not_true_eq_false, not_false_eq_true, reduceIte, eq_self, Int.reduceNeg, Int.reduceEq, Int.reduceLT, Int.reduceLE, Nat.zero_le, Nat.one_ne_zero, ev_sides, ev_sides_arr]
  refine (fill_ok (n := 300) (by omega) rfl rfl).mono ?_
  rintro r s0 ⟨rfl, hs0⟩
  refine ⟨rfl, ?_⟩
  rw [hQ101]
  clear hQ101
  refine kThen_N.mpr ?_
  have f1 : ∀ o k, o ≠ 48 → s0 o k = σ o k := by intro o k ho; rw [hs0]; unfold kfill; rw [if_neg (fun q => ho q.1)]
  have f2 : ∀ v, v < 300 → s0 48 v = -1 := by intro v hv; rw [hs0]; unfold kfill; rw [if_pos ⟨rfl, hv⟩]
  clear hs0
  refine wpS_seq' (fun Q102 hQ102 => ?_)
  simp only [wpS_skip, wpS_break, wpS_cont, wpS_retV, wpS_throw, wpS_seq, wpS_if, wpS_trunc, yS_let, yS_inc, kgK_i, kgK_r, kok_nil, kok_i0, kok_is, kok_r0, kok_rs, kok_n0, kok_ns, xS_put, xS_putOp, xS_ast0, xS_ast1, xS_astOp, wpS_E, wpS_call, wpS_callS, wpS_ret, kThen_N, kThen_B, kThen_C, kThen_R, kThen_T, kNext_N, kNext_C, kNext_B, kNext_R, wpE_K, wpE_KL, xE_I, xE_R, wpE_J, xE_bin, wpE_ladd, wpE_i2l, xE_get, xE_ald0, xE_ald1, wpE_if, xE_max, xE_min, wpE_len, wpA_nil, wpA_snoc, xE_call, xE_callS, xC_C, xC_L, xC_Z, wpC_and, wpC_or, wpC_not, wpC_if, kcmp_0, kcmp_1, kcmp_2, kcmp_3, kcmp_4, kcmp_5, rR_inj, kgO_some, kgO_add, kgO_sub, kgO_mul, kgO_div, kgO_rem, kgO_and, kvI_inl, kvJ_inl, kgI_0, kgI_s, kgR_0, kgR_s, kst_nil, kst_0, kst_s, kNLl_nil, kNLl_i, kNLl_r, kNLl_n, ktag_i, ktag_r, List.length_cons, List.length_nil, List.take_succ_cons, List.take_zero, List.take_nil, List.nil_append, List.cons_append, decide_eq_true_eq, Bool.not_eq_true, Bool.not_eq_true', decide_eq_false_iff_not, ne_eq, Decidable.not_not, true_and, and_true, Nat.reduceAdd, Nat.reduceLeDiff, Nat.reduceEqDiff, Nat.le_refl, not_true_eq_false, not_false_eq_true, reduceIte, eq_self, Int.reduceNeg, Int.reduceEq, Int.reduceLT, Int.reduceLE, Nat.zero_le, Nat.one_ne_zero]
  repeat refine And.intro (by omega) ?_
  rw [hQ102]
  clear hQ102 Q102
  refine kThen_N.mpr ?_
  refine wpS_seq' (fun Q1 hQ1 => ?_)
  unfold l_Sides_findNear_2
  refine wpS_fort (fun v P s => ∃ (St Ne : Nat → Nat), P = [some (.inr (.inl 9)), some (.inl (St v : Int))] ∧ (∀ o k, o ≠ 45 → o ≠ 46 → o ≠ 48 → s o k = σ o k) ∧ (∀ w, w < v → s 45 w = (St w : Int)) ∧ (∀ i, i < St v → s 46 i = (Ne i : Int)) ∧ nrP n N v St Ne ∧ (∀ u, u < n → s 48 u < (v : Int)) ∧ St v ≤ So v + Si v) 0 n rfl rfl ?_ ?_ ?_ ?_ ?_ ?_ ?_
  · simp only [wpS_skip, wpS_break, wpS_cont, wpS_retV, wpS_throw, wpS_seq, wpS_if, wpS_trunc, yS_let, yS_inc, kgK_i, kgK_r, kok_nil, kok_i0, kok_is, kok_r0, kok_rs, kok_n0, kok_ns, xS_put, xS_putOp, xS_ast0, xS_ast1, xS_astOp, wpS_E, wpS_call, wpS_callS, wpS_ret, kThen_N, kThen_B, kThen_C, kThen_R, kThen_T, kNext_N, kNext_C, kNext_B, kNext_R, wpE_K, wpE_KL, xE_I, xE_R, wpE_J, xE_bin, wpE_ladd, wpE_i2l, xE_get, xE_ald0, xE_ald1, wpE_if, xE_max, xE_min, wpE_len, wpA_nil, wpA_snoc, xE_call, xE_callS, xC_C, xC_L, xC_Z, wpC_and, wpC_or, wpC_not, wpC_if, kcmp_0, kcmp_1, kcmp_2, kcmp_3, kcmp_4, kcmp_5, rR_inj, kgO_some, kgO_add, kgO_sub, kgO_mul, kgO_div, kgO_rem, kgO_and, kvI_inl, kvJ_inl, kgI_0, kgI_s, kgR_0, kgR_s, kst_nil, kst_0, kst_s, kNLl_nil, kNLl_i, kNLl_r, kNLl_n, ktag_i, ktag_r, List.length_cons, List.length_nil, List.take_succ_cons, List.take_zero, List.take_nil, List.nil_append, List.cons_append, decide_eq_true_eq, Bool.not_eq_true, Bool.not_eq_true', decide_eq_false_iff_not, ne_eq, Decidable.not_not, true_and, and_true, Nat.reduceAdd, Nat.reduceLeDiff, Nat.reduceEqDiff, Nat.le_refl, not_true_eq_false, not_false_eq_true, reduceIte, eq_self, Int.reduceNeg, Int.reduceEq, Int.reduceLT, Int.reduceLE, Nat.zero_le, Nat.one_ne_zero]; trivial
  · omega
  · exact ⟨fun _ => 0, fun _ => 0, rfl, fun o k _ _ o3 => f1 o k o3, fun w hw => by omega, fun i hi => absurd hi (Nat.not_lt_zero i), ⟨rfl, fun v hv => by omega, fun v i hv => by omega, fun v i j hv => by omega, fun v u hv => by omega⟩, fun u hu => by rw [f2 u (by omega)]; decide, Nat.zero_le _⟩
  · rintro v P s ⟨St, Ne, rfl, -⟩; exact ⟨rfl, rfl⟩
  · rintro v P s - - ⟨St, Ne, rfl, S1, -⟩
    simp only [wpS_skip, wpS_break, wpS_cont, wpS_retV, wpS_throw, wpS_seq, wpS_if, wpS_trunc, yS_let, yS_inc, kgK_i, kgK_r, kok_nil, kok_i0, kok_is, kok_r0, kok_rs, kok_n0, kok_ns, xS_put, xS_putOp, xS_ast0, xS_ast1, xS_astOp, wpS_E, wpS_call, wpS_callS, wpS_ret, kThen_N, kThen_B, kThen_C, kThen_R, kThen_T, kNext_N, kNext_C, kNext_B, kNext_R, wpE_K, wpE_KL, xE_I, xE_R, wpE_J, xE_bin, wpE_ladd, wpE_i2l, xE_get, xE_ald0, xE_ald1, wpE_if, xE_max, xE_min, wpE_len, wpA_nil, wpA_snoc, xE_call, xE_callS, xC_C, xC_L, xC_Z, wpC_and, wpC_or, wpC_not, wpC_if, kcmp_0, kcmp_1, kcmp_2, kcmp_3, kcmp_4, kcmp_5, rR_inj, kgO_some, kgO_add, kgO_sub, kgO_mul, kgO_div, kgO_rem, kgO_and, kvI_inl, kvJ_inl, kgI_0, kgI_s, kgR_0, kgR_s, kst_nil, kst_0, kst_s, kNLl_nil, kNLl_i, kNLl_r, kNLl_n, ktag_i, ktag_r, List.length_cons, List.length_nil, List.take_succ_cons, List.take_zero, List.take_nil, List.nil_append, List.cons_append, decide_eq_true_eq, Bool.not_eq_true, Bool.not_eq_true', decide_eq_false_iff_not, ne_eq, Decidable.not_not, true_and, and_true, Nat.reduceAdd, Nat.reduceLeDiff, Nat.reduceEqDiff, Nat.le_refl, not_true_eq_false, not_false_eq_true, reduceIte, eq_self, Int.reduceNeg, Int.reduceEq, Int.reduceLT, Int.reduceLE, Nat.zero_le, Nat.one_ne_zero, ev_sides, ev_web, show s 1 3 = (n : Int) by rw [S1 _ _ (by decide) (by decide) (by decide)]; exact w1]
  · rintro v P s - hv ⟨St, Ne, rfl, S1, S2, S3, S4, S5, S6⟩
    obtain ⟨c0, hc0⟩ : ∃ c0, c0 = St v := ⟨_, rfl⟩
    rw [← hc0] at S3 S6 ⊢
    have a1 := fan_le w9 (show v ≤ n by omega)
    have a2 := fan_le w11 (show v ≤ n by omega)
    have a3 := fan_le w9 (show v + 1 ≤ n from hv)
    have a4 := fan_le w11 (show v + 1 ≤ n from hv)
    have a5 := w9.2.2.1 v hv
    have a6 := w11.2.2.1 v hv
    have hdg : dgr So Si v = So (v + 1) - So v + (Si (v + 1) - Si v) := rfl
    obtain ⟨D, hD⟩ : ∃ D, D = dgr So Si v := ⟨_, rfl⟩
    have hD18 : c0 + D ≤ 1800 ∧ c0 + D ≤ So (v + 1) + Si (v + 1) := by omega
    rw [wpS_trunc]
    refine wpS_seq' (fun Q103 hQ103 => ?_)
    simp only [wpS_skip, wpS_break, wpS_cont, wpS_retV, wpS_throw, wpS_seq, wpS_if, wpS_trunc, yS_let, yS_inc, kgK_i, kgK_r, kok_nil, kok_i0, kok_is, kok_r0, kok_rs, kok_n0, kok_ns, xS_put, xS_putOp, xS_ast0, xS_ast1, xS_astOp, wpS_E, wpS_call, wpS_callS, wpS_ret, kThen_N, kThen_B, kThen_C, kThen_R, kThen_T, kNext_N, kNext_C, kNext_B, kNext_R, wpE_K, wpE_KL, xE_I, xE_R, wpE_J, xE_bin, wpE_ladd, wpE_i2l, xE_get, xE_ald0, xE_ald1, wpE_if, xE_max, xE_min, wpE_len, wpA_nil, wpA_snoc, xE_call, xE_callS, xC_C, xC_L, xC_Z, wpC_and, wpC_or, wpC_not, wpC_if, kcmp_0, kcmp_1, kcmp_2, kcmp_3, kcmp_4, kcmp_5, rR_inj, kgO_some, kgO_add, kgO_sub, kgO_mul, kgO_div, kgO_rem, kgO_and, kvI_inl, kvJ_inl, kgI_0, kgI_s, kgR_0, kgR_s, kst_nil, kst_0, kst_s, kNLl_nil, kNLl_i, kNLl_r, kNLl_n, ktag_i, ktag_r, List.length_cons, List.length_nil, List.take_succ_cons, List.take_zero, List.take_nil, List.nil_append, List.cons_append, decide_eq_true_eq, Bool.not_eq_true, Bool.not_eq_true', decide_eq_false_iff_not, ne_eq, Decidable.not_not, true_and, and_true, Nat.reduceAdd, Nat.reduceLeDiff, Nat.reduceEqDiff, Nat.le_refl, not_true_eq_false, not_false_eq_true, reduceIte, eq_self, Int.reduceNeg, Int.reduceEq, Int.reduceLT, Int.reduceLE, Nat.zero_le, Nat.one_ne_zero, ev_sides, ev_sides_arr, Int.toNat_natCast]
    repeat refine And.intro (by omega) ?_
    rw [hQ103]
    clear hQ103 Q103
    refine kThen_N.mpr ?_
    refine wpS_seq' (fun Q104 hQ104 => ?_)
    simp only [wpS_skip, wpS_break, wpS_cont, wpS_retV, wpS_throw, wpS_seq, wpS_if, wpS_trunc, yS_let, yS_inc, kgK_i, kgK_r, kok_nil, kok_i0, kok_is, kok_r0, kok_rs, kok_n0, kok_ns, xS_put, xS_putOp, xS_ast0, xS_ast1, xS_astOp, wpS_E, wpS_call, wpS_callS, wpS_ret, kThen_N, kThen_B, kThen_C, kThen_R, kThen_T, kNext_N, kNext_C, kNext_B, kNext_R, wpE_K, wpE_KL, xE_I, xE_R, wpE_J, xE_bin, wpE_ladd, wpE_i2l, xE_get, xE_ald0, xE_ald1, wpE_if, xE_max, xE_min, wpE_len, wpA_nil, wpA_snoc, xE_call, xE_callS, xC_C, xC_L, xC_Z, wpC_and, wpC_or, wpC_not, wpC_if, kcmp_0, kcmp_1, kcmp_2, kcmp_3, kcmp_4, kcmp_5, rR_inj, kgO_some, kgO_add, kgO_sub, kgO_mul, kgO_div, kgO_rem, kgO_and, kvI_inl, kvJ_inl, kgI_0, kgI_s, kgR_0, kgR_s, kst_nil, kst_0, kst_s, kNLl_nil, kNLl_i, kNLl_r, kNLl_n, ktag_i, ktag_r, List.length_cons, List.length_nil, List.take_succ_cons, List.take_zero, List.take_nil, List.nil_append, List.cons_append, decide_eq_true_eq, Bool.not_eq_true, Bool.not_eq_true', decide_eq_false_iff_not, ne_eq, Decidable.not_not, true_and, and_true, Nat.reduceAdd, Nat.reduceLeDiff, Nat.reduceEqDiff, Nat.le_refl, not_true_eq_false, not_false_eq_true, reduceIte, eq_self, Int.reduceNeg, Int.reduceEq, Int.reduceLT, Int.reduceLE, Nat.zero_le, Nat.one_ne_zero, ev_sides, ev_sides_arr, Int.toNat_natCast]
    repeat refine And.intro (by omega) ?_
    rw [hQ104]
    clear hQ104 Q104
    refine kThen_N.mpr ?_
    obtain ⟨s1, hs1⟩ : ∃ s1, s1 = kup (kup s 45 v (c0 : Int)) 48 v (v : Int) := ⟨_, rfl⟩
    rw [← hs1]
    have k1 : ∀ o k, o ≠ 45 → o ≠ 48 → s1 o k = s o k := by intro o k o1 o2; rw [hs1, kup_ne o2, kup_ne o1]
    have k2 : ∀ w, s1 45 w = if w = v then (c0 : Int) else s 45 w := by intro w; rw [hs1, kup_ne (by decide), kup_eq]
    have k3 : ∀ w, s1 48 w = if w = v then (v : Int) else s 48 w := by intro w; rw [hs1, kup_eq, kup_ne (by decide)]
    clear hs1
    have g8 := w8.agree (s' := s1) (fun k => by rw [k1 _ _ (by decide) (by decide)]; exact S1 _ _ (by decide) (by decide) (by decide)) (fun k => by rw [k1 _ _ (by decide) (by decide)]; exact S1 _ _ (by decide) (by decide) (by decide)) (fun k => by rw [k1 _ _ (by decide) (by decide)]; exact S1 _ _ (by decide) (by decide) (by decide))
    have g10 := w10.agree (s' := s1) (fun k => by rw [k1 _ _ (by decide) (by decide)]; exact S1 _ _ (by decide) (by decide) (by decide)) (fun k => by rw [k1 _ _ (by decide) (by decide)]; exact S1 _ _ (by decide) (by decide) (by decide)) (fun k => by rw [k1 _ _ (by decide) (by decide)]; exact S1 _ _ (by decide) (by decide) (by decide))
    refine wpS_seq' (fun Q105 hQ105 => ?_)
    simp only [wpS_skip, wpS_break, wpS_cont, wpS_retV, wpS_throw, wpS_seq, wpS_if, wpS_trunc, yS_let, yS_inc, kgK_i, kgK_r, kok_nil, kok_i0, kok_is, kok_r0, kok_rs, kok_n0, kok_ns, xS_put, xS_putOp, xS_ast0, xS_ast1, xS_astOp, wpS_E, wpS_call, wpS_callS, wpS_ret, kThen_N, kThen_B, kThen_C, kThen_R, kThen_T, kNext_N, kNext_C, kNext_B, kNext_R, wpE_K, wpE_KL, xE_I, xE_R, wpE_J, xE_bin, wpE_ladd, wpE_i2l, xE_get, xE_ald0, xE_ald1, wpE_if, xE_max, xE_min, wpE_len, wpA_nil, wpA_snoc, xE_call, xE_callS, xC_C, xC_L, xC_Z, wpC_and, wpC_or, wpC_not, wpC_if, kcmp_0, kcmp_1, kcmp_2, kcmp_3, kcmp_4, kcmp_5, rR_inj, kgO_some, kgO_add, kgO_sub, kgO_mul, kgO_div, kgO_rem, kgO_and, kvI_inl, kvJ_inl, kgI_0, kgI_s, kgR_0, kgR_s, kst_nil, kst_0, kst_s, kNLl_nil, kNLl_i, kNLl_r, kNLl_n, ktag_i, ktag_r, List.length_cons, List.length_nil, List.take_succ_cons, List.take_zero, List.take_nil, List.nil_append, List.cons_append, decide_eq_true_eq, Bool.not_eq_true, Bool.not_eq_true', decide_eq_false_iff_not, ne_eq, Decidable.not_not, true_and, and_true, Nat.reduceAdd, Nat.reduceLeDiff, Nat.reduceEqDiff, Nat.le_refl, not_true_eq_false, not_false_eq_true, reduceIte, eq_self, Int.reduceNeg, Int.reduceEq, Int.reduceLT, Int.reduceLE, Nat.zero_le, Nat.one_ne_zero, ev_sides, ev_web]
    refine (webDegree_ok g8 w9 g10 w11 hn3 hc9 hv).mono ?_
    rintro r s' ⟨hs, rfl⟩
    subst s'
    rw [kgO_some, ← hD]
    simp only [wpS_skip, wpS_break, wpS_cont, wpS_retV, wpS_throw, wpS_seq, wpS_if, wpS_trunc, yS_let, yS_inc, kgK_i, kgK_r, kok_nil, kok_i0, kok_is, kok_r0, kok_rs, kok_n0, kok_ns, xS_put, xS_putOp, xS_ast0, xS_ast1, xS_astOp, wpS_E, wpS_call, wpS_callS, wpS_ret, kThen_N, kThen_B, kThen_C, kThen_R, kThen_T, kNext_N, kNext_C, kNext_B, kNext_R, wpE_K, wpE_KL, xE_I, xE_R, wpE_J, xE_bin, wpE_ladd, wpE_i2l, xE_get, xE_ald0, xE_ald1, wpE_if, xE_max, xE_min, wpE_len, wpA_nil, wpA_snoc, xE_call, xE_callS, xC_C, xC_L, xC_Z, wpC_and, wpC_or, wpC_not, wpC_if, kcmp_0, kcmp_1, kcmp_2, kcmp_3, kcmp_4, kcmp_5, rR_inj, kgO_some, kgO_add, kgO_sub, kgO_mul, kgO_div, kgO_rem, kgO_and, kvI_inl, kvJ_inl, kgI_0, kgI_s, kgR_0, kgR_s, kst_nil, kst_0, kst_s, kNLl_nil, kNLl_i, kNLl_r, kNLl_n, ktag_i, ktag_r, List.length_cons, List.length_nil, List.take_succ_cons, List.take_zero, List.take_nil, List.nil_append, List.cons_append, decide_eq_true_eq, Bool.not_eq_true, Bool.not_eq_true', decide_eq_false_iff_not, ne_eq, Decidable.not_not, true_and, and_true, Nat.reduceAdd, Nat.reduceLeDiff, Nat.reduceEqDiff, Nat.le_refl, not_true_eq_false, not_false_eq_true, reduceIte, eq_self, Int.reduceNeg, Int.reduceEq, Int.reduceLT, Int.reduceLE, Nat.zero_le, Nat.one_ne_zero]
    rw [hQ105]
    clear hQ105
    refine kThen_N.mpr ?_
    refine wpS_gen (fun Q2 hQ2 => ?_)
    unfold l_Sides_findNear_1
    refine wpS_fort (fun k P s2 => ∃ (cn : Nat) (Nx : Nat → Nat), P = [some (.inr (.inl 9)), some (.inl (cn : Int)), some (.inl (v : Int)), some (.inl (D : Int))] ∧ (∀ o k, o ≠ 46 → o ≠ 48 → s2 o k = s1 o k) ∧ c0 ≤ cn ∧ cn ≤ c0 + k ∧ (∀ i, i < cn → s2 46 i = (Nx i : Int)) ∧ (∀ i, i < c0 → Nx i = Ne i) ∧
      (∀ i, c0 ≤ i → i < cn → Nx i ≠ v ∧ ∃ j, j < k ∧ othr fs sn (atK Fo So Fi Si v j) v = Nx i) ∧ (∀ i j, c0 ≤ i → i < j → j < cn → Nx i ≠ Nx j) ∧ (∀ j, j < k → othr fs sn (atK Fo So Fi Si v j) v ≠ v → ∃ i, c0 ≤ i ∧ i < cn ∧ Nx i = othr fs sn (atK Fo So Fi Si v j) v) ∧
      (∀ u, u < n → s2 48 u ≤ (v : Int) ∧ (s2 48 u = (v : Int) ↔ (u = v ∨ ∃ i, c0 ≤ i ∧ i < cn ∧ Nx i = u)))) 0 D rfl rfl ?_ ?_ ?_ ?_ ?_ ?_ ?_
    · simp only [wpS_skip, wpS_break, wpS_cont, wpS_retV, wpS_throw, wpS_seq, wpS_if, wpS_trunc, yS_let, yS_inc, kgK_i, kgK_r, kok_nil, kok_i0, kok_is, kok_r0, kok_rs, kok_n0, kok_ns, xS_put, xS_putOp, xS_ast0, xS_ast1, xS_astOp, wpS_E, wpS_call, wpS_callS, wpS_ret, kThen_N, kThen_B, kThen_C, kThen_R, kThen_T, kNext_N, kNext_C, kNext_B, kNext_R, wpE_K, wpE_KL, xE_I, xE_R, wpE_J, xE_bin, wpE_ladd, wpE_i2l, xE_get, xE_ald0, xE_ald1, wpE_if, xE_max, xE_min, wpE_len, wpA_nil, wpA_snoc, xE_call, xE_callS, xC_C, xC_L, xC_Z, wpC_and, wpC_or, wpC_not, wpC_if, kcmp_0, kcmp_1, kcmp_2, kcmp_3, kcmp_4, kcmp_5, rR_inj, kgO_some, kgO_add, kgO_sub, kgO_mul, kgO_div, kgO_rem, kgO_and, kvI_inl, kvJ_inl, kgI_0, kgI_s, kgR_0, kgR_s, kst_nil, kst_0, kst_s, kNLl_nil, kNLl_i, kNLl_r, kNLl_n, ktag_i, ktag_r, List.length_cons, List.length_nil, List.take_succ_cons, List.take_zero, List.take_nil, List.nil_append, List.cons_append, decide_eq_true_eq, Bool.not_eq_true, Bool.not_eq_true', decide_eq_false_iff_not, ne_eq, Decidable.not_not, true_and, and_true, Nat.reduceAdd, Nat.reduceLeDiff, Nat.reduceEqDiff, Nat.le_refl, not_true_eq_false, not_false_eq_true, reduceIte, eq_self, Int.reduceNeg, Int.reduceEq, Int.reduceLT, Int.reduceLE, Nat.zero_le, Nat.one_ne_zero]; trivial
    · omega
    · refine ⟨c0, Ne, rfl, fun _ _ _ _ => rfl, Nat.le_refl _, Nat.le_refl _, fun i hi => by rw [k1 _ _ (by decide) (by decide)]; exact S3 i hi, fun _ _ => rfl, fun i h1 h2 => by omega, fun i j h1 h2 => by omega, fun j hj => by omega, fun u hu => ?_⟩
      rw [k3]
      by_cases e : u = v
      · rw [if_pos e]; exact ⟨Int.le_refl _, fun _ => Or.inl e, fun _ => rfl⟩
      · rw [if_neg e]
        have := S5 u hu
        exact ⟨by omega, fun q => by omega, fun q => q.elim (fun q => absurd q e) (fun ⟨i, h1, h2, _⟩ => by omega)⟩
    · rintro k P s2 ⟨cn, Nx, rfl, -⟩; exact ⟨rfl, rfl⟩
    · rintro k P s2 - - ⟨cn, Nx, rfl, -⟩
      simp only [wpS_skip, wpS_break, wpS_cont, wpS_retV, wpS_throw, wpS_seq, wpS_if, wpS_trunc, yS_let, yS_inc, kgK_i, kgK_r, kok_nil, kok_i0, kok_is, kok_r0, kok_rs, kok_n0, kok_ns, xS_put, xS_putOp, xS_ast0, xS_ast1, xS_astOp, wpS_E, wpS_call, wpS_callS, wpS_ret, kThen_N, kThen_B, kThen_C, kThen_R, kThen_T, kNext_N, kNext_C, kNext_B, kNext_R, wpE_K, wpE_KL, xE_I, xE_R, wpE_J, xE_bin, wpE_ladd, wpE_i2l, xE_get, xE_ald0, xE_ald1, wpE_if, xE_max, xE_min, wpE_len, wpA_nil, wpA_snoc, xE_call, xE_callS, xC_C, xC_L, xC_Z, wpC_and, wpC_or, wpC_not, wpC_if, kcmp_0, kcmp_1, kcmp_2, kcmp_3, kcmp_4, kcmp_5, rR_inj, kgO_some, kgO_add, kgO_sub, kgO_mul, kgO_div, kgO_rem, kgO_and, kvI_inl, kvJ_inl, kgI_0, kgI_s, kgR_0, kgR_s, kst_nil, kst_0, kst_s, kNLl_nil, kNLl_i, kNLl_r, kNLl_n, ktag_i, ktag_r, List.length_cons, List.length_nil, List.take_succ_cons, List.take_zero, List.take_nil, List.nil_append, List.cons_append, decide_eq_true_eq, Bool.not_eq_true, Bool.not_eq_true', decide_eq_false_iff_not, ne_eq, Decidable.not_not, true_and, and_true, Nat.reduceAdd, Nat.reduceLeDiff, Nat.reduceEqDiff, Nat.le_refl, not_true_eq_false, not_false_eq_true, reduceIte, eq_self, Int.reduceNeg, Int.reduceEq, Int.reduceLT, Int.reduceLE, Nat.zero_le, Nat.one_ne_zero]
    · rintro k P s2 - hk ⟨cn, Nx, rfl, T1, T2, T3, T4, T5, T6, T7, T8, T9⟩
      have hkd : k < dgr So Si v := by rw [← hD]; exact hk
      obtain ⟨x, hx⟩ : ∃ x, x = atK Fo So Fi Si v k := ⟨_, rfl⟩
      obtain ⟨hxt, hxe⟩ := at_there w9 w11 hv hkd
      rw [← hx] at hxt hxe
      obtain ⟨x1, x2, x3, x4⟩ := th_lt hG hxt
      have ho := othr_lt hG (v := v) hxt
      have h8 := g8.agree (s' := s2) (fun k => T1 _ _ (by decide) (by decide)) (fun k => T1 _ _ (by decide) (by decide)) (fun k => T1 _ _ (by decide) (by decide))
      have h10 := g10.agree (s' := s2) (fun k => T1 _ _ (by decide) (by decide)) (fun k => T1 _ _ (by decide) (by decide)) (fun k => T1 _ _ (by decide) (by decide))
      have same : ∀ o k, o ≠ 45 → o ≠ 46 → o ≠ 48 → s2 o k = σ o k := fun o k o1 o2 o3 => by rw [T1 o k o2 o3, k1 o k o1 o3]; exact S1 o k o1 o2 o3
      rw [wpS_trunc]
      refine wpS_seq' (fun Q106 hQ106 => ?_)
      simp only [wpS_skip, wpS_break, wpS_cont, wpS_retV, wpS_throw, wpS_seq, wpS_if, wpS_trunc, yS_let, yS_inc, kgK_i, kgK_r, kok_nil, kok_i0, kok_is, kok_r0, kok_rs, kok_n0, kok_ns, xS_put, xS_putOp, xS_ast0, xS_ast1, xS_astOp, wpS_E, wpS_call, wpS_callS, wpS_ret, kThen_N, kThen_B, kThen_C, kThen_R, kThen_T, kNext_N, kNext_C, kNext_B, kNext_R, wpE_K, wpE_KL, xE_I, xE_R, wpE_J, xE_bin, wpE_ladd, wpE_i2l, xE_get, xE_ald0, xE_ald1, wpE_if, xE_max, xE_min, wpE_len, wpA_nil, wpA_snoc, xE_call, xE_callS, xC_C, xC_L, xC_Z, wpC_and, wpC_or, wpC_not, wpC_if, kcmp_0, kcmp_1, kcmp_2, kcmp_3, kcmp_4, kcmp_5, rR_inj, kgO_some, kgO_add, kgO_sub, kgO_mul, kgO_div, kgO_rem, kgO_and, kvI_inl, kvJ_inl, kgI_0, kgI_s, kgR_0, kgR_s, kst_nil, kst_0, kst_s, kNLl_nil, kNLl_i, kNLl_r, kNLl_n, ktag_i, ktag_r, List.length_cons, List.length_nil, List.take_succ_cons, List.take_zero, List.take_nil, List.nil_append, List.cons_append, decide_eq_true_eq, Bool.not_eq_true, Bool.not_eq_true', decide_eq_false_iff_not, ne_eq, Decidable.not_not, true_and, and_true, Nat.reduceAdd, Nat.reduceLeDiff, Nat.reduceEqDiff, Nat.le_refl, not_true_eq_false, not_false_eq_true, reduceIte, eq_self, Int.reduceNeg, Int.reduceEq, Int.reduceLT, Int.reduceLE, Nat.zero_le, Nat.one_ne_zero, ev_sides, ev_web]
      refine (webArcAt_ok h8 w9 h10 w11 hn3 hc9 hv hkd).mono ?_
      rintro r s' ⟨hs, rfl⟩
      subst s'
      rw [kgO_some, ← hx]
      refine (webOther_ok (fs := fs) (sn := sn) (fun x => by rw [same _ _ (by decide) (by decide) (by decide)]; exact w4 x) (fun x => by rw [same _ _ (by decide) (by decide) (by decide)]; exact w5 x) x2).mono ?_
      rintro r s' ⟨hs, rfl⟩
      subst s'
      rw [kgO_some]
      simp only [wpS_skip, wpS_break, wpS_cont, wpS_retV, wpS_throw, wpS_seq, wpS_if, wpS_trunc, yS_let, yS_inc, kgK_i, kgK_r, kok_nil, kok_i0, kok_is, kok_r0, kok_rs, kok_n0, kok_ns, xS_put, xS_putOp, xS_ast0, xS_ast1, xS_astOp, wpS_E, wpS_call, wpS_callS, wpS_ret, kThen_N, kThen_B, kThen_C, kThen_R, kThen_T, kNext_N, kNext_C, kNext_B, kNext_R, wpE_K, wpE_KL, xE_I, xE_R, wpE_J, xE_bin, wpE_ladd, wpE_i2l, xE_get, xE_ald0, xE_ald1, wpE_if, xE_max, xE_min, wpE_len, wpA_nil, wpA_snoc, xE_call, xE_callS, xC_C, xC_L, xC_Z, wpC_and, wpC_or, wpC_not, wpC_if, kcmp_0, kcmp_1, kcmp_2, kcmp_3, kcmp_4, kcmp_5, rR_inj, kgO_some, kgO_add, kgO_sub, kgO_mul, kgO_div, kgO_rem, kgO_and, kvI_inl, kvJ_inl, kgI_0, kgI_s, kgR_0, kgR_s, kst_nil, kst_0, kst_s, kNLl_nil, kNLl_i, kNLl_r, kNLl_n, ktag_i, ktag_r, List.length_cons, List.length_nil, List.take_succ_cons, List.take_zero, List.take_nil, List.nil_append, List.cons_append, decide_eq_true_eq, Bool.not_eq_true, Bool.not_eq_true', decide_eq_false_iff_not, ne_eq, Decidable.not_not, true_and, and_true, Nat.reduceAdd, Nat.reduceLeDiff, Nat.reduceEqDiff, Nat.le_refl, not_true_eq_false, not_false_eq_true, reduceIte, eq_self, Int.reduceNeg, Int.reduceEq, Int.reduceLT, Int.reduceLE, Nat.zero_le, Nat.one_ne_zero]
      rw [hQ106]
      clear hQ106
      refine kThen_N.mpr ?_
      obtain ⟨u, hu⟩ : ∃ u, u = othr fs sn x v := ⟨_, rfl⟩
      rw [← hu] at ho ⊢
      refine wpS_gen (fun Q3 hQ3 => ?_)
      obtain ⟨z1, z2⟩ := T9 u ho
      by_cases hm : s2 48 u = (v : Int)
      · simp only [wpS_skip, wpS_break, wpS_cont, wpS_retV, wpS_throw, wpS_seq, wpS_if, wpS_trunc, yS_let, yS_inc, kgK_i, kgK_r, kok_nil, kok_i0, kok_is, kok_r0, kok_rs, kok_n0, kok_ns, xS_put, xS_putOp, xS_ast0, xS_ast1, xS_astOp, wpS_E, wpS_call, wpS_callS, wpS_ret, kThen_N, kThen_B, kThen_C, kThen_R, kThen_T, kNext_N, kNext_C, kNext_B, kNext_R, wpE_K, wpE_KL, xE_I, xE_R, wpE_J, xE_bin, wpE_ladd, wpE_i2l, xE_get, xE_ald0, xE_ald1, wpE_if, xE_max, xE_min, wpE_len, wpA_nil, wpA_snoc, xE_call, xE_callS, xC_C, xC_L, xC_Z, wpC_and, wpC_or, wpC_not, wpC_if, kcmp_0, kcmp_1, kcmp_2, kcmp_3, kcmp_4, kcmp_5, rR_inj, kgO_some, kgO_add, kgO_sub, kgO_mul, kgO_div, kgO_rem, kgO_and, kvI_inl, kvJ_inl, kgI_0, kgI_s, kgR_0, kgR_s, kst_nil, kst_0, kst_s, kNLl_nil, kNLl_i, kNLl_r, kNLl_n, ktag_i, ktag_r, List.length_cons, List.length_nil, List.take_succ_cons, List.take_zero, List.take_nil, List.nil_append, List.cons_append, decide_eq_true_eq, Bool.not_eq_true, Bool.not_eq_true', decide_eq_false_iff_not, ne_eq, Decidable.not_not, true_and, and_true, Nat.reduceAdd, Nat.reduceLeDiff, Nat.reduceEqDiff, Nat.le_refl, not_true_eq_false, not_false_eq_true, reduceIte, eq_self, Int.reduceNeg, Int.reduceEq, Int.reduceLT, Int.reduceLE, Nat.zero_le, Nat.one_ne_zero, ev_sides, ev_sides_arr, Int.toNat_natCast, hm, decide_true, decide_false, Bool.false_eq_true, if_true, if_false, true_and, and_true, not_true_eq_false, not_false_eq_true]
        repeat refine And.intro (by omega) ?_
        rw [hQ3]
        refine kStep_N rfl ⟨cn, Nx, rfl, T1, T2, by omega, T4, T5, fun i h1 h2 => ⟨(T6 i h1 h2).1, by obtain ⟨j, j1, j2⟩ := (T6 i h1 h2).2; exact ⟨j, by omega, j2⟩⟩, T7, fun j hj hne => ?_, T9⟩
        by_cases e : j = k
        · subst e
          rw [← hx, ← hu] at hne ⊢
          exact (z2.mp hm).elim (fun q => absurd q hne) id
        · exact T8 j (by omega) hne
      · have hnv : u ≠ v := fun e => hm (z2.mpr (Or.inl e))
        have hnx : ∀ i, c0 ≤ i → i < cn → Nx i ≠ u := fun i h1 h2 e => hm (z2.mpr (Or.inr ⟨i, h1, h2, e⟩))
        simp only [wpS_skip, wpS_break, wpS_cont, wpS_retV, wpS_throw, wpS_seq, wpS_if, wpS_trunc, yS_let, yS_inc, kgK_i, kgK_r, kok_nil, kok_i0, kok_is, kok_r0, kok_rs, kok_n0, kok_ns, xS_put, xS_putOp, xS_ast0, xS_ast1, xS_astOp, wpS_E, wpS_call, wpS_callS, wpS_ret, kThen_N, kThen_B, kThen_C, kThen_R, kThen_T, kNext_N, kNext_C, kNext_B, kNext_R, wpE_K, wpE_KL, xE_I, xE_R, wpE_J, xE_bin, wpE_ladd, wpE_i2l, xE_get, xE_ald0, xE_ald1, wpE_if, xE_max, xE_min, wpE_len, wpA_nil, wpA_snoc, xE_call, xE_callS, xC_C, xC_L, xC_Z, wpC_and, wpC_or, wpC_not, wpC_if, kcmp_0, kcmp_1, kcmp_2, kcmp_3, kcmp_4, kcmp_5, rR_inj, kgO_some, kgO_add, kgO_sub, kgO_mul, kgO_div, kgO_rem, kgO_and, kvI_inl, kvJ_inl, kgI_0, kgI_s, kgR_0, kgR_s, kst_nil, kst_0, kst_s, kNLl_nil, kNLl_i, kNLl_r, kNLl_n, ktag_i, ktag_r, List.length_cons, List.length_nil, List.take_succ_cons, List.take_zero, List.take_nil, List.nil_append, List.cons_append, decide_eq_true_eq, Bool.not_eq_true, Bool.not_eq_true', decide_eq_false_iff_not, ne_eq, Decidable.not_not, true_and, and_true, Nat.reduceAdd, Nat.reduceLeDiff, Nat.reduceEqDiff, Nat.le_refl, not_true_eq_false, not_false_eq_true, reduceIte, eq_self, Int.reduceNeg, Int.reduceEq, Int.reduceLT, Int.reduceLE, Nat.zero_le, Nat.one_ne_zero, ev_sides, ev_sides_arr, Int.toNat_natCast, hm, decide_true, decide_false, Bool.false_eq_true, if_true, if_false, true_and, and_true, not_true_eq_false, not_false_eq_true]
        repeat refine And.intro (by omega) ?_
        rw [hQ3]
        refine kStep_N rfl ⟨cn + 1, fun i => if i = cn then u else Nx i, rfl, fun o k o1 o2 => by rw [kup_ne o1, kup_ne o2]; exact T1 o k o1 o2, by omega, by omega, fun i hi => ?_, fun i hi => ?_, fun i h1 h2 => ?_, fun i j h1 h2 h3 => ?_, fun j hj hne => ?_, fun w hw => ?_⟩
        · rw [kup_eq]
          dsimp only
          split
          · rfl
          · rw [kup_ne (by decide)]; exact T4 i (by omega)
        · dsimp only; rw [if_neg (by omega)]; exact T5 i hi
        · dsimp only
          by_cases e : i = cn
          · rw [if_pos e]; exact ⟨hnv, k, by omega, by rw [← hx, ← hu]⟩
          · rw [if_neg e]
            obtain ⟨q1, j, q2, q3⟩ := T6 i h1 (by omega)
            exact ⟨q1, j, by omega, q3⟩
        · dsimp only
          rw [if_neg (by omega : ¬ i = cn)]
          by_cases e : j = cn
          · rw [if_pos e]; exact hnx i h1 (by omega)
          · rw [if_neg e]; exact T7 i j h1 h2 (by omega)
        · dsimp only
          by_cases e : j = k
          · subst e
            rw [← hx, ← hu]
            exact ⟨cn, by omega, by omega, if_pos rfl⟩
          · obtain ⟨i, i1, i2, i3⟩ := T8 j (by omega) hne
            exact ⟨i, i1, by omega, by rw [if_neg (by omega)]; exact i3⟩
        · rw [kup_ne (by decide), kup_eq]
          dsimp only
          by_cases e : w = u
          · rw [if_pos e]
            exact ⟨Int.le_refl _, fun _ => Or.inr ⟨cn, by omega, by omega, by rw [if_pos rfl, e]⟩, fun _ => rfl⟩
          · rw [if_neg e]
            obtain ⟨y1, y2⟩ := T9 w hw
            refine ⟨y1, y2.trans ⟨fun q => q.imp id (fun ⟨i, i1, i2, i3⟩ => ⟨i, i1, by omega, by rw [if_neg (by omega)]; exact i3⟩), fun q => q.imp id (fun ⟨i, i1, i2, i3⟩ => ?_)⟩⟩
            by_cases e2 : i = cn
            · rw [if_pos e2] at i3; exact absurd i3.symm e
            · rw [if_neg e2] at i3; exact ⟨i, i1, by omega, i3⟩
    · rintro P s2 ⟨cn, Nx, rfl, T1, T2, T3, T4, T5, T6, T7, T8, T9⟩
      have memN : ∀ u, N v u ↔ (u ≠ v ∧ ∃ j, j < D ∧ othr fs sn (atK Fo So Fi Si v j) v = u) := by
        intro u
        rw [hN, hD]
        constructor
        · rintro ⟨h1, x, h2, h3⟩
          obtain ⟨j, j1, j2⟩ := at_all w9 w11 hv h2 (h3.elim (fun q => Or.inl q.1) (fun q => Or.inr q.1))
          exact ⟨fun e => h1 e.symm, j, j1, by rw [j2]; exact othr_eq h3⟩
        · rintro ⟨h1, j, j1, rfl⟩
          obtain ⟨g1, g2⟩ := at_there w9 w11 hv j1
          exact ⟨fun e => h1 e.symm, _, g1, othr_at g2⟩
      have lt : ∀ j, j < D → othr fs sn (atK Fo So Fi Si v j) v < n := fun j hj => othr_lt hG (at_there w9 w11 hv (by rw [← hD]; exact hj)).1
      obtain ⟨p1, p2, p3, p4, p5⟩ := S4
      rw [hQ2]
      have hcm : ∀ w, w < v → St (w + 1) ≤ c0 := fun w hw => by rw [hc0]; exact nrP.mono (m := v) ⟨p1, p2, p3, p4, p5⟩ (by omega) (Nat.le_refl _)
      refine kStep_N (P := [some (.inr (.inl 9)), some (.inl (cn : Int))]) rfl ⟨fun w => if w = v + 1 then cn else St w, Nx, ?_, fun o k o1 o2 o3 => by rw [T1 o k o2 o3, k1 o k o1 o3]; exact S1 o k o1 o2 o3, fun w hw => ?_, fun i hi => T4 i (by simpa using hi), ⟨by simpa using p1, fun w hw => ?_, fun w i hw h1 h2 => ?_, fun w i j hw h1 h2 h3 => ?_, fun w u hw hu hNu => ?_⟩, fun u hu => ?_, ?_⟩
      · simp
      · dsimp only
        rw [if_neg (by omega), T1 _ _ (by decide) (by decide), k2]
        by_cases e : w = v
        · rw [if_pos e, e, ← hc0]
        · rw [if_neg e]; exact S2 w (by omega)
      · dsimp only
        rw [if_neg (by omega)]
        by_cases e : w = v
        · subst e; rw [if_pos rfl, ← hc0]; exact T2
        · rw [if_neg (by omega)]; exact p2 w (by omega)
      · dsimp only at h1 h2
        rw [if_neg (by omega)] at h1
        by_cases e : w = v
        · subst e
          rw [if_pos rfl] at h2
          rw [← hc0] at h1
          obtain ⟨q1, j, q2, q3⟩ := T6 i h1 h2
          exact ⟨(memN _).mpr ⟨q1, j, q2, q3⟩, by rw [← q3]; exact lt j q2⟩
        · rw [if_neg (by omega)] at h2
          have := hcm w (by omega)
          rw [T5 i (by omega)]
          exact p3 w i (by omega) h1 h2
      · dsimp only at h1 h3
        rw [if_neg (by omega)] at h1
        by_cases e : w = v
        · subst e
          rw [if_pos rfl] at h3
          rw [← hc0] at h1
          exact T7 i j h1 h2 h3
        · rw [if_neg (by omega)] at h3
          have := hcm w (by omega)
          rw [T5 i (by omega), T5 j (by omega)]
          exact p4 w i j (by omega) h1 h2 h3
      · dsimp only
        rw [if_neg (by omega)]
        by_cases e : w = v
        · subst e
          rw [if_pos rfl, ← hc0]
          obtain ⟨q1, j, q2, q3⟩ := (memN u).mp hNu
          obtain ⟨i, i1, i2, i3⟩ := T8 j q2 (by rw [q3]; exact q1)
          exact ⟨i, i1, i2, by rw [i3, q3]⟩
        · rw [if_neg (by omega)]
          obtain ⟨i, i1, i2, i3⟩ := p5 w u (by omega) hu hNu
          have := hcm w (by omega)
          exact ⟨i, i1, i2, by rw [T5 i (by omega)]; exact i3⟩
      · have := (T9 u hu).1
        omega
      · simp only [if_true]; omega
  · rintro P s ⟨St, Ne, rfl, S1, S2, S3, S4, S5, S6⟩
    rw [hQ1]
    refine kThen_N.mpr ?_
    have n1 : s 1 3 = n := by rw [S1 _ _ (by decide) (by decide) (by decide)]; exact w1
    have hS18 : St n ≤ 1800 := by have h1 := w9.2.1; have h2 := w11.2.1; omega
    refine wpS_gen (fun Q107 hQ107 => ?_)
    simp only [wpS_skip, wpS_break, wpS_cont, wpS_retV, wpS_throw, wpS_seq, wpS_if, wpS_trunc, yS_let, yS_inc, kgK_i, kgK_r, kok_nil, kok_i0, kok_is, kok_r0, kok_rs, kok_n0, kok_ns, xS_put, xS_putOp, xS_ast0, xS_ast1, xS_astOp, wpS_E, wpS_call, wpS_callS, wpS_ret, kThen_N, kThen_B, kThen_C, kThen_R, kThen_T, kNext_N, kNext_C, kNext_B, kNext_R, wpE_K, wpE_KL, xE_I, xE_R, wpE_J, xE_bin, wpE_ladd, wpE_i2l, xE_get, xE_ald0, xE_ald1, wpE_if, xE_max, xE_min, wpE_len, wpA_nil, wpA_snoc, xE_call, xE_callS, xC_C, xC_L, xC_Z, wpC_and, wpC_or, wpC_not, wpC_if, kcmp_0, kcmp_1, kcmp_2, kcmp_3, kcmp_4, kcmp_5, rR_inj, kgO_some, kgO_add, kgO_sub, kgO_mul, kgO_div, kgO_rem, kgO_and, kvI_inl, kvJ_inl, kgI_0, kgI_s, kgR_0, kgR_s, kst_nil, kst_0, kst_s, kNLl_nil, kNLl_i, kNLl_r, kNLl_n, ktag_i, ktag_r, List.length_cons, List.length_nil, List.take_succ_cons, List.take_zero, List.take_nil, List.nil_append, List.cons_append, decide_eq_true_eq, Bool.not_eq_true, Bool.not_eq_true', decide_eq_false_iff_not, ne_eq, Decidable.not_not, true_and, and_true, Nat.reduceAdd, Nat.reduceLeDiff, Nat.reduceEqDiff, Nat.le_refl, not_true_eq_false, not_false_eq_true, reduceIte, eq_self, Int.reduceNeg, Int.reduceEq, Int.reduceLT, Int.reduceLE, Nat.zero_le, Nat.one_ne_zero, ev_sides, ev_sides_arr, ev_web, n1, Int.toNat_natCast]
    repeat refine And.intro (by omega) ?_
    rw [hQ107]
    clear hQ107 Q107
    rw [hQ0]
    refine kThen_N.mpr (wpS_retV.mpr ⟨none, rfl, rfl, ?_⟩)
    refine ⟨rfl, fun o k o1 o2 o3 => by rw [kup_ne o1]; exact S1 o k o1 o2 o3, St, Ne, ⟨fun v hv => ?_, fun i hi => by rw [kup_ne (by decide)]; exact S3 i hi, hS18⟩, S4⟩
    rw [kup_eq]
    by_cases e : v = n
    · rw [if_pos e, e]
    · rw [if_neg e]; exact S2 v (by omega)
theorem anewFindNear_ok {σ : kS} {n c ar : Nat} {li fs sn : Nat → Nat} (hG : gOk n c ar li fs sn) (hW : Wb σ n c ar li fs sn) :
    wpF F_Sides_findNear [.inr (.inl 13)] σ (fun r s => r = none ∧ (∀ o k, o ≠ 64 → o ≠ 65 → o ≠ 67 → s o k = σ o k) ∧ ∃ St Ne, Sr s 64 65 n St Ne ∧ nrP n (nbr (th c li) fs sn) n St Ne) := by
  have hn3 := hG.1
  have hc9 := hG.2.1
  obtain ⟨N, hN⟩ : ∃ N, N = nbr (th c li) fs sn := ⟨_, rfl⟩
  rw [← hN]
  obtain ⟨w1, w2, w3, w4, w5, w6, w7, Fo, So, Fi, Si, w8, w9, w10, w11⟩ := id hW
  unfold F_Sides_findNear
  rw [wpF_kF]
  refine ⟨rfl, rfl, ?_⟩
  unfold s_Sides_findNear
  simp only [List.map_cons, List.map_nil]
  refine wpS_seq' (fun Q0 hQ0 => ?_)
  refine wpS_seq' (fun Q108 hQ108 => ?_)
  simp only [wpS_skip, wpS_break, wpS_cont, wpS_retV, wpS_throw, wpS_seq, wpS_if, wpS_trunc, yS_let, yS_inc, kgK_i, kgK_r, kok_nil, kok_i0, kok_is, kok_r0, kok_rs, kok_n0, kok_ns, xS_put, xS_putOp, xS_ast0, xS_ast1, xS_astOp, wpS_E, wpS_call, wpS_callS, wpS_ret, kThen_N, kThen_B, kThen_C, kThen_R, kThen_T, kNext_N, kNext_C, kNext_B, kNext_R, wpE_K, wpE_KL, xE_I, xE_R, wpE_J, xE_bin, wpE_ladd, wpE_i2l, xE_get, xE_ald0, xE_ald1, wpE_if, xE_max, xE_min, wpE_len, wpA_nil, wpA_snoc, xE_call, xE_callS, xC_C, xC_L, xC_Z, wpC_and, wpC_or, wpC_not, wpC_if, kcmp_0, kcmp_1, kcmp_2, kcmp_3, kcmp_4, kcmp_5, rR_inj, kgO_some, kgO_add, kgO_sub, kgO_mul, kgO_div, kgO_rem, kgO_and, kvI_inl, kvJ_inl, kgI_0, kgI_s, kgR_0, kgR_s, kst_nil, kst_0, kst_s, kNLl_nil, kNLl_i, kNLl_r, kNLl_n, ktag_i, ktag_r, List.length_cons, List.length_nil, List.take_succ_cons, List.take_zero, List.take_nil, List.nil_append, List.cons_append, decide_eq_true_eq, Bool.not_eq_true, Bool.not_eq_true', decide_eq_false_iff_not, ne_eq, Decidable.not_not, true_and, and_true, Nat.reduceAdd, Nat.reduceLeDiff, Nat.reduceEqDiff, Nat.le_refl, not_true_eq_false, not_false_eq_true, reduceIte, eq_self, Int.reduceNeg, Int.reduceEq, Int.reduceLT, Int.reduceLE, Nat.zero_le, Nat.one_ne_zero, ev_anew, ev_anew_arr]
  refine (fill_ok (n := 300) (by omega) rfl rfl).mono ?_
  rintro r s0 ⟨rfl, hs0⟩
  refine ⟨rfl, ?_⟩
  rw [hQ108]
  clear hQ108
  refine kThen_N.mpr ?_
  have f1 : ∀ o k, o ≠ 67 → s0 o k = σ o k := by intro o k ho; rw [hs0]; unfold kfill; rw [if_neg (fun q => ho q.1)]
  have f2 : ∀ v, v < 300 → s0 67 v = -1 := by intro v hv; rw [hs0]; unfold kfill; rw [if_pos ⟨rfl, hv⟩]
  clear hs0
  refine wpS_seq' (fun Q109 hQ109 => ?_)
  simp only [wpS_skip, wpS_break, wpS_cont, wpS_retV, wpS_throw, wpS_seq, wpS_if, wpS_trunc, yS_let, yS_inc, kgK_i, kgK_r, kok_nil, kok_i0, kok_is, kok_r0, kok_rs, kok_n0, kok_ns, xS_put, xS_putOp, xS_ast0, xS_ast1, xS_astOp, wpS_E, wpS_call, wpS_callS, wpS_ret, kThen_N, kThen_B, kThen_C, kThen_R, kThen_T, kNext_N, kNext_C, kNext_B, kNext_R, wpE_K, wpE_KL, xE_I, xE_R, wpE_J, xE_bin, wpE_ladd, wpE_i2l, xE_get, xE_ald0, xE_ald1, wpE_if, xE_max, xE_min, wpE_len, wpA_nil, wpA_snoc, xE_call, xE_callS, xC_C, xC_L, xC_Z, wpC_and, wpC_or, wpC_not, wpC_if, kcmp_0, kcmp_1, kcmp_2, kcmp_3, kcmp_4, kcmp_5, rR_inj, kgO_some, kgO_add, kgO_sub, kgO_mul, kgO_div, kgO_rem, kgO_and, kvI_inl, kvJ_inl, kgI_0, kgI_s, kgR_0, kgR_s, kst_nil, kst_0, kst_s, kNLl_nil, kNLl_i, kNLl_r, kNLl_n, ktag_i, ktag_r, List.length_cons, List.length_nil, List.take_succ_cons, List.take_zero, List.take_nil, List.nil_append, List.cons_append, decide_eq_true_eq, Bool.not_eq_true, Bool.not_eq_true', decide_eq_false_iff_not, ne_eq, Decidable.not_not, true_and, and_true, Nat.reduceAdd, Nat.reduceLeDiff, Nat.reduceEqDiff, Nat.le_refl, not_true_eq_false, not_false_eq_true, reduceIte, eq_self, Int.reduceNeg, Int.reduceEq, Int.reduceLT, Int.reduceLE, Nat.zero_le, Nat.one_ne_zero]
  repeat refine And.intro (by omega) ?_
  rw [hQ109]
  clear hQ109 Q109
  refine kThen_N.mpr ?_
  refine wpS_seq' (fun Q1 hQ1 => ?_)
  unfold l_Sides_findNear_2
  refine wpS_fort (fun v P s => ∃ (St Ne : Nat → Nat), P = [some (.inr (.inl 13)), some (.inl (St v : Int))] ∧ (∀ o k, o ≠ 64 → o ≠ 65 → o ≠ 67 → s o k = σ o k) ∧ (∀ w, w < v → s 64 w = (St w : Int)) ∧ (∀ i, i < St v → s 65 i = (Ne i : Int)) ∧ nrP n N v St Ne ∧ (∀ u, u < n → s 67 u < (v : Int)) ∧ St v ≤ So v + Si v) 0 n rfl rfl ?_ ?_ ?_ ?_ ?_ ?_ ?_
  · simp only [wpS_skip, wpS_break, wpS_cont, wpS_retV, wpS_throw, wpS_seq, wpS_if, wpS_trunc, yS_let, yS_inc, kgK_i, kgK_r, kok_nil, kok_i0, kok_is, kok_r0, kok_rs, kok_n0, kok_ns, xS_put, xS_putOp, xS_ast0, xS_ast1, xS_astOp, wpS_E, wpS_call, wpS_callS, wpS_ret, kThen_N, kThen_B, kThen_C, kThen_R, kThen_T, kNext_N, kNext_C, kNext_B, kNext_R, wpE_K, wpE_KL, xE_I, xE_R, wpE_J, xE_bin, wpE_ladd, wpE_i2l, xE_get, xE_ald0, xE_ald1, wpE_if, xE_max, xE_min, wpE_len, wpA_nil, wpA_snoc, xE_call, xE_callS, xC_C, xC_L, xC_Z, wpC_and, wpC_or, wpC_not, wpC_if, kcmp_0, kcmp_1, kcmp_2, kcmp_3, kcmp_4, kcmp_5, rR_inj, kgO_some, kgO_add, kgO_sub, kgO_mul, kgO_div, kgO_rem, kgO_and, kvI_inl, kvJ_inl, kgI_0, kgI_s, kgR_0, kgR_s, kst_nil, kst_0, kst_s, kNLl_nil, kNLl_i, kNLl_r, kNLl_n, ktag_i, ktag_r, List.length_cons, List.length_nil, List.take_succ_cons, List.take_zero, List.take_nil, List.nil_append, List.cons_append, decide_eq_true_eq, Bool.not_eq_true, Bool.not_eq_true', decide_eq_false_iff_not, ne_eq, Decidable.not_not, true_and, and_true, Nat.reduceAdd, Nat.reduceLeDiff, Nat.reduceEqDiff, Nat.le_refl, not_true_eq_false, not_false_eq_true, reduceIte, eq_self, Int.reduceNeg, Int.reduceEq, Int.reduceLT, Int.reduceLE, Nat.zero_le, Nat.one_ne_zero]; trivial
  · omega
  · exact ⟨fun _ => 0, fun _ => 0, rfl, fun o k _ _ o3 => f1 o k o3, fun w hw => by omega, fun i hi => absurd hi (Nat.not_lt_zero i), ⟨rfl, fun v hv => by omega, fun v i hv => by omega, fun v i j hv => by omega, fun v u hv => by omega⟩, fun u hu => by rw [f2 u (by omega)]; decide, Nat.zero_le _⟩
  · rintro v P s ⟨St, Ne, rfl, -⟩; exact ⟨rfl, rfl⟩
  · rintro v P s - - ⟨St, Ne, rfl, S1, -⟩
    simp only [wpS_skip, wpS_break, wpS_cont, wpS_retV, wpS_throw, wpS_seq, wpS_if, wpS_trunc, yS_let, yS_inc, kgK_i, kgK_r, kok_nil, kok_i0, kok_is, kok_r0, kok_rs, kok_n0, kok_ns, xS_put, xS_putOp, xS_ast0, xS_ast1, xS_astOp, wpS_E, wpS_call, wpS_callS, wpS_ret, kThen_N, kThen_B, kThen_C, kThen_R, kThen_T, kNext_N, kNext_C, kNext_B, kNext_R, wpE_K, wpE_KL, xE_I, xE_R, wpE_J, xE_bin, wpE_ladd, wpE_i2l, xE_get, xE_ald0, xE_ald1, wpE_if, xE_max, xE_min, wpE_len, wpA_nil, wpA_snoc, xE_call, xE_callS, xC_C, xC_L, xC_Z, wpC_and, wpC_or, wpC_not, wpC_if, kcmp_0, kcmp_1, kcmp_2, kcmp_3, kcmp_4, kcmp_5, rR_inj, kgO_some, kgO_add, kgO_sub, kgO_mul, kgO_div, kgO_rem, kgO_and, kvI_inl, kvJ_inl, kgI_0, kgI_s, kgR_0, kgR_s, kst_nil, kst_0, kst_s, kNLl_nil, kNLl_i, kNLl_r, kNLl_n, ktag_i, ktag_r, List.length_cons, List.length_nil, List.take_succ_cons, List.take_zero, List.take_nil, List.nil_append, List.cons_append, decide_eq_true_eq, Bool.not_eq_true, Bool.not_eq_true', decide_eq_false_iff_not, ne_eq, Decidable.not_not, true_and, and_true, Nat.reduceAdd, Nat.reduceLeDiff, Nat.reduceEqDiff, Nat.le_refl, not_true_eq_false, not_false_eq_true, reduceIte, eq_self, Int.reduceNeg, Int.reduceEq, Int.reduceLT, Int.reduceLE, Nat.zero_le, Nat.one_ne_zero, ev_anew, ev_web, show s 1 3 = (n : Int) by rw [S1 _ _ (by decide) (by decide) (by decide)]; exact w1]
  · rintro v P s - hv ⟨St, Ne, rfl, S1, S2, S3, S4, S5, S6⟩
    obtain ⟨c0, hc0⟩ : ∃ c0, c0 = St v := ⟨_, rfl⟩
    rw [← hc0] at S3 S6 ⊢
    have a1 := fan_le w9 (show v ≤ n by omega)
    have a2 := fan_le w11 (show v ≤ n by omega)
    have a3 := fan_le w9 (show v + 1 ≤ n from hv)
    have a4 := fan_le w11 (show v + 1 ≤ n from hv)
    have a5 := w9.2.2.1 v hv
    have a6 := w11.2.2.1 v hv
    have hdg : dgr So Si v = So (v + 1) - So v + (Si (v + 1) - Si v) := rfl
    obtain ⟨D, hD⟩ : ∃ D, D = dgr So Si v := ⟨_, rfl⟩
    have hD18 : c0 + D ≤ 1800 ∧ c0 + D ≤ So (v + 1) + Si (v + 1) := by omega
    rw [wpS_trunc]
    refine wpS_seq' (fun Q110 hQ110 => ?_)
    simp only [wpS_skip, wpS_break, wpS_cont, wpS_retV, wpS_throw, wpS_seq, wpS_if, wpS_trunc, yS_let, yS_inc, kgK_i, kgK_r, kok_nil, kok_i0, kok_is, kok_r0, kok_rs, kok_n0, kok_ns, xS_put, xS_putOp, xS_ast0, xS_ast1, xS_astOp, wpS_E, wpS_call, wpS_callS, wpS_ret, kThen_N, kThen_B, kThen_C, kThen_R, kThen_T, kNext_N, kNext_C, kNext_B, kNext_R, wpE_K, wpE_KL, xE_I, xE_R, wpE_J, xE_bin, wpE_ladd, wpE_i2l, xE_get, xE_ald0, xE_ald1, wpE_if, xE_max, xE_min, wpE_len, wpA_nil, wpA_snoc, xE_call, xE_callS, xC_C, xC_L, xC_Z, wpC_and, wpC_or, wpC_not, wpC_if, kcmp_0, kcmp_1, kcmp_2, kcmp_3, kcmp_4, kcmp_5, rR_inj, kgO_some, kgO_add, kgO_sub, kgO_mul, kgO_div, kgO_rem, kgO_and, kvI_inl, kvJ_inl, kgI_0, kgI_s, kgR_0, kgR_s, kst_nil, kst_0, kst_s, kNLl_nil, kNLl_i, kNLl_r, kNLl_n, ktag_i, ktag_r, List.length_cons, List.length_nil, List.take_succ_cons, List.take_zero, List.take_nil, List.nil_append, List.cons_append, decide_eq_true_eq, Bool.not_eq_true, Bool.not_eq_true', decide_eq_false_iff_not, ne_eq, Decidable.not_not, true_and, and_true, Nat.reduceAdd, Nat.reduceLeDiff, Nat.reduceEqDiff, Nat.le_refl, not_true_eq_false, not_false_eq_true, reduceIte, eq_self, Int.reduceNeg, Int.reduceEq, Int.reduceLT, Int.reduceLE, Nat.zero_le, Nat.one_ne_zero, ev_anew, ev_anew_arr, Int.toNat_natCast]
    repeat refine And.intro (by omega) ?_
    rw [hQ110]
    clear hQ110 Q110
    refine kThen_N.mpr ?_
    refine wpS_seq' (fun Q111 hQ111 => ?_)
    simp only [wpS_skip, wpS_break, wpS_cont, wpS_retV, wpS_throw, wpS_seq, wpS_if, wpS_trunc, yS_let, yS_inc, kgK_i, kgK_r, kok_nil, kok_i0, kok_is, kok_r0, kok_rs, kok_n0, kok_ns, xS_put, xS_putOp, xS_ast0, xS_ast1, xS_astOp, wpS_E, wpS_call, wpS_callS, wpS_ret, kThen_N, kThen_B, kThen_C, kThen_R, kThen_T, kNext_N, kNext_C, kNext_B, kNext_R, wpE_K, wpE_KL, xE_I, xE_R, wpE_J, xE_bin, wpE_ladd, wpE_i2l, xE_get, xE_ald0, xE_ald1, wpE_if, xE_max, xE_min, wpE_len, wpA_nil, wpA_snoc, xE_call, xE_callS, xC_C, xC_L, xC_Z, wpC_and, wpC_or, wpC_not, wpC_if, kcmp_0, kcmp_1, kcmp_2, kcmp_3, kcmp_4, kcmp_5, rR_inj, kgO_some, kgO_add, kgO_sub, kgO_mul, kgO_div, kgO_rem, kgO_and, kvI_inl, kvJ_inl, kgI_0, kgI_s, kgR_0, kgR_s, kst_nil, kst_0, kst_s, kNLl_nil, kNLl_i, kNLl_r, kNLl_n, ktag_i, ktag_r, List.length_cons, List.length_nil, List.take_succ_cons, List.take_zero, List.take_nil, List.nil_append, List.cons_append, decide_eq_true_eq, Bool.not_eq_true, Bool.not_eq_true', decide_eq_false_iff_not, ne_eq, Decidable.not_not, true_and, and_true, Nat.reduceAdd, Nat.reduceLeDiff, Nat.reduceEqDiff, Nat.le_refl, not_true_eq_false, not_false_eq_true, reduceIte, eq_self, Int.reduceNeg, Int.reduceEq, Int.reduceLT, Int.reduceLE, Nat.zero_le, Nat.one_ne_zero, ev_anew, ev_anew_arr, Int.toNat_natCast]
    repeat refine And.intro (by omega) ?_
    rw [hQ111]
    clear hQ111 Q111
    refine kThen_N.mpr ?_
    obtain ⟨s1, hs1⟩ : ∃ s1, s1 = kup (kup s 64 v (c0 : Int)) 67 v (v : Int) := ⟨_, rfl⟩
    rw [← hs1]
    have k1 : ∀ o k, o ≠ 64 → o ≠ 67 → s1 o k = s o k := by intro o k o1 o2; rw [hs1, kup_ne o2, kup_ne o1]
    have k2 : ∀ w, s1 64 w = if w = v then (c0 : Int) else s 64 w := by intro w; rw [hs1, kup_ne (by decide), kup_eq]
    have k3 : ∀ w, s1 67 w = if w = v then (v : Int) else s 67 w := by intro w; rw [hs1, kup_eq, kup_ne (by decide)]
    clear hs1
    have g8 := w8.agree (s' := s1) (fun k => by rw [k1 _ _ (by decide) (by decide)]; exact S1 _ _ (by decide) (by decide) (by decide)) (fun k => by rw [k1 _ _ (by decide) (by decide)]; exact S1 _ _ (by decide) (by decide) (by decide)) (fun k => by rw [k1 _ _ (by decide) (by decide)]; exact S1 _ _ (by decide) (by decide) (by decide))
    have g10 := w10.agree (s' := s1) (fun k => by rw [k1 _ _ (by decide) (by decide)]; exact S1 _ _ (by decide) (by decide) (by decide)) (fun k => by rw [k1 _ _ (by decide) (by decide)]; exact S1 _ _ (by decide) (by decide) (by decide)) (fun k => by rw [k1 _ _ (by decide) (by decide)]; exact S1 _ _ (by decide) (by decide) (by decide))
    refine wpS_seq' (fun Q112 hQ112 => ?_)
    simp only [wpS_skip, wpS_break, wpS_cont, wpS_retV, wpS_throw, wpS_seq, wpS_if, wpS_trunc, yS_let, yS_inc, kgK_i, kgK_r, kok_nil, kok_i0, kok_is, kok_r0, kok_rs, kok_n0, kok_ns, xS_put, xS_putOp, xS_ast0, xS_ast1, xS_astOp, wpS_E, wpS_call, wpS_callS, wpS_ret, kThen_N, kThen_B, kThen_C, kThen_R, kThen_T, kNext_N, kNext_C, kNext_B, kNext_R, wpE_K, wpE_KL, xE_I, xE_R, wpE_J, xE_bin, wpE_ladd, wpE_i2l, xE_get, xE_ald0, xE_ald1, wpE_if, xE_max, xE_min, wpE_len, wpA_nil, wpA_snoc, xE_call, xE_callS, xC_C, xC_L, xC_Z, wpC_and, wpC_or, wpC_not, wpC_if, kcmp_0, kcmp_1, kcmp_2, kcmp_3, kcmp_4, kcmp_5, rR_inj, kgO_some, kgO_add, kgO_sub, kgO_mul, kgO_div, kgO_rem, kgO_and, kvI_inl, kvJ_inl, kgI_0, kgI_s, kgR_0, kgR_s, kst_nil, kst_0, kst_s, kNLl_nil, kNLl_i, kNLl_r, kNLl_n, ktag_i, ktag_r, List.length_cons, List.length_nil, List.take_succ_cons, List.take_zero, List.take_nil, List.nil_append, List.cons_append, decide_eq_true_eq, Bool.not_eq_true, Bool.not_eq_true', decide_eq_false_iff_not, ne_eq, Decidable.not_not, true_and, and_true, Nat.reduceAdd, Nat.reduceLeDiff, Nat.reduceEqDiff, Nat.le_refl, not_true_eq_false, not_false_eq_true, reduceIte, eq_self, Int.reduceNeg, Int.reduceEq, Int.reduceLT, Int.reduceLE, Nat.zero_le, Nat.one_ne_zero, ev_anew, ev_web]
    refine (webDegree_ok g8 w9 g10 w11 hn3 hc9 hv).mono ?_
    rintro r s' ⟨hs, rfl⟩
    subst s'
    rw [kgO_some, ← hD]
    simp only [wpS_skip, wpS_break, wpS_cont, wpS_retV, wpS_throw, wpS_seq, wpS_if, wpS_trunc, yS_let, yS_inc, kgK_i, kgK_r, kok_nil, kok_i0, kok_is, kok_r0, kok_rs, kok_n0, kok_ns, xS_put, xS_putOp, xS_ast0, xS_ast1, xS_astOp, wpS_E, wpS_call, wpS_callS, wpS_ret, kThen_N, kThen_B, kThen_C, kThen_R, kThen_T, kNext_N, kNext_C, kNext_B, kNext_R, wpE_K, wpE_KL, xE_I, xE_R, wpE_J, xE_bin, wpE_ladd, wpE_i2l, xE_get, xE_ald0, xE_ald1, wpE_if, xE_max, xE_min, wpE_len, wpA_nil, wpA_snoc, xE_call, xE_callS, xC_C, xC_L, xC_Z, wpC_and, wpC_or, wpC_not, wpC_if, kcmp_0, kcmp_1, kcmp_2, kcmp_3, kcmp_4, kcmp_5, rR_inj, kgO_some, kgO_add, kgO_sub, kgO_mul, kgO_div, kgO_rem, kgO_and, kvI_inl, kvJ_inl, kgI_0, kgI_s, kgR_0, kgR_s, kst_nil, kst_0, kst_s, kNLl_nil, kNLl_i, kNLl_r, kNLl_n, ktag_i, ktag_r, List.length_cons, List.length_nil, List.take_succ_cons, List.take_zero, List.take_nil, List.nil_append, List.cons_append, decide_eq_true_eq, Bool.not_eq_true, Bool.not_eq_true', decide_eq_false_iff_not, ne_eq, Decidable.not_not, true_and, and_true, Nat.reduceAdd, Nat.reduceLeDiff, Nat.reduceEqDiff, Nat.le_refl, not_true_eq_false, not_false_eq_true, reduceIte, eq_self, Int.reduceNeg, Int.reduceEq, Int.reduceLT, Int.reduceLE, Nat.zero_le, Nat.one_ne_zero]
    rw [hQ112]
    clear hQ112
    refine kThen_N.mpr ?_
    refine wpS_gen (fun Q2 hQ2 => ?_)
    unfold l_Sides_findNear_1
    refine wpS_fort (fun k P s2 => ∃ (cn : Nat) (Nx : Nat → Nat), P = [some (.inr (.inl 13)), some (.inl (cn : Int)), some (.inl (v : Int)), some (.inl (D : Int))] ∧ (∀ o k, o ≠ 65 → o ≠ 67 → s2 o k = s1 o k) ∧ c0 ≤ cn ∧ cn ≤ c0 + k ∧ (∀ i, i < cn → s2 65 i = (Nx i : Int)) ∧ (∀ i, i < c0 → Nx i = Ne i) ∧
      (∀ i, c0 ≤ i → i < cn → Nx i ≠ v ∧ ∃ j, j < k ∧ othr fs sn (atK Fo So Fi Si v j) v = Nx i) ∧ (∀ i j, c0 ≤ i → i < j → j < cn → Nx i ≠ Nx j) ∧ (∀ j, j < k → othr fs sn (atK Fo So Fi Si v j) v ≠ v → ∃ i, c0 ≤ i ∧ i < cn ∧ Nx i = othr fs sn (atK Fo So Fi Si v j) v) ∧
      (∀ u, u < n → s2 67 u ≤ (v : Int) ∧ (s2 67 u = (v : Int) ↔ (u = v ∨ ∃ i, c0 ≤ i ∧ i < cn ∧ Nx i = u)))) 0 D rfl rfl ?_ ?_ ?_ ?_ ?_ ?_ ?_
    · simp only [wpS_skip, wpS_break, wpS_cont, wpS_retV, wpS_throw, wpS_seq, wpS_if, wpS_trunc, yS_let, yS_inc, kgK_i, kgK_r, kok_nil, kok_i0, kok_is, kok_r0, kok_rs, kok_n0, kok_ns, xS_put, xS_putOp, xS_ast0, xS_ast1, xS_astOp, wpS_E, wpS_call, wpS_callS, wpS_ret, kThen_N, kThen_B, kThen_C, kThen_R, kThen_T, kNext_N, kNext_C, kNext_B, kNext_R, wpE_K, wpE_KL, xE_I, xE_R, wpE_J, xE_bin, wpE_ladd, wpE_i2l, xE_get, xE_ald0, xE_ald1, wpE_if, xE_max, xE_min, wpE_len, wpA_nil, wpA_snoc, xE_call, xE_callS, xC_C, xC_L, xC_Z, wpC_and, wpC_or, wpC_not, wpC_if, kcmp_0, kcmp_1, kcmp_2, kcmp_3, kcmp_4, kcmp_5, rR_inj, kgO_some, kgO_add, kgO_sub, kgO_mul, kgO_div, kgO_rem, kgO_and, kvI_inl, kvJ_inl, kgI_0, kgI_s, kgR_0, kgR_s, kst_nil, kst_0, kst_s, kNLl_nil, kNLl_i, kNLl_r, kNLl_n, ktag_i, ktag_r, List.length_cons, List.length_nil, List.take_succ_cons, List.take_zero, List.take_nil, List.nil_append, List.cons_append, decide_eq_true_eq, Bool.not_eq_true, Bool.not_eq_true', decide_eq_false_iff_not, ne_eq, Decidable.not_not, true_and, and_true, Nat.reduceAdd, Nat.reduceLeDiff, Nat.reduceEqDiff, Nat.le_refl, not_true_eq_false, not_false_eq_true, reduceIte, eq_self, Int.reduceNeg, Int.reduceEq, Int.reduceLT, Int.reduceLE, Nat.zero_le, Nat.one_ne_zero]; trivial
    · omega
    · refine ⟨c0, Ne, rfl, fun _ _ _ _ => rfl, Nat.le_refl _, Nat.le_refl _, fun i hi => by rw [k1 _ _ (by decide) (by decide)]; exact S3 i hi, fun _ _ => rfl, fun i h1 h2 => by omega, fun i j h1 h2 => by omega, fun j hj => by omega, fun u hu => ?_⟩
      rw [k3]
      by_cases e : u = v
      · rw [if_pos e]; exact ⟨Int.le_refl _, fun _ => Or.inl e, fun _ => rfl⟩
      · rw [if_neg e]
        have := S5 u hu
        exact ⟨by omega, fun q => by omega, fun q => q.elim (fun q => absurd q e) (fun ⟨i, h1, h2, _⟩ => by omega)⟩
    · rintro k P s2 ⟨cn, Nx, rfl, -⟩; exact ⟨rfl, rfl⟩
    · rintro k P s2 - - ⟨cn, Nx, rfl, -⟩
      simp only [wpS_skip, wpS_break, wpS_cont, wpS_retV, wpS_throw, wpS_seq, wpS_if, wpS_trunc, yS_let, yS_inc, kgK_i, kgK_r, kok_nil, kok_i0, kok_is, kok_r0, kok_rs, kok_n0, kok_ns, xS_put, xS_putOp, xS_ast0, xS_ast1, xS_astOp, wpS_E, wpS_call, wpS_callS, wpS_ret, kThen_N, kThen_B, kThen_C, kThen_R, kThen_T, kNext_N, kNext_C, kNext_B, kNext_R, wpE_K, wpE_KL, xE_I, xE_R, wpE_J, xE_bin, wpE_ladd, wpE_i2l, xE_get, xE_ald0, xE_ald1, wpE_if, xE_max, xE_min, wpE_len, wpA_nil, wpA_snoc, xE_call, xE_callS, xC_C, xC_L, xC_Z, wpC_and, wpC_or, wpC_not, wpC_if, kcmp_0, kcmp_1, kcmp_2, kcmp_3, kcmp_4, kcmp_5, rR_inj, kgO_some, kgO_add, kgO_sub, kgO_mul, kgO_div, kgO_rem, kgO_and, kvI_inl, kvJ_inl, kgI_0, kgI_s, kgR_0, kgR_s, kst_nil, kst_0, kst_s, kNLl_nil, kNLl_i, kNLl_r, kNLl_n, ktag_i, ktag_r, List.length_cons, List.length_nil, List.take_succ_cons, List.take_zero, List.take_nil, List.nil_append, List.cons_append, decide_eq_true_eq, Bool.not_eq_true, Bool.not_eq_true', decide_eq_false_iff_not, ne_eq, Decidable.not_not, true_and, and_true, Nat.reduceAdd, Nat.reduceLeDiff, Nat.reduceEqDiff, Nat.le_refl, not_true_eq_false, not_false_eq_true, reduceIte, eq_self, Int.reduceNeg, Int.reduceEq, Int.reduceLT, Int.reduceLE, Nat.zero_le, Nat.one_ne_zero]
    · rintro k P s2 - hk ⟨cn, Nx, rfl, T1, T2, T3, T4, T5, T6, T7, T8, T9⟩
      have hkd : k < dgr So Si v := by rw [← hD]; exact hk
      obtain ⟨x, hx⟩ : ∃ x, x = atK Fo So Fi Si v k := ⟨_, rfl⟩
      obtain ⟨hxt, hxe⟩ := at_there w9 w11 hv hkd
      rw [← hx] at hxt hxe
      obtain ⟨x1, x2, x3, x4⟩ := th_lt hG hxt
      have ho := othr_lt hG (v := v) hxt
      have h8 := g8.agree (s' := s2) (fun k => T1 _ _ (by decide) (by decide)) (fun k => T1 _ _ (by decide) (by decide)) (fun k => T1 _ _ (by decide) (by decide))
      have h10 := g10.agree (s' := s2) (fun k => T1 _ _ (by decide) (by decide)) (fun k => T1 _ _ (by decide) (by decide)) (fun k => T1 _ _ (by decide) (by decide))
      have same : ∀ o k, o ≠ 64 → o ≠ 65 → o ≠ 67 → s2 o k = σ o k := fun o k o1 o2 o3 => by rw [T1 o k o2 o3, k1 o k o1 o3]; exact S1 o k o1 o2 o3
      rw [wpS_trunc]
      refine wpS_seq' (fun Q113 hQ113 => ?_)
      simp only [wpS_skip, wpS_break, wpS_cont, wpS_retV, wpS_throw, wpS_seq, wpS_if, wpS_trunc, yS_let, yS_inc, kgK_i, kgK_r, kok_nil, kok_i0, kok_is, kok_r0, kok_rs, kok_n0, kok_ns, xS_put, xS_putOp, xS_ast0, xS_ast1, xS_astOp, wpS_E, wpS_call, wpS_callS, wpS_ret, kThen_N, kThen_B, kThen_C, kThen_R, kThen_T, kNext_N, kNext_C, kNext_B, kNext_R, wpE_K, wpE_KL, xE_I, xE_R, wpE_J, xE_bin, wpE_ladd, wpE_i2l, xE_get, xE_ald0, xE_ald1, wpE_if, xE_max, xE_min, wpE_len, wpA_nil, wpA_snoc, xE_call, xE_callS, xC_C, xC_L, xC_Z, wpC_and, wpC_or, wpC_not, wpC_if, kcmp_0, kcmp_1, kcmp_2, kcmp_3, kcmp_4, kcmp_5, rR_inj, kgO_some, kgO_add, kgO_sub, kgO_mul, kgO_div, kgO_rem, kgO_and, kvI_inl, kvJ_inl, kgI_0, kgI_s, kgR_0, kgR_s, kst_nil, kst_0, kst_s, kNLl_nil, kNLl_i, kNLl_r, kNLl_n, ktag_i, ktag_r, List.length_cons, List.length_nil, List.take_succ_cons, List.take_zero, List.take_nil, List.nil_append, List.cons_append, decide_eq_true_eq, Bool.not_eq_true, Bool.not_eq_true', decide_eq_false_iff_not, ne_eq, Decidable.not_not, true_and, and_true, Nat.reduceAdd, Nat.reduceLeDiff, Nat.reduceEqDiff, Nat.le_refl, not_true_eq_false, not_false_eq_true, reduceIte, eq_self, Int.reduceNeg, Int.reduceEq, Int.reduceLT, Int.reduceLE, Nat.zero_le, Nat.one_ne_zero, ev_anew, ev_web]
      refine (webArcAt_ok h8 w9 h10 w11 hn3 hc9 hv hkd).mono ?_
      rintro r s' ⟨hs, rfl⟩
      subst s'
      rw [kgO_some, ← hx]
      refine (webOther_ok (fs := fs) (sn := sn) (fun x => by rw [same _ _ (by decide) (by decide) (by decide)]; exact w4 x) (fun x => by rw [same _ _ (by decide) (by decide) (by decide)]; exact w5 x) x2).mono ?_
      rintro r s' ⟨hs, rfl⟩
      subst s'
      rw [kgO_some]
      simp only [wpS_skip, wpS_break, wpS_cont, wpS_retV, wpS_throw, wpS_seq, wpS_if, wpS_trunc, yS_let, yS_inc, kgK_i, kgK_r, kok_nil, kok_i0, kok_is, kok_r0, kok_rs, kok_n0, kok_ns, xS_put, xS_putOp, xS_ast0, xS_ast1, xS_astOp, wpS_E, wpS_call, wpS_callS, wpS_ret, kThen_N, kThen_B, kThen_C, kThen_R, kThen_T, kNext_N, kNext_C, kNext_B, kNext_R, wpE_K, wpE_KL, xE_I, xE_R, wpE_J, xE_bin, wpE_ladd, wpE_i2l, xE_get, xE_ald0, xE_ald1, wpE_if, xE_max, xE_min, wpE_len, wpA_nil, wpA_snoc, xE_call, xE_callS, xC_C, xC_L, xC_Z, wpC_and, wpC_or, wpC_not, wpC_if, kcmp_0, kcmp_1, kcmp_2, kcmp_3, kcmp_4, kcmp_5, rR_inj, kgO_some, kgO_add, kgO_sub, kgO_mul, kgO_div, kgO_rem, kgO_and, kvI_inl, kvJ_inl, kgI_0, kgI_s, kgR_0, kgR_s, kst_nil, kst_0, kst_s, kNLl_nil, kNLl_i, kNLl_r, kNLl_n, ktag_i, ktag_r, List.length_cons, List.length_nil, List.take_succ_cons, List.take_zero, List.take_nil, List.nil_append, List.cons_append, decide_eq_true_eq, Bool.not_eq_true, Bool.not_eq_true', decide_eq_false_iff_not, ne_eq, Decidable.not_not, true_and, and_true, Nat.reduceAdd, Nat.reduceLeDiff, Nat.reduceEqDiff, Nat.le_refl, not_true_eq_false, not_false_eq_true, reduceIte, eq_self, Int.reduceNeg, Int.reduceEq, Int.reduceLT, Int.reduceLE, Nat.zero_le, Nat.one_ne_zero]
      rw [hQ113]
      clear hQ113
      refine kThen_N.mpr ?_
      obtain ⟨u, hu⟩ : ∃ u, u = othr fs sn x v := ⟨_, rfl⟩
      rw [← hu] at ho ⊢
      refine wpS_gen (fun Q3 hQ3 => ?_)
      obtain ⟨z1, z2⟩ := T9 u ho
      by_cases hm : s2 67 u = (v : Int)
      · simp only [wpS_skip, wpS_break, wpS_cont, wpS_retV, wpS_throw, wpS_seq, wpS_if, wpS_trunc, yS_let, yS_inc, kgK_i, kgK_r, kok_nil, kok_i0, kok_is, kok_r0, kok_rs, kok_n0, kok_ns, xS_put, xS_putOp, xS_ast0, xS_ast1, xS_astOp, wpS_E, wpS_call, wpS_callS, wpS_ret, kThen_N, kThen_B, kThen_C, kThen_R, kThen_T, kNext_N, kNext_C, kNext_B, kNext_R, wpE_K, wpE_KL, xE_I, xE_R, wpE_J, xE_bin, wpE_ladd, wpE_i2l, xE_get, xE_ald0, xE_ald1, wpE_if, xE_max, xE_min, wpE_len, wpA_nil, wpA_snoc, xE_call, xE_callS, xC_C, xC_L, xC_Z, wpC_and, wpC_or, wpC_not, wpC_if, kcmp_0, kcmp_1, kcmp_2, kcmp_3, kcmp_4, kcmp_5, rR_inj, kgO_some, kgO_add, kgO_sub, kgO_mul, kgO_div, kgO_rem, kgO_and, kvI_inl, kvJ_inl, kgI_0, kgI_s, kgR_0, kgR_s, kst_nil, kst_0, kst_s, kNLl_nil, kNLl_i, kNLl_r, kNLl_n, ktag_i, ktag_r, List.length_cons, List.length_nil, List.take_succ_cons, List.take_zero, List.take_nil, List.nil_append, List.cons_append, decide_eq_true_eq, Bool.not_eq_true, Bool.not_eq_true', decide_eq_false_iff_not, ne_eq, Decidable.not_not, true_and, and_true, Nat.reduceAdd, Nat.reduceLeDiff, Nat.reduceEqDiff, Nat.le_refl, not_true_eq_false, not_false_eq_true, reduceIte, eq_self, Int.reduceNeg, Int.reduceEq, Int.reduceLT, Int.reduceLE, Nat.zero_le, Nat.one_ne_zero, ev_anew, ev_anew_arr, Int.toNat_natCast, hm, decide_true, decide_false, Bool.false_eq_true, if_true, if_false, true_and, and_true, not_true_eq_false, not_false_eq_true]
        repeat refine And.intro (by omega) ?_
        rw [hQ3]
        refine kStep_N rfl ⟨cn, Nx, rfl, T1, T2, by omega, T4, T5, fun i h1 h2 => ⟨(T6 i h1 h2).1, by obtain ⟨j, j1, j2⟩ := (T6 i h1 h2).2; exact ⟨j, by omega, j2⟩⟩, T7, fun j hj hne => ?_, T9⟩
        by_cases e : j = k
        · subst e
          rw [← hx, ← hu] at hne ⊢
          exact (z2.mp hm).elim (fun q => absurd q hne) id
        · exact T8 j (by omega) hne
      · have hnv : u ≠ v := fun e => hm (z2.mpr (Or.inl e))
        have hnx : ∀ i, c0 ≤ i → i < cn → Nx i ≠ u := fun i h1 h2 e => hm (z2.mpr (Or.inr ⟨i, h1, h2, e⟩))
        simp only [wpS_skip, wpS_break, wpS_cont, wpS_retV, wpS_throw, wpS_seq, wpS_if, wpS_trunc, yS_let, yS_inc, kgK_i, kgK_r, kok_nil, kok_i0, kok_is, kok_r0, kok_rs, kok_n0, kok_ns, xS_put, xS_putOp, xS_ast0, xS_ast1, xS_astOp, wpS_E, wpS_call, wpS_callS, wpS_ret, kThen_N, kThen_B, kThen_C, kThen_R, kThen_T, kNext_N, kNext_C, kNext_B, kNext_R, wpE_K, wpE_KL, xE_I, xE_R, wpE_J, xE_bin, wpE_ladd, wpE_i2l, xE_get, xE_ald0, xE_ald1, wpE_if, xE_max, xE_min, wpE_len, wpA_nil, wpA_snoc, xE_call, xE_callS, xC_C, xC_L, xC_Z, wpC_and, wpC_or, wpC_not, wpC_if, kcmp_0, kcmp_1, kcmp_2, kcmp_3, kcmp_4, kcmp_5, rR_inj, kgO_some, kgO_add, kgO_sub, kgO_mul, kgO_div, kgO_rem, kgO_and, kvI_inl, kvJ_inl, kgI_0, kgI_s, kgR_0, kgR_s, kst_nil, kst_0, kst_s, kNLl_nil, kNLl_i, kNLl_r, kNLl_n, ktag_i, ktag_r, List.length_cons, List.length_nil, List.take_succ_cons, List.take_zero, List.take_nil, List.nil_append, List.cons_append, decide_eq_true_eq, Bool.not_eq_true, Bool.not_eq_true', decide_eq_false_iff_not, ne_eq, Decidable.not_not, true_and, and_true, Nat.reduceAdd, Nat.reduceLeDiff, Nat.reduceEqDiff, Nat.le_refl, not_true_eq_false, not_false_eq_true, reduceIte, eq_self, Int.reduceNeg, Int.reduceEq, Int.reduceLT, Int.reduceLE, Nat.zero_le, Nat.one_ne_zero, ev_anew, ev_anew_arr, Int.toNat_natCast, hm, decide_true, decide_false, Bool.false_eq_true, if_true, if_false, true_and, and_true, not_true_eq_false, not_false_eq_true]
        repeat refine And.intro (by omega) ?_
        rw [hQ3]
        refine kStep_N rfl ⟨cn + 1, fun i => if i = cn then u else Nx i, rfl, fun o k o1 o2 => by rw [kup_ne o1, kup_ne o2]; exact T1 o k o1 o2, by omega, by omega, fun i hi => ?_, fun i hi => ?_, fun i h1 h2 => ?_, fun i j h1 h2 h3 => ?_, fun j hj hne => ?_, fun w hw => ?_⟩
        · rw [kup_eq]
          dsimp only
          split
          · rfl
          · rw [kup_ne (by decide)]; exact T4 i (by omega)
        · dsimp only; rw [if_neg (by omega)]; exact T5 i hi
        · dsimp only
          by_cases e : i = cn
          · rw [if_pos e]; exact ⟨hnv, k, by omega, by rw [← hx, ← hu]⟩
          · rw [if_neg e]
            obtain ⟨q1, j, q2, q3⟩ := T6 i h1 (by omega)
            exact ⟨q1, j, by omega, q3⟩
        · dsimp only
          rw [if_neg (by omega : ¬ i = cn)]
          by_cases e : j = cn
          · rw [if_pos e]; exact hnx i h1 (by omega)
          · rw [if_neg e]; exact T7 i j h1 h2 (by omega)
        · dsimp only
          by_cases e : j = k
          · subst e
            rw [← hx, ← hu]
            exact ⟨cn, by omega, by omega, if_pos rfl⟩
          · obtain ⟨i, i1, i2, i3⟩ := T8 j (by omega) hne
            exact ⟨i, i1, by omega, by rw [if_neg (by omega)]; exact i3⟩
        · rw [kup_ne (by decide), kup_eq]
          dsimp only
          by_cases e : w = u
          · rw [if_pos e]
            exact ⟨Int.le_refl _, fun _ => Or.inr ⟨cn, by omega, by omega, by rw [if_pos rfl, e]⟩, fun _ => rfl⟩
          · rw [if_neg e]
            obtain ⟨y1, y2⟩ := T9 w hw
            refine ⟨y1, y2.trans ⟨fun q => q.imp id (fun ⟨i, i1, i2, i3⟩ => ⟨i, i1, by omega, by rw [if_neg (by omega)]; exact i3⟩), fun q => q.imp id (fun ⟨i, i1, i2, i3⟩ => ?_)⟩⟩
            by_cases e2 : i = cn
            · rw [if_pos e2] at i3; exact absurd i3.symm e
            · rw [if_neg e2] at i3; exact ⟨i, i1, by omega, i3⟩
    · rintro P s2 ⟨cn, Nx, rfl, T1, T2, T3, T4, T5, T6, T7, T8, T9⟩
      have memN : ∀ u, N v u ↔ (u ≠ v ∧ ∃ j, j < D ∧ othr fs sn (atK Fo So Fi Si v j) v = u) := by
        intro u
        rw [hN, hD]
        constructor
        · rintro ⟨h1, x, h2, h3⟩
          obtain ⟨j, j1, j2⟩ := at_all w9 w11 hv h2 (h3.elim (fun q => Or.inl q.1) (fun q => Or.inr q.1))
          exact ⟨fun e => h1 e.symm, j, j1, by rw [j2]; exact othr_eq h3⟩
        · rintro ⟨h1, j, j1, rfl⟩
          obtain ⟨g1, g2⟩ := at_there w9 w11 hv j1
          exact ⟨fun e => h1 e.symm, _, g1, othr_at g2⟩
      have lt : ∀ j, j < D → othr fs sn (atK Fo So Fi Si v j) v < n := fun j hj => othr_lt hG (at_there w9 w11 hv (by rw [← hD]; exact hj)).1
      obtain ⟨p1, p2, p3, p4, p5⟩ := S4
      rw [hQ2]
      have hcm : ∀ w, w < v → St (w + 1) ≤ c0 := fun w hw => by rw [hc0]; exact nrP.mono (m := v) ⟨p1, p2, p3, p4, p5⟩ (by omega) (Nat.le_refl _)
      refine kStep_N (P := [some (.inr (.inl 13)), some (.inl (cn : Int))]) rfl ⟨fun w => if w = v + 1 then cn else St w, Nx, ?_, fun o k o1 o2 o3 => by rw [T1 o k o2 o3, k1 o k o1 o3]; exact S1 o k o1 o2 o3, fun w hw => ?_, fun i hi => T4 i (by simpa using hi), ⟨by simpa using p1, fun w hw => ?_, fun w i hw h1 h2 => ?_, fun w i j hw h1 h2 h3 => ?_, fun w u hw hu hNu => ?_⟩, fun u hu => ?_, ?_⟩
      · simp
      · dsimp only
        rw [if_neg (by omega), T1 _ _ (by decide) (by decide), k2]
        by_cases e : w = v
        · rw [if_pos e, e, ← hc0]
        · rw [if_neg e]; exact S2 w (by omega)
      · dsimp only
        rw [if_neg (by omega)]
        by_cases e : w = v
        · subst e; rw [if_pos rfl, ← hc0]; exact T2
        · rw [if_neg (by omega)]; exact p2 w (by omega)
      · dsimp only at h1 h2
        rw [if_neg (by omega)] at h1
        by_cases e : w = v
        · subst e
          rw [if_pos rfl] at h2
          rw [← hc0] at h1
          obtain ⟨q1, j, q2, q3⟩ := T6 i h1 h2
          exact ⟨(memN _).mpr ⟨q1, j, q2, q3⟩, by rw [← q3]; exact lt j q2⟩
        · rw [if_neg (by omega)] at h2
          have := hcm w (by omega)
          rw [T5 i (by omega)]
          exact p3 w i (by omega) h1 h2
      · dsimp only at h1 h3
        rw [if_neg (by omega)] at h1
        by_cases e : w = v
        · subst e
          rw [if_pos rfl] at h3
          rw [← hc0] at h1
          exact T7 i j h1 h2 h3
        · rw [if_neg (by omega)] at h3
          have := hcm w (by omega)
          rw [T5 i (by omega), T5 j (by omega)]
          exact p4 w i j (by omega) h1 h2 h3
      · dsimp only
        rw [if_neg (by omega)]
        by_cases e : w = v
        · subst e
          rw [if_pos rfl, ← hc0]
          obtain ⟨q1, j, q2, q3⟩ := (memN u).mp hNu
          obtain ⟨i, i1, i2, i3⟩ := T8 j q2 (by rw [q3]; exact q1)
          exact ⟨i, i1, i2, by rw [i3, q3]⟩
        · rw [if_neg (by omega)]
          obtain ⟨i, i1, i2, i3⟩ := p5 w u (by omega) hu hNu
          have := hcm w (by omega)
          exact ⟨i, i1, i2, by rw [T5 i (by omega)]; exact i3⟩
      · have := (T9 u hu).1
        omega
      · simp only [if_true]; omega
  · rintro P s ⟨St, Ne, rfl, S1, S2, S3, S4, S5, S6⟩
    rw [hQ1]
    refine kThen_N.mpr ?_
    have n1 : s 1 3 = n := by rw [S1 _ _ (by decide) (by decide) (by decide)]; exact w1
    have hS18 : St n ≤ 1800 := by have h1 := w9.2.1; have h2 := w11.2.1; omega
    refine wpS_gen (fun Q114 hQ114 => ?_)
    simp only [wpS_skip, wpS_break, wpS_cont, wpS_retV, wpS_throw, wpS_seq, wpS_if, wpS_trunc, yS_let, yS_inc, kgK_i, kgK_r, kok_nil, kok_i0, kok_is, kok_r0, kok_rs, kok_n0, kok_ns, xS_put, xS_putOp, xS_ast0, xS_ast1, xS_astOp, wpS_E, wpS_call, wpS_callS, wpS_ret, kThen_N, kThen_B, kThen_C, kThen_R, kThen_T, kNext_N, kNext_C, kNext_B, kNext_R, wpE_K, wpE_KL, xE_I, xE_R, wpE_J, xE_bin, wpE_ladd, wpE_i2l, xE_get, xE_ald0, xE_ald1, wpE_if, xE_max, xE_min, wpE_len, wpA_nil, wpA_snoc, xE_call, xE_callS, xC_C, xC_L, xC_Z, wpC_and, wpC_or, wpC_not, wpC_if, kcmp_0, kcmp_1, kcmp_2, kcmp_3, kcmp_4, kcmp_5, rR_inj, kgO_some, kgO_add, kgO_sub, kgO_mul, kgO_div, kgO_rem, kgO_and, kvI_inl, kvJ_inl, kgI_0, kgI_s, kgR_0, kgR_s, kst_nil, kst_0, kst_s, kNLl_nil, kNLl_i, kNLl_r, kNLl_n, ktag_i, ktag_r, List.length_cons, List.length_nil, List.take_succ_cons, List.take_zero, List.take_nil, List.nil_append, List.cons_append, decide_eq_true_eq, Bool.not_eq_true, Bool.not_eq_true', decide_eq_false_iff_not, ne_eq, Decidable.not_not, true_and, and_true, Nat.reduceAdd, Nat.reduceLeDiff, Nat.reduceEqDiff, Nat.le_refl, not_true_eq_false, not_false_eq_true, reduceIte, eq_self, Int.reduceNeg, Int.reduceEq, Int.reduceLT, Int.reduceLE, Nat.zero_le, Nat.one_ne_zero, ev_anew, ev_anew_arr, ev_web, n1, Int.toNat_natCast]
    repeat refine And.intro (by omega) ?_
    rw [hQ114]
    clear hQ114 Q114
    rw [hQ0]
    refine kThen_N.mpr (wpS_retV.mpr ⟨none, rfl, rfl, ?_⟩)
    refine ⟨rfl, fun o k o1 o2 o3 => by rw [kup_ne o1]; exact S1 o k o1 o2 o3, St, Ne, ⟨fun v hv => ?_, fun i hi => by rw [kup_ne (by decide)]; exact S3 i hi, hS18⟩, S4⟩
    rw [kup_eq]
    by_cases e : v = n
    · rw [if_pos e, e]
    · rw [if_neg e]; exact S2 v (by omega)
