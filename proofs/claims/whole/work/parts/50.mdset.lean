/-! NEIGHBOURS AND THE SET: the reference -/
def nbr (W : Nat → Prop) (fs sn : Nat → Nat) (u v : Nat) : Prop := u ≠ v ∧ uE W fs sn u v
theorem nbr.symm {W : Nat → Prop} {fs sn : Nat → Nat} {u v : Nat} (h : nbr W fs sn u v) : nbr W fs sn v u := ⟨fun e => h.1 e.symm, h.2.symm⟩
def ahd (wt : Nat → Int) (u v : Nat) : Prop := wt v < wt u ∨ (wt u = wt v ∧ u < v)
theorem ahd.trans {wt : Nat → Int} {a b c : Nat} (h1 : ahd wt a b) (h2 : ahd wt b c) : ahd wt a c := by unfold ahd at *; omega
theorem ahd.irrefl {wt : Nat → Int} {a : Nat} : ¬ ahd wt a a := by unfold ahd; omega
theorem ahd.tri {wt : Nat → Int} {a b : Nat} (h : a ≠ b) : ahd wt a b ∨ ahd wt b a := by unfold ahd; omega
def isSet (n : Nat) (N : Nat → Nat → Prop) (wt : Nat → Int) (S : Nat → Prop) : Prop := ∀ v, v < n → (S v ↔ ∀ u, u < n → N u v → ahd wt u v → ¬ S u)
theorem isSet.uniq {n : Nat} {N : Nat → Nat → Prop} {wt : Nat → Int} {S S' : Nat → Prop} (h : isSet n N wt S) (h' : isSet n N wt S') : ∀ v, v < n → (S v ↔ S' v) := by
  have key : ∀ m v, v < n → cntP (fun u => ahd wt u v) n < m → (S v ↔ S' v) := by
    intro m
    induction m with
    | zero => intro v _ h; omega
    | succ m ih =>
      intro v hv hm
      rw [h v hv, h' v hv]
      have e : ∀ u, u < n → ahd wt u v → (S u ↔ S' u) := by
        intro u hu hau
        refine ih u hu ?_
        have h1 : cntP (fun w => ahd wt w u ∨ w = u) n ≤ cntP (fun w => ahd wt w v) n := cntP_le (fun w _ q => q.elim (fun q => q.trans hau) (fun q => q ▸ hau))
        rw [cntP_insert (P := fun w => ahd wt w u) hu ahd.irrefl] at h1
        omega
      exact ⟨fun q u hu a b c => q u hu a b ((e u hu b).mpr c), fun q u hu a b c => q u hu a b ((e u hu b).mp c)⟩
  exact fun v hv => key _ v hv (Nat.lt_succ_self _)
/-- the reference's table of neighbours -/
def nearM (s : kS) (n : Nat) (N : Nat → Nat → Prop) : Prop := (∀ v u, v < n → u < n → (s 97 (300 * v + u) = 0 ∨ s 97 (300 * v + u) = 1) ∧ (s 97 (300 * v + u) = 1 ↔ N v u)) ∧ ∀ v, v < n → s 98 v = (cntP (N v) n : Int)
section MS
variable {σ : kS} {n c ar : Nat} {li fs sn lv : Nat → Nat} {tr lo : Nat → Int}
theorem mdNeighbours_ok (hG : gOk n c ar li fs sn) (hM : RM σ n c ar li fs sn lv tr lo) : wpF F_Md_neighbours [.inr (.inl 14)] σ (fun r s => r = none ∧ (∀ o k, o ≠ 97 → o ≠ 98 → s o k = σ o k) ∧ nearM s n (nbr (th c li) fs sn)) := by
  have hn3 := hG.1
  have hc9 := hG.2.1
  obtain ⟨w1, w2, w3, w4, w5, w6, w7, w8, w9, w10⟩ := id hM
  unfold F_Md_neighbours
  rw [wpF_kF]
  refine ⟨rfl, rfl, ?_⟩
  unfold s_Md_neighbours
  simp only [List.map_cons, List.map_nil]
  refine wpS_seq' (fun Q0 hQ0 => ?_)
  refine wpS_seq' (fun Q1 hQ1 => ?_)
  unfold l_Md_neighbours_2
  refine wpS_fp (fun i s => (∀ o k, o ≠ 97 → o ≠ 98 → s o k = σ o k) ∧ ∀ v, v < i → (∀ u, u < n → s 97 (300 * v + u) = 0) ∧ s 98 v = 0) 0 n rfl rfl ?_ ?_ ?_ ?_ ?_ ?_
  · simp only [wpS_skip, wpS_break, wpS_cont, wpS_retV, wpS_throw, wpS_seq, wpS_if, wpS_trunc, yS_let, yS_inc, kgK_i, kgK_r, kok_nil, kok_i0, kok_is, kok_r0, kok_rs, kok_n0, kok_ns, xS_put, xS_putOp, xS_ast0, xS_ast1, xS_astOp, wpS_E, wpS_call, wpS_callS, wpS_ret, kThen_N, kThen_B, kThen_C, kThen_R, kThen_T, kNext_N, kNext_C, kNext_B, kNext_R, wpE_K, wpE_KL, xE_I, xE_R, wpE_J, xE_bin, wpE_ladd, wpE_i2l, xE_get, xE_ald0, xE_ald1, wpE_if, xE_max, xE_min, wpE_len, wpA_nil, wpA_snoc, xE_call, xE_callS, xC_C, xC_L, xC_Z, wpC_and, wpC_or, wpC_not, wpC_if, kcmp_0, kcmp_1, kcmp_2, kcmp_3, kcmp_4, kcmp_5, rR_inj, kgO_some, kgO_add, kgO_sub, kgO_mul, kgO_div, kgO_rem, kgO_and, kvI_inl, kvJ_inl, kgI_0, kgI_s, kgR_0, kgR_s, kst_nil, kst_0, kst_s, kNLl_nil, kNLl_i, kNLl_r, kNLl_n, ktag_i, ktag_r, List.length_cons, List.length_nil, List.take_succ_cons, List.take_zero, List.take_nil, List.nil_append, List.cons_append, decide_eq_true_eq, Bool.not_eq_true, Bool.not_eq_true', decide_eq_false_iff_not, ne_eq, Decidable.not_not, true_and, and_true, Nat.reduceAdd, Nat.reduceLeDiff, Nat.reduceEqDiff, Nat.le_refl, not_true_eq_false, not_false_eq_true, reduceIte, eq_self, Int.reduceNeg, Int.reduceEq, Int.reduceLT, Int.reduceLE, Nat.zero_le, Nat.one_ne_zero]; trivial
  · omega
  · exact ⟨fun _ _ _ _ => rfl, fun v hv => by omega⟩
  · rintro i s - - ⟨S1, -⟩
    simp only [wpS_skip, wpS_break, wpS_cont, wpS_retV, wpS_throw, wpS_seq, wpS_if, wpS_trunc, yS_let, yS_inc, kgK_i, kgK_r, kok_nil, kok_i0, kok_is, kok_r0, kok_rs, kok_n0, kok_ns, xS_put, xS_putOp, xS_ast0, xS_ast1, xS_astOp, wpS_E, wpS_call, wpS_callS, wpS_ret, kThen_N, kThen_B, kThen_C, kThen_R, kThen_T, kNext_N, kNext_C, kNext_B, kNext_R, wpE_K, wpE_KL, xE_I, xE_R, wpE_J, xE_bin, wpE_ladd, wpE_i2l, xE_get, xE_ald0, xE_ald1, wpE_if, xE_max, xE_min, wpE_len, wpA_nil, wpA_snoc, xE_call, xE_callS, xC_C, xC_L, xC_Z, wpC_and, wpC_or, wpC_not, wpC_if, kcmp_0, kcmp_1, kcmp_2, kcmp_3, kcmp_4, kcmp_5, rR_inj, kgO_some, kgO_add, kgO_sub, kgO_mul, kgO_div, kgO_rem, kgO_and, kvI_inl, kvJ_inl, kgI_0, kgI_s, kgR_0, kgR_s, kst_nil, kst_0, kst_s, kNLl_nil, kNLl_i, kNLl_r, kNLl_n, ktag_i, ktag_r, List.length_cons, List.length_nil, List.take_succ_cons, List.take_zero, List.take_nil, List.nil_append, List.cons_append, decide_eq_true_eq, Bool.not_eq_true, Bool.not_eq_true', decide_eq_false_iff_not, ne_eq, Decidable.not_not, true_and, and_true, Nat.reduceAdd, Nat.reduceLeDiff, Nat.reduceEqDiff, Nat.le_refl, not_true_eq_false, not_false_eq_true, reduceIte, eq_self, Int.reduceNeg, Int.reduceEq, Int.reduceLT, Int.reduceLE, Nat.zero_le, Nat.one_ne_zero, ev_model, show s 14 1 = (n : Int) by rw [S1 _ _ (by decide) (by decide)]; exact w1]
  · rintro i s - hi ⟨S1, S2⟩
    refine wpS_seq' (fun Q2 hQ2 => ?_)
    unfold l_Md_neighbours_1
    refine wpS_fp (fun j s' => (∀ o k, o ≠ 97 → s' o k = s o k) ∧ (∀ v, v < i → ∀ u, u < n → s' 97 (300 * v + u) = 0) ∧ ∀ u, u < j → s' 97 (300 * i + u) = 0) 0 n rfl rfl ?_ ?_ ?_ ?_ ?_ ?_
    · simp only [wpS_skip, wpS_break, wpS_cont, wpS_retV, wpS_throw, wpS_seq, wpS_if, wpS_trunc, yS_let, yS_inc, kgK_i, kgK_r, kok_nil, kok_i0, kok_is, kok_r0, kok_rs, kok_n0, kok_ns, xS_put, xS_putOp, xS_ast0, xS_ast1, xS_astOp, wpS_E, wpS_call, wpS_callS, wpS_ret, kThen_N, kThen_B, kThen_C, kThen_R, kThen_T, kNext_N, kNext_C, kNext_B, kNext_R, wpE_K, wpE_KL, xE_I, xE_R, wpE_J, xE_bin, wpE_ladd, wpE_i2l, xE_get, xE_ald0, xE_ald1, wpE_if, xE_max, xE_min, wpE_len, wpA_nil, wpA_snoc, xE_call, xE_callS, xC_C, xC_L, xC_Z, wpC_and, wpC_or, wpC_not, wpC_if, kcmp_0, kcmp_1, kcmp_2, kcmp_3, kcmp_4, kcmp_5, rR_inj, kgO_some, kgO_add, kgO_sub, kgO_mul, kgO_div, kgO_rem, kgO_and, kvI_inl, kvJ_inl, kgI_0, kgI_s, kgR_0, kgR_s, kst_nil, kst_0, kst_s, kNLl_nil, kNLl_i, kNLl_r, kNLl_n, ktag_i, ktag_r, List.length_cons, List.length_nil, List.take_succ_cons, List.take_zero, List.take_nil, List.nil_append, List.cons_append, decide_eq_true_eq, Bool.not_eq_true, Bool.not_eq_true', decide_eq_false_iff_not, ne_eq, Decidable.not_not, true_and, and_true, Nat.reduceAdd, Nat.reduceLeDiff, Nat.reduceEqDiff, Nat.le_refl, not_true_eq_false, not_false_eq_true, reduceIte, eq_self, Int.reduceNeg, Int.reduceEq, Int.reduceLT, Int.reduceLE, Nat.zero_le, Nat.one_ne_zero]; trivial
    · omega
    · exact ⟨fun _ _ _ => rfl, fun v hv => (S2 v hv).1, fun u hu => by omega⟩
    · rintro j s' - - ⟨T1, -⟩
      simp only [wpS_skip, wpS_break, wpS_cont, wpS_retV, wpS_throw, wpS_seq, wpS_if, wpS_trunc, yS_let, yS_inc, kgK_i, kgK_r, kok_nil, kok_i0, kok_is, kok_r0, kok_rs, kok_n0, kok_ns, xS_put, xS_putOp, xS_ast0, xS_ast1, xS_astOp, wpS_E, wpS_call, wpS_callS, wpS_ret, kThen_N, kThen_B, kThen_C, kThen_R, kThen_T, kNext_N, kNext_C, kNext_B, kNext_R, wpE_K, wpE_KL, xE_I, xE_R, wpE_J, xE_bin, wpE_ladd, wpE_i2l, xE_get, xE_ald0, xE_ald1, wpE_if, xE_max, xE_min, wpE_len, wpA_nil, wpA_snoc, xE_call, xE_callS, xC_C, xC_L, xC_Z, wpC_and, wpC_or, wpC_not, wpC_if, kcmp_0, kcmp_1, kcmp_2, kcmp_3, kcmp_4, kcmp_5, rR_inj, kgO_some, kgO_add, kgO_sub, kgO_mul, kgO_div, kgO_rem, kgO_and, kvI_inl, kvJ_inl, kgI_0, kgI_s, kgR_0, kgR_s, kst_nil, kst_0, kst_s, kNLl_nil, kNLl_i, kNLl_r, kNLl_n, ktag_i, ktag_r, List.length_cons, List.length_nil, List.take_succ_cons, List.take_zero, List.take_nil, List.nil_append, List.cons_append, decide_eq_true_eq, Bool.not_eq_true, Bool.not_eq_true', decide_eq_false_iff_not, ne_eq, Decidable.not_not, true_and, and_true, Nat.reduceAdd, Nat.reduceLeDiff, Nat.reduceEqDiff, Nat.le_refl, not_true_eq_false, not_false_eq_true, reduceIte, eq_self, Int.reduceNeg, Int.reduceEq, Int.reduceLT, Int.reduceLE, Nat.zero_le, Nat.one_ne_zero, ev_model, show s' 14 1 = (n : Int) by rw [T1 _ _ (by decide), S1 _ _ (by decide) (by decide)]; exact w1]
    · rintro j s' - hj ⟨T1, T2, T3⟩
      refine wpS_gen (fun Q3 hQ3 => ?_)
      have t1 : (300 * (i : Int) + j).toNat = 300 * i + j := by omega
      simp only [wpS_skip, wpS_break, wpS_cont, wpS_retV, wpS_throw, wpS_seq, wpS_if, wpS_trunc, yS_let, yS_inc, kgK_i, kgK_r, kok_nil, kok_i0, kok_is, kok_r0, kok_rs, kok_n0, kok_ns, xS_put, xS_putOp, xS_ast0, xS_ast1, xS_astOp, wpS_E, wpS_call, wpS_callS, wpS_ret, kThen_N, kThen_B, kThen_C, kThen_R, kThen_T, kNext_N, kNext_C, kNext_B, kNext_R, wpE_K, wpE_KL, xE_I, xE_R, wpE_J, xE_bin, wpE_ladd, wpE_i2l, xE_get, xE_ald0, xE_ald1, wpE_if, xE_max, xE_min, wpE_len, wpA_nil, wpA_snoc, xE_call, xE_callS, xC_C, xC_L, xC_Z, wpC_and, wpC_or, wpC_not, wpC_if, kcmp_0, kcmp_1, kcmp_2, kcmp_3, kcmp_4, kcmp_5, rR_inj, kgO_some, kgO_add, kgO_sub, kgO_mul, kgO_div, kgO_rem, kgO_and, kvI_inl, kvJ_inl, kgI_0, kgI_s, kgR_0, kgR_s, kst_nil, kst_0, kst_s, kNLl_nil, kNLl_i, kNLl_r, kNLl_n, ktag_i, ktag_r, List.length_cons, List.length_nil, List.take_succ_cons, List.take_zero, List.take_nil, List.nil_append, List.cons_append, decide_eq_true_eq, Bool.not_eq_true, Bool.not_eq_true', decide_eq_false_iff_not, ne_eq, Decidable.not_not, true_and, and_true, Nat.reduceAdd, Nat.reduceLeDiff, Nat.reduceEqDiff, Nat.le_refl, not_true_eq_false, not_false_eq_true, reduceIte, eq_self, Int.reduceNeg, Int.reduceEq, Int.reduceLT, Int.reduceLE, Nat.zero_le, Nat.one_ne_zero, ev_model, ev_model_arr, t1, true_or]
      repeat refine And.intro (by omega) ?_
      rw [hQ3]
      refine kStep_N rfl ⟨rfl, fun o k ho => by rw [kup_ne ho]; exact T1 o k ho, fun v hv u hu => ?_, fun u hu => ?_⟩
      · rw [kup_eq]
        split
        · rfl
        · exact T2 v hv u hu
      · rw [kup_eq]
        split
        · rfl
        · rename_i q; exact T3 u (by omega)
    · rintro s' ⟨T1, T2, T3⟩
      rw [hQ2]
      refine kThen_N.mpr ?_
      refine wpS_gen (fun Q101 hQ101 => ?_)
      simp only [wpS_skip, wpS_break, wpS_cont, wpS_retV, wpS_throw, wpS_seq, wpS_if, wpS_trunc, yS_let, yS_inc, kgK_i, kgK_r, kok_nil, kok_i0, kok_is, kok_r0, kok_rs, kok_n0, kok_ns, xS_put, xS_putOp, xS_ast0, xS_ast1, xS_astOp, wpS_E, wpS_call, wpS_callS, wpS_ret, kThen_N, kThen_B, kThen_C, kThen_R, kThen_T, kNext_N, kNext_C, kNext_B, kNext_R, wpE_K, wpE_KL, xE_I, xE_R, wpE_J, xE_bin, wpE_ladd, wpE_i2l, xE_get, xE_ald0, xE_ald1, wpE_if, xE_max, xE_min, wpE_len, wpA_nil, wpA_snoc, xE_call, xE_callS, xC_C, xC_L, xC_Z, wpC_and, wpC_or, wpC_not, wpC_if, kcmp_0, kcmp_1, kcmp_2, kcmp_3, kcmp_4, kcmp_5, rR_inj, kgO_some, kgO_add, kgO_sub, kgO_mul, kgO_div, kgO_rem, kgO_and, kvI_inl, kvJ_inl, kgI_0, kgI_s, kgR_0, kgR_s, kst_nil, kst_0, kst_s, kNLl_nil, kNLl_i, kNLl_r, kNLl_n, ktag_i, ktag_r, List.length_cons, List.length_nil, List.take_succ_cons, List.take_zero, List.take_nil, List.nil_append, List.cons_append, decide_eq_true_eq, Bool.not_eq_true, Bool.not_eq_true', decide_eq_false_iff_not, ne_eq, Decidable.not_not, true_and, and_true, Nat.reduceAdd, Nat.reduceLeDiff, Nat.reduceEqDiff, Nat.le_refl, not_true_eq_false, not_false_eq_true, reduceIte, eq_self, Int.reduceNeg, Int.reduceEq, Int.reduceLT, Int.reduceLE, Nat.zero_le, Nat.one_ne_zero, ev_model, ev_model_arr, Int.toNat_natCast]
      repeat refine And.intro (by omega) ?_
      rw [hQ101]
      clear hQ101 Q101
      refine kStep_N rfl ⟨rfl, fun o k o1 o2 => by rw [kup_ne o2, T1 o k o1]; exact S1 o k o1 o2, fun v hv => ⟨fun u hu => ?_, ?_⟩⟩
      · rw [kup_ne (by decide)]
        by_cases e : v = i
        · subst e; exact T3 u hu
        · exact T2 v (by omega) u hu
      · rw [kup_eq]
        split
        · rfl
        · rw [T1 _ _ (by decide)]; exact (S2 v (by omega)).2
  · rintro s ⟨S1, S2⟩
    rw [hQ1]
    refine kThen_N.mpr ?_
    refine wpS_gen (fun Q2 hQ2 => ?_)
    unfold l_Md_neighbours_3
    refine wpS_fp (fun k s' => (∀ o k, o ≠ 97 → o ≠ 98 → s' o k = σ o k) ∧ nearM s' n (nbr (th k li) fs sn)) 0 c rfl rfl ?_ ?_ ?_ ?_ ?_ ?_
    · simp only [wpS_skip, wpS_break, wpS_cont, wpS_retV, wpS_throw, wpS_seq, wpS_if, wpS_trunc, yS_let, yS_inc, kgK_i, kgK_r, kok_nil, kok_i0, kok_is, kok_r0, kok_rs, kok_n0, kok_ns, xS_put, xS_putOp, xS_ast0, xS_ast1, xS_astOp, wpS_E, wpS_call, wpS_callS, wpS_ret, kThen_N, kThen_B, kThen_C, kThen_R, kThen_T, kNext_N, kNext_C, kNext_B, kNext_R, wpE_K, wpE_KL, xE_I, xE_R, wpE_J, xE_bin, wpE_ladd, wpE_i2l, xE_get, xE_ald0, xE_ald1, wpE_if, xE_max, xE_min, wpE_len, wpA_nil, wpA_snoc, xE_call, xE_callS, xC_C, xC_L, xC_Z, wpC_and, wpC_or, wpC_not, wpC_if, kcmp_0, kcmp_1, kcmp_2, kcmp_3, kcmp_4, kcmp_5, rR_inj, kgO_some, kgO_add, kgO_sub, kgO_mul, kgO_div, kgO_rem, kgO_and, kvI_inl, kvJ_inl, kgI_0, kgI_s, kgR_0, kgR_s, kst_nil, kst_0, kst_s, kNLl_nil, kNLl_i, kNLl_r, kNLl_n, ktag_i, ktag_r, List.length_cons, List.length_nil, List.take_succ_cons, List.take_zero, List.take_nil, List.nil_append, List.cons_append, decide_eq_true_eq, Bool.not_eq_true, Bool.not_eq_true', decide_eq_false_iff_not, ne_eq, Decidable.not_not, true_and, and_true, Nat.reduceAdd, Nat.reduceLeDiff, Nat.reduceEqDiff, Nat.le_refl, not_true_eq_false, not_false_eq_true, reduceIte, eq_self, Int.reduceNeg, Int.reduceEq, Int.reduceLT, Int.reduceLE, Nat.zero_le, Nat.one_ne_zero]; trivial
    · omega
    · have no : ∀ u v, ¬ nbr (th 0 li) fs sn u v := by
        rintro u v ⟨-, x, ⟨k, hk, -⟩, -⟩; omega
      refine ⟨S1, fun v u hv hu => ?_, fun v hv => ?_⟩
      · rw [(S2 v hv).1 u hu]
        exact ⟨Or.inl rfl, fun q => by omega, fun q => absurd q (no v u)⟩
      · rw [(S2 v hv).2, cntP_zero (fun u _ q => no v u q)]; rfl
    · rintro k s' - - ⟨T1, -⟩
      simp only [wpS_skip, wpS_break, wpS_cont, wpS_retV, wpS_throw, wpS_seq, wpS_if, wpS_trunc, yS_let, yS_inc, kgK_i, kgK_r, kok_nil, kok_i0, kok_is, kok_r0, kok_rs, kok_n0, kok_ns, xS_put, xS_putOp, xS_ast0, xS_ast1, xS_astOp, wpS_E, wpS_call, wpS_callS, wpS_ret, kThen_N, kThen_B, kThen_C, kThen_R, kThen_T, kNext_N, kNext_C, kNext_B, kNext_R, wpE_K, wpE_KL, xE_I, xE_R, wpE_J, xE_bin, wpE_ladd, wpE_i2l, xE_get, xE_ald0, xE_ald1, wpE_if, xE_max, xE_min, wpE_len, wpA_nil, wpA_snoc, xE_call, xE_callS, xC_C, xC_L, xC_Z, wpC_and, wpC_or, wpC_not, wpC_if, kcmp_0, kcmp_1, kcmp_2, kcmp_3, kcmp_4, kcmp_5, rR_inj, kgO_some, kgO_add, kgO_sub, kgO_mul, kgO_div, kgO_rem, kgO_and, kvI_inl, kvJ_inl, kgI_0, kgI_s, kgR_0, kgR_s, kst_nil, kst_0, kst_s, kNLl_nil, kNLl_i, kNLl_r, kNLl_n, ktag_i, ktag_r, List.length_cons, List.length_nil, List.take_succ_cons, List.take_zero, List.take_nil, List.nil_append, List.cons_append, decide_eq_true_eq, Bool.not_eq_true, Bool.not_eq_true', decide_eq_false_iff_not, ne_eq, Decidable.not_not, true_and, and_true, Nat.reduceAdd, Nat.reduceLeDiff, Nat.reduceEqDiff, Nat.le_refl, not_true_eq_false, not_false_eq_true, reduceIte, eq_self, Int.reduceNeg, Int.reduceEq, Int.reduceLT, Int.reduceLE, Nat.zero_le, Nat.one_ne_zero, ev_model, show s' 14 10 = (c : Int) by rw [T1 _ _ (by decide) (by decide)]; exact w2]
    · rintro k s' - hk ⟨T1, T2, T3⟩
      obtain ⟨x, hx⟩ : ∃ x, x = li k := ⟨_, rfl⟩
      have hxt : th c li x := ⟨k, hk, hx.symm⟩
      obtain ⟨x1, x2, x3, x4⟩ := th_lt hG hxt
      have e77 : s' 77 k = x := by rw [T1 _ _ (by decide) (by decide), w4 k hk, hx]
      have e71 : s' 71 x = fs x := by rw [T1 _ _ (by decide) (by decide)]; exact w5 x
      have e72 : s' 72 x = sn x := by rw [T1 _ _ (by decide) (by decide)]; exact w6 x
      obtain ⟨a, ha⟩ : ∃ a, a = fs x := ⟨_, rfl⟩
      obtain ⟨b, hb⟩ : ∃ b, b = sn x := ⟨_, rfl⟩
      rw [← ha] at e71 x3
      rw [← hb] at e72 x4
      have t1 : (300 * (a : Int) + b).toNat = 300 * a + b := by omega
      have t2 : (300 * (b : Int) + a).toNat = 300 * b + a := by omega
      have nk : ∀ u v, nbr (th (k + 1) li) fs sn u v ↔ (nbr (th k li) fs sn u v ∨ (u ≠ v ∧ ((u = a ∧ v = b) ∨ (u = b ∧ v = a)))) := by
        intro u v
        constructor
        · rintro ⟨h1, y, ⟨j, j1, rfl⟩, h2⟩
          by_cases e : j = k
          · subst e
            rw [← hx, ← ha, ← hb] at h2
            exact Or.inr ⟨h1, h2.imp (fun q => ⟨q.1.symm, q.2.symm⟩) (fun q => ⟨q.1.symm, q.2.symm⟩)⟩
          · exact Or.inl ⟨h1, li j, ⟨j, by omega, rfl⟩, h2⟩
        · rintro (⟨h1, y, ⟨j, j1, rfl⟩, h2⟩ | ⟨h1, h2⟩)
          · exact ⟨h1, li j, ⟨j, by omega, rfl⟩, h2⟩
          · refine ⟨h1, x, ⟨k, by omega, hx.symm⟩, ?_⟩
            rw [← ha, ← hb]
            exact h2.imp (fun q => ⟨q.1.symm, q.2.symm⟩) (fun q => ⟨q.1.symm, q.2.symm⟩)
      rw [wpS_trunc]
      refine wpS_seq' (fun Q102 hQ102 => ?_)
      simp only [wpS_skip, wpS_break, wpS_cont, wpS_retV, wpS_throw, wpS_seq, wpS_if, wpS_trunc, yS_let, yS_inc, kgK_i, kgK_r, kok_nil, kok_i0, kok_is, kok_r0, kok_rs, kok_n0, kok_ns, xS_put, xS_putOp, xS_ast0, xS_ast1, xS_astOp, wpS_E, wpS_call, wpS_callS, wpS_ret, kThen_N, kThen_B, kThen_C, kThen_R, kThen_T, kNext_N, kNext_C, kNext_B, kNext_R, wpE_K, wpE_KL, xE_I, xE_R, wpE_J, xE_bin, wpE_ladd, wpE_i2l, xE_get, xE_ald0, xE_ald1, wpE_if, xE_max, xE_min, wpE_len, wpA_nil, wpA_snoc, xE_call, xE_callS, xC_C, xC_L, xC_Z, wpC_and, wpC_or, wpC_not, wpC_if, kcmp_0, kcmp_1, kcmp_2, kcmp_3, kcmp_4, kcmp_5, rR_inj, kgO_some, kgO_add, kgO_sub, kgO_mul, kgO_div, kgO_rem, kgO_and, kvI_inl, kvJ_inl, kgI_0, kgI_s, kgR_0, kgR_s, kst_nil, kst_0, kst_s, kNLl_nil, kNLl_i, kNLl_r, kNLl_n, ktag_i, ktag_r, List.length_cons, List.length_nil, List.take_succ_cons, List.take_zero, List.take_nil, List.nil_append, List.cons_append, decide_eq_true_eq, Bool.not_eq_true, Bool.not_eq_true', decide_eq_false_iff_not, ne_eq, Decidable.not_not, true_and, and_true, Nat.reduceAdd, Nat.reduceLeDiff, Nat.reduceEqDiff, Nat.le_refl, not_true_eq_false, not_false_eq_true, reduceIte, eq_self, Int.reduceNeg, Int.reduceEq, Int.reduceLT, Int.reduceLE, Nat.zero_le, Nat.one_ne_zero, ev_model, ev_model_arr, Int.toNat_natCast, e77, e71]
      repeat refine And.intro (by omega) ?_
      rw [hQ102]
      clear hQ102 Q102
      refine kThen_N.mpr ?_
      refine wpS_seq' (fun Q103 hQ103 => ?_)
      simp only [wpS_skip, wpS_break, wpS_cont, wpS_retV, wpS_throw, wpS_seq, wpS_if, wpS_trunc, yS_let, yS_inc, kgK_i, kgK_r, kok_nil, kok_i0, kok_is, kok_r0, kok_rs, kok_n0, kok_ns, xS_put, xS_putOp, xS_ast0, xS_ast1, xS_astOp, wpS_E, wpS_call, wpS_callS, wpS_ret, kThen_N, kThen_B, kThen_C, kThen_R, kThen_T, kNext_N, kNext_C, kNext_B, kNext_R, wpE_K, wpE_KL, xE_I, xE_R, wpE_J, xE_bin, wpE_ladd, wpE_i2l, xE_get, xE_ald0, xE_ald1, wpE_if, xE_max, xE_min, wpE_len, wpA_nil, wpA_snoc, xE_call, xE_callS, xC_C, xC_L, xC_Z, wpC_and, wpC_or, wpC_not, wpC_if, kcmp_0, kcmp_1, kcmp_2, kcmp_3, kcmp_4, kcmp_5, rR_inj, kgO_some, kgO_add, kgO_sub, kgO_mul, kgO_div, kgO_rem, kgO_and, kvI_inl, kvJ_inl, kgI_0, kgI_s, kgR_0, kgR_s, kst_nil, kst_0, kst_s, kNLl_nil, kNLl_i, kNLl_r, kNLl_n, ktag_i, ktag_r, List.length_cons, List.length_nil, List.take_succ_cons, List.take_zero, List.take_nil, List.nil_append, List.cons_append, decide_eq_true_eq, Bool.not_eq_true, Bool.not_eq_true', decide_eq_false_iff_not, ne_eq, Decidable.not_not, true_and, and_true, Nat.reduceAdd, Nat.reduceLeDiff, Nat.reduceEqDiff, Nat.le_refl, not_true_eq_false, not_false_eq_true, reduceIte, eq_self, Int.reduceNeg, Int.reduceEq, Int.reduceLT, Int.reduceLE, Nat.zero_le, Nat.one_ne_zero, ev_model, ev_model_arr, Int.toNat_natCast, e77, e72]
      repeat refine And.intro (by omega) ?_
      rw [hQ103]
      clear hQ103 Q103
      refine kThen_N.mpr ?_
      refine wpS_gen (fun Q3 hQ3 => ?_)
      have skip : (a = b ∨ nbr (th k li) fs sn a b) → Q3 rN [some (.inr (.inl 14)), some (.inl (k : Int)), some (.inl (a : Int)), some (.inl (b : Int))] s' := by
        intro h
        have same : ∀ u v, nbr (th (k + 1) li) fs sn u v ↔ nbr (th k li) fs sn u v := by
          intro u v
          rw [nk]
          refine ⟨fun q => q.elim id (fun q => ?_), Or.inl⟩
          rcases h with h | h
          · exfalso; rcases q.2 with ⟨q1, q2⟩ | ⟨q1, q2⟩ <;> exact q.1 (by rw [q1, q2, h])
          · rcases q.2 with ⟨rfl, rfl⟩ | ⟨rfl, rfl⟩
            · exact h
            · exact h.symm
        rw [hQ3]
        refine kStep_N rfl ⟨rfl, T1, fun v u hv hu => ⟨(T2 v u hv hu).1, (T2 v u hv hu).2.trans (same v u).symm⟩, fun v hv => ?_⟩
        rw [T3 v hv, cntP_congr (fun u _ => (same v u).symm)]
      by_cases hab : a = b
      · have hab' : (a : Int) = (b : Int) := by omega
        simp only [wpS_skip, wpS_break, wpS_cont, wpS_retV, wpS_throw, wpS_seq, wpS_if, wpS_trunc, yS_let, yS_inc, kgK_i, kgK_r, kok_nil, kok_i0, kok_is, kok_r0, kok_rs, kok_n0, kok_ns, xS_put, xS_putOp, xS_ast0, xS_ast1, xS_astOp, wpS_E, wpS_call, wpS_callS, wpS_ret, kThen_N, kThen_B, kThen_C, kThen_R, kThen_T, kNext_N, kNext_C, kNext_B, kNext_R, wpE_K, wpE_KL, xE_I, xE_R, wpE_J, xE_bin, wpE_ladd, wpE_i2l, xE_get, xE_ald0, xE_ald1, wpE_if, xE_max, xE_min, wpE_len, wpA_nil, wpA_snoc, xE_call, xE_callS, xC_C, xC_L, xC_Z, wpC_and, wpC_or, wpC_not, wpC_if, kcmp_0, kcmp_1, kcmp_2, kcmp_3, kcmp_4, kcmp_5, rR_inj, kgO_some, kgO_add, kgO_sub, kgO_mul, kgO_div, kgO_rem, kgO_and, kvI_inl, kvJ_inl, kgI_0, kgI_s, kgR_0, kgR_s, kst_nil, kst_0, kst_s, kNLl_nil, kNLl_i, kNLl_r, kNLl_n, ktag_i, ktag_r, List.length_cons, List.length_nil, List.take_succ_cons, List.take_zero, List.take_nil, List.nil_append, List.cons_append, decide_eq_true_eq, Bool.not_eq_true, Bool.not_eq_true', decide_eq_false_iff_not, ne_eq, Decidable.not_not, true_and, and_true, Nat.reduceAdd, Nat.reduceLeDiff, Nat.reduceEqDiff, Nat.le_refl, not_true_eq_false, not_false_eq_true, reduceIte, eq_self, Int.reduceNeg, Int.reduceEq, Int.reduceLT, Int.reduceLE, Nat.zero_le, Nat.one_ne_zero, hab', decide_true, decide_false, Bool.false_eq_true, if_true, if_false, true_and, and_true, not_true_eq_false, not_false_eq_true]
        rw [← hab']
        have := skip (Or.inl hab)
        rw [← hab'] at this
        exact this
      · have hab' : ¬ (a : Int) = (b : Int) := by omega
        obtain ⟨z1, z2⟩ := T2 a b x3 x4
        by_cases hz : s' 97 (300 * a + b) = 0
        · have hnb : ¬ nbr (th k li) fs sn a b := fun q => by have := z2.mpr q; omega
          have hnb2 : ¬ nbr (th k li) fs sn b a := fun q => hnb q.symm
          have ca := T3 a x3
          have cb := T3 b x4
          have ba := @cntP_bound (nbr (th k li) fs sn a) n
          have bb := @cntP_bound (nbr (th k li) fs sn b) n
          have g98 : kup (kup s' 97 (300 * a + b) 1) 97 (300 * b + a) 1 98 a = cntP (nbr (th k li) fs sn a) n := by rw [kup_ne (by decide), kup_ne (by decide)]; exact ca
          have g98' : kup (kup (kup s' 97 (300 * a + b) 1) 97 (300 * b + a) 1) 98 a ((cntP (nbr (th k li) fs sn a) n : Int) + 1) 98 b = cntP (nbr (th k li) fs sn b) n := by rw [kup_eq, if_neg (fun q => hab q.symm), kup_ne (by decide), kup_ne (by decide)]; exact cb
          simp only [wpS_skip, wpS_break, wpS_cont, wpS_retV, wpS_throw, wpS_seq, wpS_if, wpS_trunc, yS_let, yS_inc, kgK_i, kgK_r, kok_nil, kok_i0, kok_is, kok_r0, kok_rs, kok_n0, kok_ns, xS_put, xS_putOp, xS_ast0, xS_ast1, xS_astOp, wpS_E, wpS_call, wpS_callS, wpS_ret, kThen_N, kThen_B, kThen_C, kThen_R, kThen_T, kNext_N, kNext_C, kNext_B, kNext_R, wpE_K, wpE_KL, xE_I, xE_R, wpE_J, xE_bin, wpE_ladd, wpE_i2l, xE_get, xE_ald0, xE_ald1, wpE_if, xE_max, xE_min, wpE_len, wpA_nil, wpA_snoc, xE_call, xE_callS, xC_C, xC_L, xC_Z, wpC_and, wpC_or, wpC_not, wpC_if, kcmp_0, kcmp_1, kcmp_2, kcmp_3, kcmp_4, kcmp_5, rR_inj, kgO_some, kgO_add, kgO_sub, kgO_mul, kgO_div, kgO_rem, kgO_and, kvI_inl, kvJ_inl, kgI_0, kgI_s, kgR_0, kgR_s, kst_nil, kst_0, kst_s, kNLl_nil, kNLl_i, kNLl_r, kNLl_n, ktag_i, ktag_r, List.length_cons, List.length_nil, List.take_succ_cons, List.take_zero, List.take_nil, List.nil_append, List.cons_append, decide_eq_true_eq, Bool.not_eq_true, Bool.not_eq_true', decide_eq_false_iff_not, ne_eq, Decidable.not_not, true_and, and_true, Nat.reduceAdd, Nat.reduceLeDiff, Nat.reduceEqDiff, Nat.le_refl, not_true_eq_false, not_false_eq_true, reduceIte, eq_self, Int.reduceNeg, Int.reduceEq, Int.reduceLT, Int.reduceLE, Nat.zero_le, Nat.one_ne_zero, ev_model, ev_model_arr, Int.toNat_natCast, hab', t1, t2, hz, g98, g98', decide_true, decide_false, Bool.false_eq_true, if_true, if_false, true_and, and_true, not_true_eq_false, not_false_eq_true, or_true]
          repeat refine And.intro (by omega) ?_
          rw [hQ3]
          refine kStep_N rfl ⟨rfl, fun o k o1 o2 => by rw [kup_ne o2, kup_ne o2, kup_ne o1, kup_ne o1]; exact T1 o k o1 o2, fun v u hv hu => ?_, fun v hv => ?_⟩
          · rw [kup_ne (by decide), kup_ne (by decide), kup_eq, kup_eq]
            by_cases e1 : 300 * v + u = 300 * b + a
            · have : v = b ∧ u = a := by omega
              rw [if_pos e1]
              exact ⟨Or.inr rfl, fun _ => (nk v u).mpr (Or.inr ⟨by omega, Or.inr this⟩), fun _ => rfl⟩
            · rw [if_neg e1]
              by_cases e2 : 300 * v + u = 300 * a + b
              · have : v = a ∧ u = b := by omega
                rw [if_pos e2]
                exact ⟨Or.inr rfl, fun _ => (nk v u).mpr (Or.inr ⟨by omega, Or.inl this⟩), fun _ => rfl⟩
              · rw [if_neg e2]
                refine ⟨(T2 v u hv hu).1, (T2 v u hv hu).2.trans ?_⟩
                rw [nk]
                refine ⟨Or.inl, fun q => q.elim id (fun q => ?_)⟩
                exfalso
                rcases q.2 with ⟨rfl, rfl⟩ | ⟨rfl, rfl⟩
                · exact e2 rfl
                · exact e1 rfl
          · rw [kup_eq]
            by_cases e1 : v = b
            · subst e1
              rw [if_pos rfl]
              have : cntP (nbr (th (k + 1) li) fs sn v) n = cntP (fun u => nbr (th k li) fs sn v u ∨ u = a) n := cntP_congr (fun u _ => by
                rw [nk]
                exact ⟨fun q => q.imp id (fun q => by omega), fun q => q.imp id (fun q => ⟨by omega, Or.inr ⟨rfl, q⟩⟩)⟩)
              rw [this, cntP_insert x3 hnb2]; rfl
            · rw [if_neg e1, kup_eq]
              by_cases e2 : v = a
              · subst e2
                rw [if_pos rfl]
                have : cntP (nbr (th (k + 1) li) fs sn v) n = cntP (fun u => nbr (th k li) fs sn v u ∨ u = b) n := cntP_congr (fun u _ => by
                  rw [nk]
                  exact ⟨fun q => q.imp id (fun q => by omega), fun q => q.imp id (fun q => ⟨by omega, Or.inl ⟨rfl, q⟩⟩)⟩)
                rw [this, cntP_insert x4 hnb]; rfl
              · rw [if_neg e2, kup_ne (by decide), kup_ne (by decide), T3 v hv, cntP_congr (fun u _ => ?_)]
                rw [nk]
                exact ⟨Or.inl, fun q => q.elim id (fun q => by omega)⟩
        · have hnb : nbr (th k li) fs sn a b := z2.mp (by omega)
          simp only [wpS_skip, wpS_break, wpS_cont, wpS_retV, wpS_throw, wpS_seq, wpS_if, wpS_trunc, yS_let, yS_inc, kgK_i, kgK_r, kok_nil, kok_i0, kok_is, kok_r0, kok_rs, kok_n0, kok_ns, xS_put, xS_putOp, xS_ast0, xS_ast1, xS_astOp, wpS_E, wpS_call, wpS_callS, wpS_ret, kThen_N, kThen_B, kThen_C, kThen_R, kThen_T, kNext_N, kNext_C, kNext_B, kNext_R, wpE_K, wpE_KL, xE_I, xE_R, wpE_J, xE_bin, wpE_ladd, wpE_i2l, xE_get, xE_ald0, xE_ald1, wpE_if, xE_max, xE_min, wpE_len, wpA_nil, wpA_snoc, xE_call, xE_callS, xC_C, xC_L, xC_Z, wpC_and, wpC_or, wpC_not, wpC_if, kcmp_0, kcmp_1, kcmp_2, kcmp_3, kcmp_4, kcmp_5, rR_inj, kgO_some, kgO_add, kgO_sub, kgO_mul, kgO_div, kgO_rem, kgO_and, kvI_inl, kvJ_inl, kgI_0, kgI_s, kgR_0, kgR_s, kst_nil, kst_0, kst_s, kNLl_nil, kNLl_i, kNLl_r, kNLl_n, ktag_i, ktag_r, List.length_cons, List.length_nil, List.take_succ_cons, List.take_zero, List.take_nil, List.nil_append, List.cons_append, decide_eq_true_eq, Bool.not_eq_true, Bool.not_eq_true', decide_eq_false_iff_not, ne_eq, Decidable.not_not, true_and, and_true, Nat.reduceAdd, Nat.reduceLeDiff, Nat.reduceEqDiff, Nat.le_refl, not_true_eq_false, not_false_eq_true, reduceIte, eq_self, Int.reduceNeg, Int.reduceEq, Int.reduceLT, Int.reduceLE, Nat.zero_le, Nat.one_ne_zero, ev_model, ev_model_arr, Int.toNat_natCast, hab', t1, hz, decide_true, decide_false, Bool.false_eq_true, if_true, if_false, true_and, and_true, not_true_eq_false, not_false_eq_true]
          repeat refine And.intro (by omega) ?_
          exact skip (Or.inr hnb)
    · rintro s' ⟨T1, T2⟩
      rw [hQ2]
      rw [hQ0]
      refine kThen_N.mpr (wpS_retV.mpr ⟨none, rfl, rfl, ?_⟩)
      exact ⟨rfl, T1, T2⟩
end MS
