/-! THE CLASS SEARCHES: half-arcs by number, either way -/
def hc (fs : Nat → Nat) (v x : Nat) : Nat := if fs x = v then 2 * x else 2 * x + 1
noncomputable def cAl (c : Nat) (li fs sn : Nat → Nat) (P : Nat → Prop) (v : Nat) : List Nat :=
  (List.range 10000).filter (fun e => @decide (∃ x, th c li x ∧ P x ∧ (fs x = v ∨ sn x = v) ∧ e = hc fs v x) (Classical.propDecidable _))
theorem mtg_hc {fs sn : Nat → Nat} {v x : Nat} : mtg fs sn (hc fs v x) = othr fs sn x v ∧ (hc fs v x) / 2 = x := by
  unfold mtg hc othr
  split
  · rw [if_pos (by omega), show 2 * x / 2 = x by omega]; exact ⟨rfl, rfl⟩
  · rw [if_neg (by omega), show (2 * x + 1) / 2 = x by omega]; exact ⟨rfl, rfl⟩
section CB
variable {n c ar : Nat} {li fs sn : Nat → Nat} {A : Nat → Prop}
theorem cAl_mem (hG : gOk n c ar li fs sn) {v e : Nat} : e ∈ cAl c li fs sn A v ↔ ∃ x, th c li x ∧ A x ∧ (fs x = v ∨ sn x = v) ∧ e = hc fs v x := by
  unfold cAl
  rw [List.mem_filter, List.mem_range, @decide_eq_true_eq _ (Classical.propDecidable _)]
  constructor
  · exact fun h => h.2
  · rintro ⟨x, h1, h2, h3, h4⟩
    refine ⟨?_, x, h1, h2, h3, h4⟩
    obtain ⟨k, k1, k2⟩ := h1
    have := (hG.2.2.2.1 k k1).1
    have := hG.2.2.1
    unfold hc at h4
    split at h4 <;> omega
theorem cAl_bE (hG : gOk n c ar li fs sn) {u v : Nat} : bE (cAl c li fs sn A) (mtg fs sn) u v ↔ uE (fun x => th c li x ∧ A x) fs sn u v := by
  constructor
  · rintro ⟨e, he, rfl⟩
    obtain ⟨x, h1, h2, h3, rfl⟩ := (cAl_mem hG).mp he
    rw [mtg_hc.1]
    exact ⟨x, ⟨h1, h2⟩, othr_at h3⟩
  · rintro ⟨x, ⟨h1, h2⟩, h3⟩
    exact ⟨hc fs u x, (cAl_mem hG).mpr ⟨x, h1, h2, h3.elim (fun q => Or.inl q.1) (fun q => Or.inr q.1), rfl⟩, by rw [mtg_hc.1]; exact othr_eq h3⟩
theorem cAl_fun (hG : gOk n c ar li fs sn) : bE (cAl c li fs sn A) (mtg fs sn) = uE (fun x => th c li x ∧ A x) fs sn := by
  funext u v
  exact propext (cAl_bE hG)
theorem th_lt (hG : gOk n c ar li fs sn) {x : Nat} (h : th c li x) : x < ar ∧ x < 5000 ∧ fs x < n ∧ sn x < n := by
  obtain ⟨k, k1, rfl⟩ := h
  have := hG.2.2.2.1 k k1
  have := hG.2.2.1
  omega
theorem othr_lt (hG : gOk n c ar li fs sn) {x v : Nat} (h : th c li x) : othr fs sn x v < n := by
  have := th_lt hG h
  unfold othr
  split <;> omega
end CB
/-- the arrays of levels and of tree arcs -/
def Tb (s : kS) (lv : Nat → Nat) (tr : Nat → Int) : Prop := (∀ x, s 23 x = (lv x : Int)) ∧ (∀ x, s 24 x = tr x)
/-- tree arcs of a level and more -/
def tA (lv : Nat → Nat) (tr : Nat → Int) (le : Int) (x : Nat) : Prop := tr x ≠ 0 ∧ le ≤ (lv x : Int)
def gaS (σ s : kS) (mk : Int) (t : Nat) (q : Nat → Nat) : Prop := (∀ o k, o ≠ 29 → o ≠ 30 → s o k = σ o k) ∧ (∀ i, i < t → s 29 i = (q i : Int)) ∧ (∀ v, ((∃ i, i < t ∧ q i = v) → s 30 v = mk) ∧ ((¬ ∃ i, i < t ∧ q i = v) → s 30 v = σ 30 v))
theorem bf_len {n fr h t : Nat} {al : Nat → List Nat} {tg q dp by' : Nat → Nat} (B : bf n al tg fr h t q dp by') {P : Nat → Prop} (hP : ∀ v, P v ↔ ∃ i, i < t ∧ q i = v) : cntP P n = t := by
  obtain ⟨-, -, -, -, b5, b6, -⟩ := B
  exact (cntP_row (P := P) (fun i hi => ⟨b5 i hi, (hP _).mpr ⟨i, hi, rfl⟩⟩) b6).2 (fun v hv hp => (hP v).mp hp)
theorem gather_ok {σ : kS} {n c ar fr : Nat} {li fs sn lv : Nat → Nat} {tr : Nat → Int} {le mk : Int} (hG : gOk n c ar li fs sn) (hW : Wb σ n c ar li fs sn) (hT : Tb σ lv tr) (hfr : fr < n)
    (hm : ∀ v, rch (uE (fun x => th c li x ∧ tA lv tr le x) fs sn) fr v → σ 30 v ≠ mk) :
    wpF F_Trees_gather [.inr (.inl 4), .inl (fr : Int), .inl le, .inl mk] σ (fun r s => r = some (.inl ((cntP (fun v => rch (uE (fun x => th c li x ∧ tA lv tr le x) fs sn) fr v) n : Nat) : Int)) ∧ (∀ o k, o ≠ 29 → o ≠ 30 → s o k = σ o k) ∧
      ∀ v, (rch (uE (fun x => th c li x ∧ tA lv tr le x) fs sn) fr v → s 30 v = mk) ∧ (¬ rch (uE (fun x => th c li x ∧ tA lv tr le x) fs sn) fr v → s 30 v = σ 30 v)) := by
  have hn3 := hG.1
  have hc9 := hG.2.1
  obtain ⟨al, hal⟩ : ∃ al, al = cAl c li fs sn (tA lv tr le) := ⟨_, rfl⟩
  have hE : bE al (mtg fs sn) = uE (fun x => th c li x ∧ tA lv tr le x) fs sn := by rw [hal]; exact cAl_fun hG
  rw [← hE] at hm ⊢
  obtain ⟨w1, w2, w3, w4, w5, w6, w7, Fo, So, Fi, Si, w8, w9, w10, w11⟩ := id hW
  unfold F_Trees_gather
  rw [wpF_kF]
  refine ⟨rfl, rfl, ?_⟩
  unfold s_Trees_gather
  simp only [List.map_cons, List.map_nil]
  refine wpS_seq' (fun Q101 hQ101 => ?_)
  simp only [wpS_skip, wpS_break, wpS_cont, wpS_retV, wpS_throw, wpS_seq, wpS_if, wpS_trunc, yS_let, yS_inc, kgK_i, kgK_r, kok_nil, kok_i0, kok_is, kok_r0, kok_rs, kok_n0, kok_ns, xS_put, xS_putOp, xS_ast0, xS_ast1, xS_astOp, wpS_E, wpS_call, wpS_callS, wpS_ret, kThen_N, kThen_B, kThen_C, kThen_R, kThen_T, kNext_N, kNext_C, kNext_B, kNext_R, wpE_K, wpE_KL, xE_I, xE_R, wpE_J, xE_bin, wpE_ladd, wpE_i2l, xE_get, xE_ald0, xE_ald1, wpE_if, xE_max, xE_min, wpE_len, wpA_nil, wpA_snoc, xE_call, xE_callS, xC_C, xC_L, xC_Z, wpC_and, wpC_or, wpC_not, wpC_if, kcmp_0, kcmp_1, kcmp_2, kcmp_3, kcmp_4, kcmp_5, rR_inj, kgO_some, kgO_add, kgO_sub, kgO_mul, kgO_div, kgO_rem, kgO_and, kvI_inl, kvJ_inl, kgI_0, kgI_s, kgR_0, kgR_s, kst_nil, kst_0, kst_s, kNLl_nil, kNLl_i, kNLl_r, kNLl_n, ktag_i, ktag_r, List.length_cons, List.length_nil, List.take_succ_cons, List.take_zero, List.take_nil, List.nil_append, List.cons_append, decide_eq_true_eq, Bool.not_eq_true, Bool.not_eq_true', decide_eq_false_iff_not, ne_eq, Decidable.not_not, true_and, and_true, Nat.reduceAdd, Nat.reduceLeDiff, Nat.reduceEqDiff, Nat.le_refl, not_true_eq_false, not_false_eq_true, reduceIte, eq_self, Int.reduceNeg, Int.reduceEq, Int.reduceLT, Int.reduceLE, Nat.zero_le, Nat.one_ne_zero, ev_trees, ev_trees_arr, Int.toNat_natCast]
  repeat refine And.intro (by omega) ?_
  rw [hQ101]
  clear hQ101 Q101
  refine kThen_N.mpr ?_
  refine wpS_seq' (fun Q102 hQ102 => ?_)
  simp only [wpS_skip, wpS_break, wpS_cont, wpS_retV, wpS_throw, wpS_seq, wpS_if, wpS_trunc, yS_let, yS_inc, kgK_i, kgK_r, kok_nil, kok_i0, kok_is, kok_r0, kok_rs, kok_n0, kok_ns, xS_put, xS_putOp, xS_ast0, xS_ast1, xS_astOp, wpS_E, wpS_call, wpS_callS, wpS_ret, kThen_N, kThen_B, kThen_C, kThen_R, kThen_T, kNext_N, kNext_C, kNext_B, kNext_R, wpE_K, wpE_KL, xE_I, xE_R, wpE_J, xE_bin, wpE_ladd, wpE_i2l, xE_get, xE_ald0, xE_ald1, wpE_if, xE_max, xE_min, wpE_len, wpA_nil, wpA_snoc, xE_call, xE_callS, xC_C, xC_L, xC_Z, wpC_and, wpC_or, wpC_not, wpC_if, kcmp_0, kcmp_1, kcmp_2, kcmp_3, kcmp_4, kcmp_5, rR_inj, kgO_some, kgO_add, kgO_sub, kgO_mul, kgO_div, kgO_rem, kgO_and, kvI_inl, kvJ_inl, kgI_0, kgI_s, kgR_0, kgR_s, kst_nil, kst_0, kst_s, kNLl_nil, kNLl_i, kNLl_r, kNLl_n, ktag_i, ktag_r, List.length_cons, List.length_nil, List.take_succ_cons, List.take_zero, List.take_nil, List.nil_append, List.cons_append, decide_eq_true_eq, Bool.not_eq_true, Bool.not_eq_true', decide_eq_false_iff_not, ne_eq, Decidable.not_not, true_and, and_true, Nat.reduceAdd, Nat.reduceLeDiff, Nat.reduceEqDiff, Nat.le_refl, not_true_eq_false, not_false_eq_true, reduceIte, eq_self, Int.reduceNeg, Int.reduceEq, Int.reduceLT, Int.reduceLE, Nat.zero_le, Nat.one_ne_zero, ev_trees, ev_trees_arr, Int.toNat_natCast]
  repeat refine And.intro (by omega) ?_
  rw [hQ102]
  clear hQ102 Q102
  refine kThen_N.mpr ?_
  refine wpS_seq' (fun Q103 hQ103 => ?_)
  simp only [wpS_skip, wpS_break, wpS_cont, wpS_retV, wpS_throw, wpS_seq, wpS_if, wpS_trunc, yS_let, yS_inc, kgK_i, kgK_r, kok_nil, kok_i0, kok_is, kok_r0, kok_rs, kok_n0, kok_ns, xS_put, xS_putOp, xS_ast0, xS_ast1, xS_astOp, wpS_E, wpS_call, wpS_callS, wpS_ret, kThen_N, kThen_B, kThen_C, kThen_R, kThen_T, kNext_N, kNext_C, kNext_B, kNext_R, wpE_K, wpE_KL, xE_I, xE_R, wpE_J, xE_bin, wpE_ladd, wpE_i2l, xE_get, xE_ald0, xE_ald1, wpE_if, xE_max, xE_min, wpE_len, wpA_nil, wpA_snoc, xE_call, xE_callS, xC_C, xC_L, xC_Z, wpC_and, wpC_or, wpC_not, wpC_if, kcmp_0, kcmp_1, kcmp_2, kcmp_3, kcmp_4, kcmp_5, rR_inj, kgO_some, kgO_add, kgO_sub, kgO_mul, kgO_div, kgO_rem, kgO_and, kvI_inl, kvJ_inl, kgI_0, kgI_s, kgR_0, kgR_s, kst_nil, kst_0, kst_s, kNLl_nil, kNLl_i, kNLl_r, kNLl_n, ktag_i, ktag_r, List.length_cons, List.length_nil, List.take_succ_cons, List.take_zero, List.take_nil, List.nil_append, List.cons_append, decide_eq_true_eq, Bool.not_eq_true, Bool.not_eq_true', decide_eq_false_iff_not, ne_eq, Decidable.not_not, true_and, and_true, Nat.reduceAdd, Nat.reduceLeDiff, Nat.reduceEqDiff, Nat.le_refl, not_true_eq_false, not_false_eq_true, reduceIte, eq_self, Int.reduceNeg, Int.reduceEq, Int.reduceLT, Int.reduceLE, Nat.zero_le, Nat.one_ne_zero]
  repeat refine And.intro (by omega) ?_
  rw [hQ103]
  clear hQ103 Q103
  refine kThen_N.mpr ?_
  refine wpS_seq' (fun Q1 hQ1 => ?_)
  unfold l_Trees_gather_2
  refine wpS_fortG (fun h P s => ∃ (t : Nat) (q dp by' : Nat → Nat), P = [some (.inr (.inl 4)), some (.inl (fr : Int)), some (.inl le), some (.inl mk), some (.inl (t : Int))] ∧ bf n al (mtg fs sn) fr h t q dp by' ∧ gaS σ s mk t q) (fun m => (m : Int)) n rfl rfl ?_ ?_ ?_ ?_
  · simp only [wpS_skip, wpS_break, wpS_cont, wpS_retV, wpS_throw, wpS_seq, wpS_if, wpS_trunc, yS_let, yS_inc, kgK_i, kgK_r, kok_nil, kok_i0, kok_is, kok_r0, kok_rs, kok_n0, kok_ns, xS_put, xS_putOp, xS_ast0, xS_ast1, xS_astOp, wpS_E, wpS_call, wpS_callS, wpS_ret, kThen_N, kThen_B, kThen_C, kThen_R, kThen_T, kNext_N, kNext_C, kNext_B, kNext_R, wpE_K, wpE_KL, xE_I, xE_R, wpE_J, xE_bin, wpE_ladd, wpE_i2l, xE_get, xE_ald0, xE_ald1, wpE_if, xE_max, xE_min, wpE_len, wpA_nil, wpA_snoc, xE_call, xE_callS, xC_C, xC_L, xC_Z, wpC_and, wpC_or, wpC_not, wpC_if, kcmp_0, kcmp_1, kcmp_2, kcmp_3, kcmp_4, kcmp_5, rR_inj, kgO_some, kgO_add, kgO_sub, kgO_mul, kgO_div, kgO_rem, kgO_and, kvI_inl, kvJ_inl, kgI_0, kgI_s, kgR_0, kgR_s, kst_nil, kst_0, kst_s, kNLl_nil, kNLl_i, kNLl_r, kNLl_n, ktag_i, ktag_r, List.length_cons, List.length_nil, List.take_succ_cons, List.take_zero, List.take_nil, List.nil_append, List.cons_append, decide_eq_true_eq, Bool.not_eq_true, Bool.not_eq_true', decide_eq_false_iff_not, ne_eq, Decidable.not_not, true_and, and_true, Nat.reduceAdd, Nat.reduceLeDiff, Nat.reduceEqDiff, Nat.le_refl, not_true_eq_false, not_false_eq_true, reduceIte, eq_self, Int.reduceNeg, Int.reduceEq, Int.reduceLT, Int.reduceLE, Nat.zero_le, Nat.one_ne_zero]; trivial
  · refine ⟨1, fun _ => fr, fun _ => 0, fun _ => 0, rfl, bf_start hfr rfl, ?_, ?_, ?_⟩
    · intro o k h1 h2; rw [kup_ne h1, kup_ne h2]
    · intro i hi; have : i = 0 := by omega
      subst this; simp [kup]
    · intro v
      refine ⟨?_, ?_⟩
      · rintro ⟨i, hi, rfl⟩; simp [kup]
      · intro hv
        have : v ≠ fr := fun e => hv ⟨0, by omega, e.symm⟩
        simp [kup, this]
  · rintro h P s ⟨t, q, dp, by', rfl, -⟩; exact ⟨rfl, rfl⟩
  · rintro h P s hh ⟨t, q, dp, by', rfl, B, S1, S2, S3⟩
    have htn := bf_le B
    have hht : h ≤ t := B.2.1
    rcases Nat.lt_or_ge h t with hlt | hlt
    · have c1 : (h : Int) < 300 := by omega
      have c2 : (h : Int) < (t : Int) := by omega
      refine wpC_gen (fun Q2 hQ2 => ?_)
      simp only [wpS_skip, wpS_break, wpS_cont, wpS_retV, wpS_throw, wpS_seq, wpS_if, wpS_trunc, yS_let, yS_inc, kgK_i, kgK_r, kok_nil, kok_i0, kok_is, kok_r0, kok_rs, kok_n0, kok_ns, xS_put, xS_putOp, xS_ast0, xS_ast1, xS_astOp, wpS_E, wpS_call, wpS_callS, wpS_ret, kThen_N, kThen_B, kThen_C, kThen_R, kThen_T, kNext_N, kNext_C, kNext_B, kNext_R, wpE_K, wpE_KL, xE_I, xE_R, wpE_J, xE_bin, wpE_ladd, wpE_i2l, xE_get, xE_ald0, xE_ald1, wpE_if, xE_max, xE_min, wpE_len, wpA_nil, wpA_snoc, xE_call, xE_callS, xC_C, xC_L, xC_Z, wpC_and, wpC_or, wpC_not, wpC_if, kcmp_0, kcmp_1, kcmp_2, kcmp_3, kcmp_4, kcmp_5, rR_inj, kgO_some, kgO_add, kgO_sub, kgO_mul, kgO_div, kgO_rem, kgO_and, kvI_inl, kvJ_inl, kgI_0, kgI_s, kgR_0, kgR_s, kst_nil, kst_0, kst_s, kNLl_nil, kNLl_i, kNLl_r, kNLl_n, ktag_i, ktag_r, List.length_cons, List.length_nil, List.take_succ_cons, List.take_zero, List.take_nil, List.nil_append, List.cons_append, decide_eq_true_eq, Bool.not_eq_true, Bool.not_eq_true', decide_eq_false_iff_not, ne_eq, Decidable.not_not, true_and, and_true, Nat.reduceAdd, Nat.reduceLeDiff, Nat.reduceEqDiff, Nat.le_refl, not_true_eq_false, not_false_eq_true, reduceIte, eq_self, Int.reduceNeg, Int.reduceEq, Int.reduceLT, Int.reduceLE, Nat.zero_le, Nat.one_ne_zero, c1, c2, decide_true, decide_false, Bool.false_eq_true, if_true, if_false, true_and, and_true, not_true_eq_false, not_false_eq_true]
      rw [hQ2]
      refine ⟨rfl, Or.inl ⟨rfl, by omega, by simp, by omega, by omega, ?_⟩⟩
      rw [wpS_trunc]
      have hqn := B.2.2.2.2.1 h hlt
      have e29 := S2 h hlt
      refine wpS_seq' (fun Q104 hQ104 => ?_)
      simp only [wpS_skip, wpS_break, wpS_cont, wpS_retV, wpS_throw, wpS_seq, wpS_if, wpS_trunc, yS_let, yS_inc, kgK_i, kgK_r, kok_nil, kok_i0, kok_is, kok_r0, kok_rs, kok_n0, kok_ns, xS_put, xS_putOp, xS_ast0, xS_ast1, xS_astOp, wpS_E, wpS_call, wpS_callS, wpS_ret, kThen_N, kThen_B, kThen_C, kThen_R, kThen_T, kNext_N, kNext_C, kNext_B, kNext_R, wpE_K, wpE_KL, xE_I, xE_R, wpE_J, xE_bin, wpE_ladd, wpE_i2l, xE_get, xE_ald0, xE_ald1, wpE_if, xE_max, xE_min, wpE_len, wpA_nil, wpA_snoc, xE_call, xE_callS, xC_C, xC_L, xC_Z, wpC_and, wpC_or, wpC_not, wpC_if, kcmp_0, kcmp_1, kcmp_2, kcmp_3, kcmp_4, kcmp_5, rR_inj, kgO_some, kgO_add, kgO_sub, kgO_mul, kgO_div, kgO_rem, kgO_and, kvI_inl, kvJ_inl, kgI_0, kgI_s, kgR_0, kgR_s, kst_nil, kst_0, kst_s, kNLl_nil, kNLl_i, kNLl_r, kNLl_n, ktag_i, ktag_r, List.length_cons, List.length_nil, List.take_succ_cons, List.take_zero, List.take_nil, List.nil_append, List.cons_append, decide_eq_true_eq, Bool.not_eq_true, Bool.not_eq_true', decide_eq_false_iff_not, ne_eq, Decidable.not_not, true_and, and_true, Nat.reduceAdd, Nat.reduceLeDiff, Nat.reduceEqDiff, Nat.le_refl, not_true_eq_false, not_false_eq_true, reduceIte, eq_self, Int.reduceNeg, Int.reduceEq, Int.reduceLT, Int.reduceLE, Nat.zero_le, Nat.one_ne_zero, ev_trees, ev_trees_arr, Int.toNat_natCast, e29]
      repeat refine And.intro (by omega) ?_
      rw [hQ104]
      clear hQ104 Q104
      refine kThen_N.mpr ?_
      refine wpS_seq' (fun Q105 hQ105 => ?_)
      simp only [wpS_skip, wpS_break, wpS_cont, wpS_retV, wpS_throw, wpS_seq, wpS_if, wpS_trunc, yS_let, yS_inc, kgK_i, kgK_r, kok_nil, kok_i0, kok_is, kok_r0, kok_rs, kok_n0, kok_ns, xS_put, xS_putOp, xS_ast0, xS_ast1, xS_astOp, wpS_E, wpS_call, wpS_callS, wpS_ret, kThen_N, kThen_B, kThen_C, kThen_R, kThen_T, kNext_N, kNext_C, kNext_B, kNext_R, wpE_K, wpE_KL, xE_I, xE_R, wpE_J, xE_bin, wpE_ladd, wpE_i2l, xE_get, xE_ald0, xE_ald1, wpE_if, xE_max, xE_min, wpE_len, wpA_nil, wpA_snoc, xE_call, xE_callS, xC_C, xC_L, xC_Z, wpC_and, wpC_or, wpC_not, wpC_if, kcmp_0, kcmp_1, kcmp_2, kcmp_3, kcmp_4, kcmp_5, rR_inj, kgO_some, kgO_add, kgO_sub, kgO_mul, kgO_div, kgO_rem, kgO_and, kvI_inl, kvJ_inl, kgI_0, kgI_s, kgR_0, kgR_s, kst_nil, kst_0, kst_s, kNLl_nil, kNLl_i, kNLl_r, kNLl_n, ktag_i, ktag_r, List.length_cons, List.length_nil, List.take_succ_cons, List.take_zero, List.take_nil, List.nil_append, List.cons_append, decide_eq_true_eq, Bool.not_eq_true, Bool.not_eq_true', decide_eq_false_iff_not, ne_eq, Decidable.not_not, true_and, and_true, Nat.reduceAdd, Nat.reduceLeDiff, Nat.reduceEqDiff, Nat.le_refl, not_true_eq_false, not_false_eq_true, reduceIte, eq_self, Int.reduceNeg, Int.reduceEq, Int.reduceLT, Int.reduceLE, Nat.zero_le, Nat.one_ne_zero, ev_trees, ev_web]
      have hW' := hW.agree (s' := s) (fun o k ho => S1 o k (by unfold isWb at ho; omega) (by unfold isWb at ho; omega))
      have f8 := w8.agree (s' := s) (fun k => S1 _ _ (by decide) (by decide)) (fun k => S1 _ _ (by decide) (by decide)) (fun k => S1 _ _ (by decide) (by decide))
      have f10 := w10.agree (s' := s) (fun k => S1 _ _ (by decide) (by decide)) (fun k => S1 _ _ (by decide) (by decide)) (fun k => S1 _ _ (by decide) (by decide))
      refine (webDegree_ok f8 w9 f10 w11 hn3 hc9 hqn).mono ?_
      rintro r s' ⟨hs, rfl⟩
      subst s'
      rw [kgO_some]
      simp only [wpS_skip, wpS_break, wpS_cont, wpS_retV, wpS_throw, wpS_seq, wpS_if, wpS_trunc, yS_let, yS_inc, kgK_i, kgK_r, kok_nil, kok_i0, kok_is, kok_r0, kok_rs, kok_n0, kok_ns, xS_put, xS_putOp, xS_ast0, xS_ast1, xS_astOp, wpS_E, wpS_call, wpS_callS, wpS_ret, kThen_N, kThen_B, kThen_C, kThen_R, kThen_T, kNext_N, kNext_C, kNext_B, kNext_R, wpE_K, wpE_KL, xE_I, xE_R, wpE_J, xE_bin, wpE_ladd, wpE_i2l, xE_get, xE_ald0, xE_ald1, wpE_if, xE_max, xE_min, wpE_len, wpA_nil, wpA_snoc, xE_call, xE_callS, xC_C, xC_L, xC_Z, wpC_and, wpC_or, wpC_not, wpC_if, kcmp_0, kcmp_1, kcmp_2, kcmp_3, kcmp_4, kcmp_5, rR_inj, kgO_some, kgO_add, kgO_sub, kgO_mul, kgO_div, kgO_rem, kgO_and, kvI_inl, kvJ_inl, kgI_0, kgI_s, kgR_0, kgR_s, kst_nil, kst_0, kst_s, kNLl_nil, kNLl_i, kNLl_r, kNLl_n, ktag_i, ktag_r, List.length_cons, List.length_nil, List.take_succ_cons, List.take_zero, List.take_nil, List.nil_append, List.cons_append, decide_eq_true_eq, Bool.not_eq_true, Bool.not_eq_true', decide_eq_false_iff_not, ne_eq, Decidable.not_not, true_and, and_true, Nat.reduceAdd, Nat.reduceLeDiff, Nat.reduceEqDiff, Nat.le_refl, not_true_eq_false, not_false_eq_true, reduceIte, eq_self, Int.reduceNeg, Int.reduceEq, Int.reduceLT, Int.reduceLE, Nat.zero_le, Nat.one_ne_zero]
      rw [hQ105]
      clear hQ105
      refine kThen_N.mpr ?_
      have hd : dgr So Si (q h) ≤ 1800 := by
        have a3 := fan_le w9 (show q h + 1 ≤ n from hqn)
        have a4 := fan_le w11 (show q h + 1 ≤ n from hqn)
        unfold dgr; omega
      unfold l_Trees_gather_1
      obtain ⟨v, hv⟩ : ∃ v, v = q h := ⟨_, rfl⟩
      rw [← hv] at hqn hd ⊢
      refine wpS_fort (fun k P s1 => ∃ (t : Nat) (q dp by' : Nat → Nat), P = [some (.inr (.inl 4)), some (.inl (fr : Int)), some (.inl le), some (.inl mk), some (.inl (t : Int)), some (.inl (h : Int)), some (.inl (v : Int)), some (.inl (dgr So Si v : Int))] ∧ h < t ∧ q h = v ∧ bf n al (mtg fs sn) fr h t q dp by' ∧ gaS σ s1 mk t q ∧ ∀ j, j < k → tA lv tr le (atK Fo So Fi Si v j) → ∃ i, i < t ∧ q i = othr fs sn (atK Fo So Fi Si v j) v) 0 (dgr So Si v) rfl rfl ?_ ?_ ?_ ?_ ?_ ?_ ?_
      · simp only [wpS_skip, wpS_break, wpS_cont, wpS_retV, wpS_throw, wpS_seq, wpS_if, wpS_trunc, yS_let, yS_inc, kgK_i, kgK_r, kok_nil, kok_i0, kok_is, kok_r0, kok_rs, kok_n0, kok_ns, xS_put, xS_putOp, xS_ast0, xS_ast1, xS_astOp, wpS_E, wpS_call, wpS_callS, wpS_ret, kThen_N, kThen_B, kThen_C, kThen_R, kThen_T, kNext_N, kNext_C, kNext_B, kNext_R, wpE_K, wpE_KL, xE_I, xE_R, wpE_J, xE_bin, wpE_ladd, wpE_i2l, xE_get, xE_ald0, xE_ald1, wpE_if, xE_max, xE_min, wpE_len, wpA_nil, wpA_snoc, xE_call, xE_callS, xC_C, xC_L, xC_Z, wpC_and, wpC_or, wpC_not, wpC_if, kcmp_0, kcmp_1, kcmp_2, kcmp_3, kcmp_4, kcmp_5, rR_inj, kgO_some, kgO_add, kgO_sub, kgO_mul, kgO_div, kgO_rem, kgO_and, kvI_inl, kvJ_inl, kgI_0, kgI_s, kgR_0, kgR_s, kst_nil, kst_0, kst_s, kNLl_nil, kNLl_i, kNLl_r, kNLl_n, ktag_i, ktag_r, List.length_cons, List.length_nil, List.take_succ_cons, List.take_zero, List.take_nil, List.nil_append, List.cons_append, decide_eq_true_eq, Bool.not_eq_true, Bool.not_eq_true', decide_eq_false_iff_not, ne_eq, Decidable.not_not, true_and, and_true, Nat.reduceAdd, Nat.reduceLeDiff, Nat.reduceEqDiff, Nat.le_refl, not_true_eq_false, not_false_eq_true, reduceIte, eq_self, Int.reduceNeg, Int.reduceEq, Int.reduceLT, Int.reduceLE, Nat.zero_le, Nat.one_ne_zero]; trivial
      · omega
      · exact ⟨t, q, dp, by', rfl, hlt, hv.symm, B, ⟨S1, S2, S3⟩, fun j hj => by omega⟩
      · rintro k P s1 ⟨t, q, dp, by', rfl, -⟩; exact ⟨rfl, rfl⟩
      · rintro k P s1 h0 h1 ⟨t, q, dp, by', rfl, -⟩
        simp only [wpS_skip, wpS_break, wpS_cont, wpS_retV, wpS_throw, wpS_seq, wpS_if, wpS_trunc, yS_let, yS_inc, kgK_i, kgK_r, kok_nil, kok_i0, kok_is, kok_r0, kok_rs, kok_n0, kok_ns, xS_put, xS_putOp, xS_ast0, xS_ast1, xS_astOp, wpS_E, wpS_call, wpS_callS, wpS_ret, kThen_N, kThen_B, kThen_C, kThen_R, kThen_T, kNext_N, kNext_C, kNext_B, kNext_R, wpE_K, wpE_KL, xE_I, xE_R, wpE_J, xE_bin, wpE_ladd, wpE_i2l, xE_get, xE_ald0, xE_ald1, wpE_if, xE_max, xE_min, wpE_len, wpA_nil, wpA_snoc, xE_call, xE_callS, xC_C, xC_L, xC_Z, wpC_and, wpC_or, wpC_not, wpC_if, kcmp_0, kcmp_1, kcmp_2, kcmp_3, kcmp_4, kcmp_5, rR_inj, kgO_some, kgO_add, kgO_sub, kgO_mul, kgO_div, kgO_rem, kgO_and, kvI_inl, kvJ_inl, kgI_0, kgI_s, kgR_0, kgR_s, kst_nil, kst_0, kst_s, kNLl_nil, kNLl_i, kNLl_r, kNLl_n, ktag_i, ktag_r, List.length_cons, List.length_nil, List.take_succ_cons, List.take_zero, List.take_nil, List.nil_append, List.cons_append, decide_eq_true_eq, Bool.not_eq_true, Bool.not_eq_true', decide_eq_false_iff_not, ne_eq, Decidable.not_not, true_and, and_true, Nat.reduceAdd, Nat.reduceLeDiff, Nat.reduceEqDiff, Nat.le_refl, not_true_eq_false, not_false_eq_true, reduceIte, eq_self, Int.reduceNeg, Int.reduceEq, Int.reduceLT, Int.reduceLE, Nat.zero_le, Nat.one_ne_zero]
      · rintro k P s1 h0 h1 ⟨t, q, dp, by', rfl, hlt, hqv, B, ⟨S1, S2, S3⟩, hdone⟩
        obtain ⟨x, hx⟩ : ∃ x, x = atK Fo So Fi Si v k := ⟨_, rfl⟩
        obtain ⟨hxt, hxe⟩ := at_there w9 w11 hqn h1
        rw [← hx] at hxt hxe
        obtain ⟨x1, x2, x3, x4⟩ := th_lt hG hxt
        have ho := othr_lt hG (v := v) hxt
        have f8 := w8.agree (s' := s1) (fun k => S1 _ _ (by decide) (by decide)) (fun k => S1 _ _ (by decide) (by decide)) (fun k => S1 _ _ (by decide) (by decide))
        have f10 := w10.agree (s' := s1) (fun k => S1 _ _ (by decide) (by decide)) (fun k => S1 _ _ (by decide) (by decide)) (fun k => S1 _ _ (by decide) (by decide))
        rw [wpS_trunc]
        refine wpS_seq' (fun Q106 hQ106 => ?_)
        simp only [wpS_skip, wpS_break, wpS_cont, wpS_retV, wpS_throw, wpS_seq, wpS_if, wpS_trunc, yS_let, yS_inc, kgK_i, kgK_r, kok_nil, kok_i0, kok_is, kok_r0, kok_rs, kok_n0, kok_ns, xS_put, xS_putOp, xS_ast0, xS_ast1, xS_astOp, wpS_E, wpS_call, wpS_callS, wpS_ret, kThen_N, kThen_B, kThen_C, kThen_R, kThen_T, kNext_N, kNext_C, kNext_B, kNext_R, wpE_K, wpE_KL, xE_I, xE_R, wpE_J, xE_bin, wpE_ladd, wpE_i2l, xE_get, xE_ald0, xE_ald1, wpE_if, xE_max, xE_min, wpE_len, wpA_nil, wpA_snoc, xE_call, xE_callS, xC_C, xC_L, xC_Z, wpC_and, wpC_or, wpC_not, wpC_if, kcmp_0, kcmp_1, kcmp_2, kcmp_3, kcmp_4, kcmp_5, rR_inj, kgO_some, kgO_add, kgO_sub, kgO_mul, kgO_div, kgO_rem, kgO_and, kvI_inl, kvJ_inl, kgI_0, kgI_s, kgR_0, kgR_s, kst_nil, kst_0, kst_s, kNLl_nil, kNLl_i, kNLl_r, kNLl_n, ktag_i, ktag_r, List.length_cons, List.length_nil, List.take_succ_cons, List.take_zero, List.take_nil, List.nil_append, List.cons_append, decide_eq_true_eq, Bool.not_eq_true, Bool.not_eq_true', decide_eq_false_iff_not, ne_eq, Decidable.not_not, true_and, and_true, Nat.reduceAdd, Nat.reduceLeDiff, Nat.reduceEqDiff, Nat.le_refl, not_true_eq_false, not_false_eq_true, reduceIte, eq_self, Int.reduceNeg, Int.reduceEq, Int.reduceLT, Int.reduceLE, Nat.zero_le, Nat.one_ne_zero, ev_trees, ev_web]
        refine (webArcAt_ok f8 w9 f10 w11 hn3 hc9 hqn h1).mono ?_
        rintro r s' ⟨hs, rfl⟩
        subst s'
        rw [kgO_some, ← hx]
        simp only [wpS_skip, wpS_break, wpS_cont, wpS_retV, wpS_throw, wpS_seq, wpS_if, wpS_trunc, yS_let, yS_inc, kgK_i, kgK_r, kok_nil, kok_i0, kok_is, kok_r0, kok_rs, kok_n0, kok_ns, xS_put, xS_putOp, xS_ast0, xS_ast1, xS_astOp, wpS_E, wpS_call, wpS_callS, wpS_ret, kThen_N, kThen_B, kThen_C, kThen_R, kThen_T, kNext_N, kNext_C, kNext_B, kNext_R, wpE_K, wpE_KL, xE_I, xE_R, wpE_J, xE_bin, wpE_ladd, wpE_i2l, xE_get, xE_ald0, xE_ald1, wpE_if, xE_max, xE_min, wpE_len, wpA_nil, wpA_snoc, xE_call, xE_callS, xC_C, xC_L, xC_Z, wpC_and, wpC_or, wpC_not, wpC_if, kcmp_0, kcmp_1, kcmp_2, kcmp_3, kcmp_4, kcmp_5, rR_inj, kgO_some, kgO_add, kgO_sub, kgO_mul, kgO_div, kgO_rem, kgO_and, kvI_inl, kvJ_inl, kgI_0, kgI_s, kgR_0, kgR_s, kst_nil, kst_0, kst_s, kNLl_nil, kNLl_i, kNLl_r, kNLl_n, ktag_i, ktag_r, List.length_cons, List.length_nil, List.take_succ_cons, List.take_zero, List.take_nil, List.nil_append, List.cons_append, decide_eq_true_eq, Bool.not_eq_true, Bool.not_eq_true', decide_eq_false_iff_not, ne_eq, Decidable.not_not, true_and, and_true, Nat.reduceAdd, Nat.reduceLeDiff, Nat.reduceEqDiff, Nat.le_refl, not_true_eq_false, not_false_eq_true, reduceIte, eq_self, Int.reduceNeg, Int.reduceEq, Int.reduceLT, Int.reduceLE, Nat.zero_le, Nat.one_ne_zero]
        rw [hQ106]
        clear hQ106
        refine kThen_N.mpr ?_
        refine wpS_seq' (fun Q107 hQ107 => ?_)
        simp only [wpS_skip, wpS_break, wpS_cont, wpS_retV, wpS_throw, wpS_seq, wpS_if, wpS_trunc, yS_let, yS_inc, kgK_i, kgK_r, kok_nil, kok_i0, kok_is, kok_r0, kok_rs, kok_n0, kok_ns, xS_put, xS_putOp, xS_ast0, xS_ast1, xS_astOp, wpS_E, wpS_call, wpS_callS, wpS_ret, kThen_N, kThen_B, kThen_C, kThen_R, kThen_T, kNext_N, kNext_C, kNext_B, kNext_R, wpE_K, wpE_KL, xE_I, xE_R, wpE_J, xE_bin, wpE_ladd, wpE_i2l, xE_get, xE_ald0, xE_ald1, wpE_if, xE_max, xE_min, wpE_len, wpA_nil, wpA_snoc, xE_call, xE_callS, xC_C, xC_L, xC_Z, wpC_and, wpC_or, wpC_not, wpC_if, kcmp_0, kcmp_1, kcmp_2, kcmp_3, kcmp_4, kcmp_5, rR_inj, kgO_some, kgO_add, kgO_sub, kgO_mul, kgO_div, kgO_rem, kgO_and, kvI_inl, kvJ_inl, kgI_0, kgI_s, kgR_0, kgR_s, kst_nil, kst_0, kst_s, kNLl_nil, kNLl_i, kNLl_r, kNLl_n, ktag_i, ktag_r, List.length_cons, List.length_nil, List.take_succ_cons, List.take_zero, List.take_nil, List.nil_append, List.cons_append, decide_eq_true_eq, Bool.not_eq_true, Bool.not_eq_true', decide_eq_false_iff_not, ne_eq, Decidable.not_not, true_and, and_true, Nat.reduceAdd, Nat.reduceLeDiff, Nat.reduceEqDiff, Nat.le_refl, not_true_eq_false, not_false_eq_true, reduceIte, eq_self, Int.reduceNeg, Int.reduceEq, Int.reduceLT, Int.reduceLE, Nat.zero_le, Nat.one_ne_zero, ev_trees, ev_web]
        refine (webOther_ok (fs := fs) (sn := sn) (fun x => by rw [S1 _ _ (by decide) (by decide)]; exact w4 x) (fun x => by rw [S1 _ _ (by decide) (by decide)]; exact w5 x) x2).mono ?_
        rintro r s' ⟨hs, rfl⟩
        subst s'
        rw [kgO_some]
        simp only [wpS_skip, wpS_break, wpS_cont, wpS_retV, wpS_throw, wpS_seq, wpS_if, wpS_trunc, yS_let, yS_inc, kgK_i, kgK_r, kok_nil, kok_i0, kok_is, kok_r0, kok_rs, kok_n0, kok_ns, xS_put, xS_putOp, xS_ast0, xS_ast1, xS_astOp, wpS_E, wpS_call, wpS_callS, wpS_ret, kThen_N, kThen_B, kThen_C, kThen_R, kThen_T, kNext_N, kNext_C, kNext_B, kNext_R, wpE_K, wpE_KL, xE_I, xE_R, wpE_J, xE_bin, wpE_ladd, wpE_i2l, xE_get, xE_ald0, xE_ald1, wpE_if, xE_max, xE_min, wpE_len, wpA_nil, wpA_snoc, xE_call, xE_callS, xC_C, xC_L, xC_Z, wpC_and, wpC_or, wpC_not, wpC_if, kcmp_0, kcmp_1, kcmp_2, kcmp_3, kcmp_4, kcmp_5, rR_inj, kgO_some, kgO_add, kgO_sub, kgO_mul, kgO_div, kgO_rem, kgO_and, kvI_inl, kvJ_inl, kgI_0, kgI_s, kgR_0, kgR_s, kst_nil, kst_0, kst_s, kNLl_nil, kNLl_i, kNLl_r, kNLl_n, ktag_i, ktag_r, List.length_cons, List.length_nil, List.take_succ_cons, List.take_zero, List.take_nil, List.nil_append, List.cons_append, decide_eq_true_eq, Bool.not_eq_true, Bool.not_eq_true', decide_eq_false_iff_not, ne_eq, Decidable.not_not, true_and, and_true, Nat.reduceAdd, Nat.reduceLeDiff, Nat.reduceEqDiff, Nat.le_refl, not_true_eq_false, not_false_eq_true, reduceIte, eq_self, Int.reduceNeg, Int.reduceEq, Int.reduceLT, Int.reduceLE, Nat.zero_le, Nat.one_ne_zero]
        rw [hQ107]
        clear hQ107
        refine kThen_N.mpr ?_
        obtain ⟨u, hu⟩ : ∃ u, u = othr fs sn x v := ⟨_, rfl⟩
        rw [← hu] at ho ⊢
        refine wpS_gen (fun Q3 hQ3 => ?_)
        have e24 : s1 24 x = tr x := by rw [S1 _ _ (by decide) (by decide)]; exact hT.2 x
        have e23 : s1 23 x = lv x := by rw [S1 _ _ (by decide) (by decide)]; exact hT.1 x
        -- nothing new
        have old : (tA lv tr le x → ∃ i, i < t ∧ q i = u) → Q3 rN [some (.inr (.inl 4)), some (.inl (fr : Int)), some (.inl le), some (.inl mk), some (.inl (t : Int)), some (.inl (h : Int)), some (.inl (v : Int)), some (.inl (dgr So Si v : Int)), some (.inl (k : Int)), some (.inl (x : Int)), some (.inl (u : Int))] s1 := by
          intro ha
          rw [hQ3]
          refine kStep_N rfl ⟨t, q, dp, by', rfl, hlt, hqv, B, ⟨S1, S2, S3⟩, fun j hj hA => ?_⟩
          by_cases e : j = k
          · subst e; rw [← hx] at hA ⊢; rw [← hu]; exact ha hA
          · exact hdone j (by omega) hA
        simp only [wpS_skip, wpS_break, wpS_cont, wpS_retV, wpS_throw, wpS_seq, wpS_if, wpS_trunc, yS_let, yS_inc, kgK_i, kgK_r, kok_nil, kok_i0, kok_is, kok_r0, kok_rs, kok_n0, kok_ns, xS_put, xS_putOp, xS_ast0, xS_ast1, xS_astOp, wpS_E, wpS_call, wpS_callS, wpS_ret, kThen_N, kThen_B, kThen_C, kThen_R, kThen_T, kNext_N, kNext_C, kNext_B, kNext_R, wpE_K, wpE_KL, xE_I, xE_R, wpE_J, xE_bin, wpE_ladd, wpE_i2l, xE_get, xE_ald0, xE_ald1, wpE_if, xE_max, xE_min, wpE_len, wpA_nil, wpA_snoc, xE_call, xE_callS, xC_C, xC_L, xC_Z, wpC_and, wpC_or, wpC_not, wpC_if, kcmp_0, kcmp_1, kcmp_2, kcmp_3, kcmp_4, kcmp_5, rR_inj, kgO_some, kgO_add, kgO_sub, kgO_mul, kgO_div, kgO_rem, kgO_and, kvI_inl, kvJ_inl, kgI_0, kgI_s, kgR_0, kgR_s, kst_nil, kst_0, kst_s, kNLl_nil, kNLl_i, kNLl_r, kNLl_n, ktag_i, ktag_r, List.length_cons, List.length_nil, List.take_succ_cons, List.take_zero, List.take_nil, List.nil_append, List.cons_append, decide_eq_true_eq, Bool.not_eq_true, Bool.not_eq_true', decide_eq_false_iff_not, ne_eq, Decidable.not_not, true_and, and_true, Nat.reduceAdd, Nat.reduceLeDiff, Nat.reduceEqDiff, Nat.le_refl, not_true_eq_false, not_false_eq_true, reduceIte, eq_self, Int.reduceNeg, Int.reduceEq, Int.reduceLT, Int.reduceLE, Nat.zero_le, Nat.one_ne_zero, ev_trees, ev_trees_arr, Int.toNat_natCast, e24, e23]
        refine ⟨by omega, ?_⟩
        by_cases a1 : tr x = 0
        · simp only [a1, decide_true, decide_false, Bool.false_eq_true, if_true, if_false, true_and, and_true, not_true_eq_false, not_false_eq_true]
          exact old (fun q => absurd a1 q.1)
        · simp only [a1, decide_true, decide_false, Bool.false_eq_true, if_true, if_false, true_and, and_true, not_true_eq_false, not_false_eq_true]
          refine ⟨by omega, ?_⟩
          by_cases a2 : le ≤ (lv x : Int)
          · simp only [a2, decide_true, decide_false, Bool.false_eq_true, if_true, if_false, true_and, and_true, not_true_eq_false, not_false_eq_true]
            refine ⟨by omega, ?_⟩
            by_cases a3 : s1 30 u = mk
            · simp only [a3, decide_true, decide_false, Bool.false_eq_true, if_true, if_false, true_and, and_true, not_true_eq_false, not_false_eq_true]
              refine old (fun _ => Classical.byContradiction fun hn => ?_)
              have := (S3 u).2 hn
              rw [this] at a3
              refine hm u ?_ a3
              have hr := (⟨_, B.2.2.2.2.2.2.1 h hlt⟩ : rch (bE al (mtg fs sn)) fr (q h))
              rw [hqv] at hr
              refine rch.snoc hr ?_
              rw [hE]
              exact ⟨x, ⟨hxt, a1, a2⟩, by rw [hu]; exact othr_at hxe⟩
            · simp only [a3, decide_true, decide_false, Bool.false_eq_true, if_true, if_false, true_and, and_true, not_true_eq_false, not_false_eq_true]
              have hnew : ∀ i, i < t → q i ≠ u := fun i hi e => a3 ((S3 u).1 ⟨i, hi, e⟩)
              have htn := bf_lt B ho hnew
              have hmem : hc fs v x ∈ al (q h) := by rw [hal, hqv]; exact (cAl_mem hG).mpr ⟨x, hxt, ⟨a1, a2⟩, hxe, rfl⟩
              have B' := bf_add B hlt hmem (by rw [mtg_hc.1, ← hu]) ho hnew
              repeat refine And.intro (by omega) ?_
              rw [hQ3]
              refine kStep_N rfl ⟨t + 1, _, _, _, rfl, by omega, ?_, B', ⟨?_, ?_, ?_⟩, ?_⟩
              · rw [if_neg (by omega)]; exact hqv
              · intro o k q1 q2; rw [kup_ne q1, kup_ne q2]; exact S1 o k q1 q2
              · intro i hi
                rw [kup_eq]
                dsimp only
                by_cases e : i = t
                · rw [if_pos e, if_pos e]
                · rw [if_neg e, if_neg e, kup_ne (by decide)]; exact S2 i (by omega)
              · intro w
                rw [kup_ne (by decide), kup_eq]
                by_cases e : w = u
                · rw [if_pos e]
                  exact ⟨fun _ => rfl, fun hn => absurd ⟨t, by omega, by simp [e]⟩ hn⟩
                · rw [if_neg e]
                  refine ⟨fun ⟨i, i1, i2⟩ => (S3 w).1 ?_, fun hn => (S3 w).2 (fun ⟨i, i1, i2⟩ => hn ⟨i, by omega, by dsimp only; rw [if_neg (by omega)]; exact i2⟩)⟩
                  dsimp only at i2
                  by_cases e2 : i = t
                  · rw [if_pos e2] at i2; exact absurd i2.symm e
                  · rw [if_neg e2] at i2; exact ⟨i, by omega, i2⟩
              · intro j hj hA
                by_cases e : j = k
                · subst e; rw [← hx, ← hu]; exact ⟨t, by omega, by simp⟩
                · obtain ⟨i, i1, i2⟩ := hdone j (by omega) hA
                  exact ⟨i, by omega, by rw [if_neg (by omega)]; exact i2⟩
          · simp only [a2, decide_true, decide_false, Bool.false_eq_true, if_true, if_false, true_and, and_true, not_true_eq_false, not_false_eq_true]
            exact old (fun q => absurd q.2 a2)
      · rintro P s1 ⟨t, q, dp, by', rfl, hlt, hqv, B, hS, hdone⟩
        refine kStep_N rfl ⟨t, q, dp, by', rfl, bf_next B hlt (fun e he => ?_), hS⟩
        rw [hal, hqv] at he
        obtain ⟨x, h1, h2, h3, rfl⟩ := (cAl_mem hG).mp he
        obtain ⟨k, k1, k2⟩ := at_all w9 w11 hqn h1 h3
        rw [← k2] at h2 ⊢
        rw [mtg_hc.1]
        exact hdone k k1 h2
    · have c2 : ¬ (h : Int) < (t : Int) := by omega
      have c1 : (h : Int) < 300 ∨ ¬ (h : Int) < 300 := Classical.em _
      have e : h = t := by omega
      have fin : Q1 rN [some (.inr (.inl 4)), some (.inl (fr : Int)), some (.inl le), some (.inl mk), some (.inl (t : Int))] s := by
        subst e
        rw [hQ1]
        refine kThen_N.mpr ?_
        refine wpS_gen (fun Q108 hQ108 => ?_)
        simp only [wpS_skip, wpS_break, wpS_cont, wpS_retV, wpS_throw, wpS_seq, wpS_if, wpS_trunc, yS_let, yS_inc, kgK_i, kgK_r, kok_nil, kok_i0, kok_is, kok_r0, kok_rs, kok_n0, kok_ns, xS_put, xS_putOp, xS_ast0, xS_ast1, xS_astOp, wpS_E, wpS_call, wpS_callS, wpS_ret, kThen_N, kThen_B, kThen_C, kThen_R, kThen_T, kNext_N, kNext_C, kNext_B, kNext_R, wpE_K, wpE_KL, xE_I, xE_R, wpE_J, xE_bin, wpE_ladd, wpE_i2l, xE_get, xE_ald0, xE_ald1, wpE_if, xE_max, xE_min, wpE_len, wpA_nil, wpA_snoc, xE_call, xE_callS, xC_C, xC_L, xC_Z, wpC_and, wpC_or, wpC_not, wpC_if, kcmp_0, kcmp_1, kcmp_2, kcmp_3, kcmp_4, kcmp_5, rR_inj, kgO_some, kgO_add, kgO_sub, kgO_mul, kgO_div, kgO_rem, kgO_and, kvI_inl, kvJ_inl, kgI_0, kgI_s, kgR_0, kgR_s, kst_nil, kst_0, kst_s, kNLl_nil, kNLl_i, kNLl_r, kNLl_n, ktag_i, ktag_r, List.length_cons, List.length_nil, List.take_succ_cons, List.take_zero, List.take_nil, List.nil_append, List.cons_append, decide_eq_true_eq, Bool.not_eq_true, Bool.not_eq_true', decide_eq_false_iff_not, ne_eq, Decidable.not_not, true_and, and_true, Nat.reduceAdd, Nat.reduceLeDiff, Nat.reduceEqDiff, Nat.le_refl, not_true_eq_false, not_false_eq_true, reduceIte, eq_self, Int.reduceNeg, Int.reduceEq, Int.reduceLT, Int.reduceLE, Nat.zero_le, Nat.one_ne_zero]
        repeat refine And.intro (by omega) ?_
        rw [hQ108]
        clear hQ108 Q108
        obtain ⟨b1, b2⟩ := bf_end B
        refine ⟨_, rfl, rfl, ?_, S1, fun v => ⟨fun hr => (S3 v).1 ((b1 v).mp hr), fun hr => (S3 v).2 (fun q => hr ((b1 v).mpr q))⟩⟩
        rw [bf_len B b1]
      rcases c1 with c1 | c1 <;> (refine wpC_gen (fun Q2 hQ2 => ?_); simp only [wpS_skip, wpS_break, wpS_cont, wpS_retV, wpS_throw, wpS_seq, wpS_if, wpS_trunc, yS_let, yS_inc, kgK_i, kgK_r, kok_nil, kok_i0, kok_is, kok_r0, kok_rs, kok_n0, kok_ns, xS_put, xS_putOp, xS_ast0, xS_ast1, xS_astOp, wpS_E, wpS_call, wpS_callS, wpS_ret, kThen_N, kThen_B, kThen_C, kThen_R, kThen_T, kNext_N, kNext_C, kNext_B, kNext_R, wpE_K, wpE_KL, xE_I, xE_R, wpE_J, xE_bin, wpE_ladd, wpE_i2l, xE_get, xE_ald0, xE_ald1, wpE_if, xE_max, xE_min, wpE_len, wpA_nil, wpA_snoc, xE_call, xE_callS, xC_C, xC_L, xC_Z, wpC_and, wpC_or, wpC_not, wpC_if, kcmp_0, kcmp_1, kcmp_2, kcmp_3, kcmp_4, kcmp_5, rR_inj, kgO_some, kgO_add, kgO_sub, kgO_mul, kgO_div, kgO_rem, kgO_and, kvI_inl, kvJ_inl, kgI_0, kgI_s, kgR_0, kgR_s, kst_nil, kst_0, kst_s, kNLl_nil, kNLl_i, kNLl_r, kNLl_n, ktag_i, ktag_r, List.length_cons, List.length_nil, List.take_succ_cons, List.take_zero, List.take_nil, List.nil_append, List.cons_append, decide_eq_true_eq, Bool.not_eq_true, Bool.not_eq_true', decide_eq_false_iff_not, ne_eq, Decidable.not_not, true_and, and_true, Nat.reduceAdd, Nat.reduceLeDiff, Nat.reduceEqDiff, Nat.le_refl, not_true_eq_false, not_false_eq_true, reduceIte, eq_self, Int.reduceNeg, Int.reduceEq, Int.reduceLT, Int.reduceLE, Nat.zero_le, Nat.one_ne_zero, c1, c2, decide_true, decide_false, Bool.false_eq_true, if_true, if_false, true_and, and_true, not_true_eq_false, not_false_eq_true]; rw [hQ2]; exact ⟨rfl, Or.inr ⟨rfl, fin⟩⟩)
