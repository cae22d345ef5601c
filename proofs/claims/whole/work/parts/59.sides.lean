/-! THE CLASS'S TRIANGLES; its sides, all -/
section SI
variable {σ : kS} {n c ar : Nat} {li fs sn : Nat → Nat}
theorem tri_F {n a : Nat} {N : Nat → Nat → Prop} {St Ne : Nat → Nat} (hNr : nrP n N n St Ne) (ha : a < n) :
    sumR (fun k => iteP (a < Ne (St a + k)) (cntP (fun c => N (Ne (St a + k)) c ∧ Ne (St a + k) < c ∧ N a c) n)) (St (a + 1) - St a) = sumR (fun b => iteP (a < b ∧ N a b) (cntP (fun c => b < c ∧ N a c ∧ N b c) n)) n := by
  have h := sumR_row (P := N a) (f := fun b => iteP (a < b) (cntP (fun c => N b c ∧ b < c ∧ N a c) n)) (n := n) (q := fun k => Ne (St a + k)) (t := St (a + 1) - St a) (fun i hi => ⟨(hNr.2.2.1 a _ ha (by omega) (by omega)).2, (hNr.2.2.1 a _ ha (by omega) (by omega)).1⟩) (fun i j hi hj e => by
    have e2 : Ne (St a + i) = Ne (St a + j) := e
    rcases Nat.lt_trichotomy i j with w | w | w
    · exact absurd e2 (hNr.2.2.2.1 a _ _ ha (by omega) (by omega) (by omega))
    · exact w
    · exact absurd e2.symm (hNr.2.2.2.1 a _ _ ha (by omega) (by omega) (by omega))) (fun u hu hp => by
    obtain ⟨i, i1, i2, i3⟩ := hNr.2.2.2.2 a u ha hu hp
    exact ⟨i - St a, by omega, by rw [show St a + (i - St a) = i by omega]; exact i3⟩)
  refine h.trans (sumR_congr (fun b _ => ?_))
  by_cases q : N a b
  · rw [iteP_pos q]
    by_cases q2 : a < b
    · rw [iteP_pos q2, iteP_pos ⟨q2, q⟩]
      exact cntP_congr (fun c _ => ⟨fun z => ⟨z.2.1, z.2.2, z.1⟩, fun z => ⟨z.2.2, z.1, z.2.1⟩⟩)
    · rw [iteP_neg q2, iteP_neg (fun z => q2 z.1)]
  · rw [iteP_neg q, iteP_neg (fun z => q z.2)]
/-- the sides hold what they tell -/
def SdOk (s : kS) (o st ne co n : Nat) (N : Nat → Nat → Prop) : Prop := (∃ St Ne, Sr s st ne n St Ne ∧ nrP n N n St Ne) ∧ (∀ v, v < n → ∃ k : Nat, s co v = (k : Int) ∧ k ≤ 300 ∧ coreIs n N v k) ∧ s o 7 = (tri n N : Int)
theorem sidesMarked_ok {N : Nat → Nat → Prop} {St Ne : Nat → Nat} {a b : Nat} (hn3 : n ≤ 300) (hS : Sr σ 45 46 n St Ne) (hNr : nrP n N n St Ne) (hb : b < n) (hm : ∀ c, c < n → (σ 48 c = (a : Int) ↔ N a c)) :
    wpF F_Sides_markedBehind [.inr (.inl 9), .inl (b : Int), .inl (a : Int)] σ (fun r s => s = σ ∧ r = some (.inl (cntP (fun c => N b c ∧ b < c ∧ N a c) n : Int))) := by
  obtain ⟨hSt, hNe, h18⟩ := hS
  have e1 := hSt b (by omega)
  have e2 := hSt (b + 1) (by omega)
  have t1 : ((b : Int) + 1).toNat = b + 1 := by omega
  have hd := hNr.deg hb
  have hle := hNr.mono (show b + 1 ≤ n from hb) (Nat.le_refl n)
  obtain ⟨G, hG⟩ : ∃ G : Nat → Prop, G = fun k => b < Ne (St b + k) ∧ N a (Ne (St b + k)) := ⟨_, rfl⟩
  unfold F_Sides_markedBehind
  rw [wpF_kF]
  refine ⟨rfl, rfl, ?_⟩
  unfold s_Sides_markedBehind
  simp only [List.map_cons, List.map_nil]
  refine wpS_seq' (fun Q101 hQ101 => ?_)
  simp only [wpS_skip, wpS_break, wpS_cont, wpS_retV, wpS_throw, wpS_seq, wpS_if, wpS_trunc, yS_let, yS_inc, kgK_i, kgK_r, kok_nil, kok_i0, kok_is, kok_r0, kok_rs, kok_n0, kok_ns, xS_put, xS_putOp, xS_ast0, xS_ast1, xS_astOp, wpS_E, wpS_call, wpS_callS, wpS_ret, kThen_N, kThen_B, kThen_C, kThen_R, kThen_T, kNext_N, kNext_C, kNext_B, kNext_R, wpE_K, wpE_KL, xE_I, xE_R, wpE_J, xE_bin, wpE_ladd, wpE_i2l, xE_get, xE_ald0, xE_ald1, wpE_if, xE_max, xE_min, wpE_len, wpA_nil, wpA_snoc, xE_call, xE_callS, xC_C, xC_L, xC_Z, wpC_and, wpC_or, wpC_not, wpC_if, kcmp_0, kcmp_1, kcmp_2, kcmp_3, kcmp_4, kcmp_5, rR_inj, kgO_some, kgO_add, kgO_sub, kgO_mul, kgO_div, kgO_rem, kgO_and, kvI_inl, kvJ_inl, kgI_0, kgI_s, kgR_0, kgR_s, kst_nil, kst_0, kst_s, kNLl_nil, kNLl_i, kNLl_r, kNLl_n, ktag_i, ktag_r, List.length_cons, List.length_nil, List.take_succ_cons, List.take_zero, List.take_nil, List.nil_append, List.cons_append, decide_eq_true_eq, Bool.not_eq_true, Bool.not_eq_true', decide_eq_false_iff_not, ne_eq, Decidable.not_not, true_and, and_true, Nat.reduceAdd, Nat.reduceLeDiff, Nat.reduceEqDiff, Nat.le_refl, not_true_eq_false, not_false_eq_true, reduceIte, eq_self, Int.reduceNeg, Int.reduceEq, Int.reduceLT, Int.reduceLE, Nat.zero_le, Nat.one_ne_zero]
  repeat refine And.intro (by omega) ?_
  rw [hQ101]
  clear hQ101 Q101
  refine kThen_N.mpr ?_
  refine wpS_seq' (fun Q1 hQ1 => ?_)
  unfold l_Sides_markedBehind_1
  refine wpS_fort (fun i P s => P = [some (.inr (.inl 9)), some (.inl (b : Int)), some (.inl (a : Int)), some (.inl (cntP G (i - St b) : Int))] ∧ s = σ) (St b) (St (b + 1)) rfl rfl ?_ ?_ ?_ ?_ ?_ ?_ ?_
  · simp only [wpS_skip, wpS_break, wpS_cont, wpS_retV, wpS_throw, wpS_seq, wpS_if, wpS_trunc, yS_let, yS_inc, kgK_i, kgK_r, kok_nil, kok_i0, kok_is, kok_r0, kok_rs, kok_n0, kok_ns, xS_put, xS_putOp, xS_ast0, xS_ast1, xS_astOp, wpS_E, wpS_call, wpS_callS, wpS_ret, kThen_N, kThen_B, kThen_C, kThen_R, kThen_T, kNext_N, kNext_C, kNext_B, kNext_R, wpE_K, wpE_KL, xE_I, xE_R, wpE_J, xE_bin, wpE_ladd, wpE_i2l, xE_get, xE_ald0, xE_ald1, wpE_if, xE_max, xE_min, wpE_len, wpA_nil, wpA_snoc, xE_call, xE_callS, xC_C, xC_L, xC_Z, wpC_and, wpC_or, wpC_not, wpC_if, kcmp_0, kcmp_1, kcmp_2, kcmp_3, kcmp_4, kcmp_5, rR_inj, kgO_some, kgO_add, kgO_sub, kgO_mul, kgO_div, kgO_rem, kgO_and, kvI_inl, kvJ_inl, kgI_0, kgI_s, kgR_0, kgR_s, kst_nil, kst_0, kst_s, kNLl_nil, kNLl_i, kNLl_r, kNLl_n, ktag_i, ktag_r, List.length_cons, List.length_nil, List.take_succ_cons, List.take_zero, List.take_nil, List.nil_append, List.cons_append, decide_eq_true_eq, Bool.not_eq_true, Bool.not_eq_true', decide_eq_false_iff_not, ne_eq, Decidable.not_not, true_and, and_true, Nat.reduceAdd, Nat.reduceLeDiff, Nat.reduceEqDiff, Nat.le_refl, not_true_eq_false, not_false_eq_true, reduceIte, eq_self, Int.reduceNeg, Int.reduceEq, Int.reduceLT, Int.reduceLE, Nat.zero_le, Nat.one_ne_zero, ev_sides, ev_sides_arr, Int.toNat_natCast, e1]
    omega
  · omega
  · rw [Nat.sub_self]; exact ⟨rfl, rfl⟩
  · rintro i P s ⟨rfl, -⟩; exact ⟨rfl, rfl⟩
  · rintro i P s - - ⟨rfl, rfl⟩
    simp only [wpS_skip, wpS_break, wpS_cont, wpS_retV, wpS_throw, wpS_seq, wpS_if, wpS_trunc, yS_let, yS_inc, kgK_i, kgK_r, kok_nil, kok_i0, kok_is, kok_r0, kok_rs, kok_n0, kok_ns, xS_put, xS_putOp, xS_ast0, xS_ast1, xS_astOp, wpS_E, wpS_call, wpS_callS, wpS_ret, kThen_N, kThen_B, kThen_C, kThen_R, kThen_T, kNext_N, kNext_C, kNext_B, kNext_R, wpE_K, wpE_KL, xE_I, xE_R, wpE_J, xE_bin, wpE_ladd, wpE_i2l, xE_get, xE_ald0, xE_ald1, wpE_if, xE_max, xE_min, wpE_len, wpA_nil, wpA_snoc, xE_call, xE_callS, xC_C, xC_L, xC_Z, wpC_and, wpC_or, wpC_not, wpC_if, kcmp_0, kcmp_1, kcmp_2, kcmp_3, kcmp_4, kcmp_5, rR_inj, kgO_some, kgO_add, kgO_sub, kgO_mul, kgO_div, kgO_rem, kgO_and, kvI_inl, kvJ_inl, kgI_0, kgI_s, kgR_0, kgR_s, kst_nil, kst_0, kst_s, kNLl_nil, kNLl_i, kNLl_r, kNLl_n, ktag_i, ktag_r, List.length_cons, List.length_nil, List.take_succ_cons, List.take_zero, List.take_nil, List.nil_append, List.cons_append, decide_eq_true_eq, Bool.not_eq_true, Bool.not_eq_true', decide_eq_false_iff_not, ne_eq, Decidable.not_not, true_and, and_true, Nat.reduceAdd, Nat.reduceLeDiff, Nat.reduceEqDiff, Nat.le_refl, not_true_eq_false, not_false_eq_true, reduceIte, eq_self, Int.reduceNeg, Int.reduceEq, Int.reduceLT, Int.reduceLE, Nat.zero_le, Nat.one_ne_zero, ev_sides, ev_sides_arr, Int.toNat_natCast, t1, e2]
    omega
  · rintro i P s h0 h1 ⟨rfl, rfl⟩
    obtain ⟨u, hu⟩ : ∃ u, u = Ne i := ⟨_, rfl⟩
    have hun : u < n := by rw [hu]; exact (hNr.2.2.1 b i hb h0 h1).2
    have e46 : s 46 i = u := by rw [hNe i (by omega), hu]
    have hmu := hm u hun
    have hbd := @cntP_bound G (i - St b)
    have hGi : G (i - St b) ↔ (b < u ∧ N a u) := by rw [hG, hu]; dsimp only; rw [show St b + (i - St b) = i by omega]
    have es : i + 1 - St b = (i - St b) + 1 := by omega
    refine wpS_gen (fun Q2 hQ2 => ?_)
    have no : ¬ (b < u ∧ N a u) → Q2 rN [some (.inr (.inl 9)), some (.inl (b : Int)), some (.inl (a : Int)), some (.inl (cntP G (i - St b) : Int)), some (.inl (i : Int))] s := by
      intro h
      rw [hQ2]
      refine kStep_N (P := [some (.inr (.inl 9)), some (.inl (b : Int)), some (.inl (a : Int)), some (.inl (cntP G (i - St b) : Int))]) rfl ⟨?_, rfl⟩
      rw [es, cntP_succ_neg (fun q => h (hGi.mp q))]
    by_cases c1 : (b : Int) < (u : Int)
    · by_cases c2 : s 48 u = (a : Int)
      · simp only [wpS_skip, wpS_break, wpS_cont, wpS_retV, wpS_throw, wpS_seq, wpS_if, wpS_trunc, yS_let, yS_inc, kgK_i, kgK_r, kok_nil, kok_i0, kok_is, kok_r0, kok_rs, kok_n0, kok_ns, xS_put, xS_putOp, xS_ast0, xS_ast1, xS_astOp, wpS_E, wpS_call, wpS_callS, wpS_ret, kThen_N, kThen_B, kThen_C, kThen_R, kThen_T, kNext_N, kNext_C, kNext_B, kNext_R, wpE_K, wpE_KL, xE_I, xE_R, wpE_J, xE_bin, wpE_ladd, wpE_i2l, xE_get, xE_ald0, xE_ald1, wpE_if, xE_max, xE_min, wpE_len, wpA_nil, wpA_snoc, xE_call, xE_callS, xC_C, xC_L, xC_Z, wpC_and, wpC_or, wpC_not, wpC_if, kcmp_0, kcmp_1, kcmp_2, kcmp_3, kcmp_4, kcmp_5, rR_inj, kgO_some, kgO_add, kgO_sub, kgO_mul, kgO_div, kgO_rem, kgO_and, kvI_inl, kvJ_inl, kgI_0, kgI_s, kgR_0, kgR_s, kst_nil, kst_0, kst_s, kNLl_nil, kNLl_i, kNLl_r, kNLl_n, ktag_i, ktag_r, List.length_cons, List.length_nil, List.take_succ_cons, List.take_zero, List.take_nil, List.nil_append, List.cons_append, decide_eq_true_eq, Bool.not_eq_true, Bool.not_eq_true', decide_eq_false_iff_not, ne_eq, Decidable.not_not, true_and, and_true, Nat.reduceAdd, Nat.reduceLeDiff, Nat.reduceEqDiff, Nat.le_refl, not_true_eq_false, not_false_eq_true, reduceIte, eq_self, Int.reduceNeg, Int.reduceEq, Int.reduceLT, Int.reduceLE, Nat.zero_le, Nat.one_ne_zero, ev_sides, ev_sides_arr, Int.toNat_natCast, e46, c1, c2, decide_true, decide_false, Bool.false_eq_true, if_true, if_false, true_and, and_true, not_true_eq_false, not_false_eq_true]
        repeat refine And.intro (by omega) ?_
        rw [hQ2]
        refine kStep_N (P := [some (.inr (.inl 9)), some (.inl (b : Int)), some (.inl (a : Int)), some (.inl ((cntP G (i - St b) : Int) + 1))]) rfl ⟨?_, rfl⟩
        rw [es, cntP_succ_pos (hGi.mpr ⟨by omega, hmu.mp c2⟩)]; rfl
      · simp only [wpS_skip, wpS_break, wpS_cont, wpS_retV, wpS_throw, wpS_seq, wpS_if, wpS_trunc, yS_let, yS_inc, kgK_i, kgK_r, kok_nil, kok_i0, kok_is, kok_r0, kok_rs, kok_n0, kok_ns, xS_put, xS_putOp, xS_ast0, xS_ast1, xS_astOp, wpS_E, wpS_call, wpS_callS, wpS_ret, kThen_N, kThen_B, kThen_C, kThen_R, kThen_T, kNext_N, kNext_C, kNext_B, kNext_R, wpE_K, wpE_KL, xE_I, xE_R, wpE_J, xE_bin, wpE_ladd, wpE_i2l, xE_get, xE_ald0, xE_ald1, wpE_if, xE_max, xE_min, wpE_len, wpA_nil, wpA_snoc, xE_call, xE_callS, xC_C, xC_L, xC_Z, wpC_and, wpC_or, wpC_not, wpC_if, kcmp_0, kcmp_1, kcmp_2, kcmp_3, kcmp_4, kcmp_5, rR_inj, kgO_some, kgO_add, kgO_sub, kgO_mul, kgO_div, kgO_rem, kgO_and, kvI_inl, kvJ_inl, kgI_0, kgI_s, kgR_0, kgR_s, kst_nil, kst_0, kst_s, kNLl_nil, kNLl_i, kNLl_r, kNLl_n, ktag_i, ktag_r, List.length_cons, List.length_nil, List.take_succ_cons, List.take_zero, List.take_nil, List.nil_append, List.cons_append, decide_eq_true_eq, Bool.not_eq_true, Bool.not_eq_true', decide_eq_false_iff_not, ne_eq, Decidable.not_not, true_and, and_true, Nat.reduceAdd, Nat.reduceLeDiff, Nat.reduceEqDiff, Nat.le_refl, not_true_eq_false, not_false_eq_true, reduceIte, eq_self, Int.reduceNeg, Int.reduceEq, Int.reduceLT, Int.reduceLE, Nat.zero_le, Nat.one_ne_zero, ev_sides, ev_sides_arr, Int.toNat_natCast, e46, c1, c2, decide_true, decide_false, Bool.false_eq_true, if_true, if_false, true_and, and_true, not_true_eq_false, not_false_eq_true]
        repeat refine And.intro (by omega) ?_
        exact no (fun q => c2 (hmu.mpr q.2))
    · simp only [wpS_skip, wpS_break, wpS_cont, wpS_retV, wpS_throw, wpS_seq, wpS_if, wpS_trunc, yS_let, yS_inc, kgK_i, kgK_r, kok_nil, kok_i0, kok_is, kok_r0, kok_rs, kok_n0, kok_ns, xS_put, xS_putOp, xS_ast0, xS_ast1, xS_astOp, wpS_E, wpS_call, wpS_callS, wpS_ret, kThen_N, kThen_B, kThen_C, kThen_R, kThen_T, kNext_N, kNext_C, kNext_B, kNext_R, wpE_K, wpE_KL, xE_I, xE_R, wpE_J, xE_bin, wpE_ladd, wpE_i2l, xE_get, xE_ald0, xE_ald1, wpE_if, xE_max, xE_min, wpE_len, wpA_nil, wpA_snoc, xE_call, xE_callS, xC_C, xC_L, xC_Z, wpC_and, wpC_or, wpC_not, wpC_if, kcmp_0, kcmp_1, kcmp_2, kcmp_3, kcmp_4, kcmp_5, rR_inj, kgO_some, kgO_add, kgO_sub, kgO_mul, kgO_div, kgO_rem, kgO_and, kvI_inl, kvJ_inl, kgI_0, kgI_s, kgR_0, kgR_s, kst_nil, kst_0, kst_s, kNLl_nil, kNLl_i, kNLl_r, kNLl_n, ktag_i, ktag_r, List.length_cons, List.length_nil, List.take_succ_cons, List.take_zero, List.take_nil, List.nil_append, List.cons_append, decide_eq_true_eq, Bool.not_eq_true, Bool.not_eq_true', decide_eq_false_iff_not, ne_eq, Decidable.not_not, true_and, and_true, Nat.reduceAdd, Nat.reduceLeDiff, Nat.reduceEqDiff, Nat.le_refl, not_true_eq_false, not_false_eq_true, reduceIte, eq_self, Int.reduceNeg, Int.reduceEq, Int.reduceLT, Int.reduceLE, Nat.zero_le, Nat.one_ne_zero, ev_sides, ev_sides_arr, Int.toNat_natCast, e46, c1, decide_true, decide_false, Bool.false_eq_true, if_true, if_false, true_and, and_true, not_true_eq_false, not_false_eq_true]
      repeat refine And.intro (by omega) ?_
      exact no (fun q => c1 (by omega))
  · rintro P s ⟨rfl, rfl⟩
    rw [hQ1]
    refine kThen_N.mpr ?_
    refine wpS_gen (fun Q102 hQ102 => ?_)
    simp only [wpS_skip, wpS_break, wpS_cont, wpS_retV, wpS_throw, wpS_seq, wpS_if, wpS_trunc, yS_let, yS_inc, kgK_i, kgK_r, kok_nil, kok_i0, kok_is, kok_r0, kok_rs, kok_n0, kok_ns, xS_put, xS_putOp, xS_ast0, xS_ast1, xS_astOp, wpS_E, wpS_call, wpS_callS, wpS_ret, kThen_N, kThen_B, kThen_C, kThen_R, kThen_T, kNext_N, kNext_C, kNext_B, kNext_R, wpE_K, wpE_KL, xE_I, xE_R, wpE_J, xE_bin, wpE_ladd, wpE_i2l, xE_get, xE_ald0, xE_ald1, wpE_if, xE_max, xE_min, wpE_len, wpA_nil, wpA_snoc, xE_call, xE_callS, xC_C, xC_L, xC_Z, wpC_and, wpC_or, wpC_not, wpC_if, kcmp_0, kcmp_1, kcmp_2, kcmp_3, kcmp_4, kcmp_5, rR_inj, kgO_some, kgO_add, kgO_sub, kgO_mul, kgO_div, kgO_rem, kgO_and, kvI_inl, kvJ_inl, kgI_0, kgI_s, kgR_0, kgR_s, kst_nil, kst_0, kst_s, kNLl_nil, kNLl_i, kNLl_r, kNLl_n, ktag_i, ktag_r, List.length_cons, List.length_nil, List.take_succ_cons, List.take_zero, List.take_nil, List.nil_append, List.cons_append, decide_eq_true_eq, Bool.not_eq_true, Bool.not_eq_true', decide_eq_false_iff_not, ne_eq, Decidable.not_not, true_and, and_true, Nat.reduceAdd, Nat.reduceLeDiff, Nat.reduceEqDiff, Nat.le_refl, not_true_eq_false, not_false_eq_true, reduceIte, eq_self, Int.reduceNeg, Int.reduceEq, Int.reduceLT, Int.reduceLE, Nat.zero_le, Nat.one_ne_zero]
    repeat refine And.intro (by omega) ?_
    rw [hQ102]
    clear hQ102 Q102
    refine ⟨_, rfl, rfl, rfl, ?_⟩
    have := cntP_rowP (P := N b) (G := fun c => b < c ∧ N a c) (n := n) (q := fun k => Ne (St b + k)) (t := St (b + 1) - St b) (fun i hi => ⟨(hNr.2.2.1 b _ hb (by omega) (by omega)).2, (hNr.2.2.1 b _ hb (by omega) (by omega)).1⟩) (fun i j hi hj e => by
      have e2 : Ne (St b + i) = Ne (St b + j) := e
      rcases Nat.lt_trichotomy i j with w | w | w
      · exact absurd e2 (hNr.2.2.2.1 b _ _ hb (by omega) (by omega) (by omega))
      · exact w
      · exact absurd e2.symm (hNr.2.2.2.1 b _ _ hb (by omega) (by omega) (by omega))) (fun u hu hp => by
      obtain ⟨i, i1, i2, i3⟩ := hNr.2.2.2.2 b u hb hu hp
      exact ⟨i - St b, by omega, by rw [show St b + (i - St b) = i by omega]; exact i3⟩)
    rw [hG, this]
theorem sidesThrees_ok {N : Nat → Nat → Prop} {St Ne : Nat → Nat} (hn3 : n ≤ 300) (h1n : σ 1 3 = (n : Int)) (hS : Sr σ 45 46 n St Ne) (hNr : nrP n N n St Ne) :
    wpF F_Sides_countThrees [.inr (.inl 9)] σ (fun r s => (∀ o j, o ≠ 48 → s o j = σ o j) ∧ r = some (.inr (.inr (tri n N : Int)))) := by
  obtain ⟨hSt, hNe, h18⟩ := id hS
  obtain ⟨F, hF⟩ : ∃ F : Nat → Nat → Nat, F = fun a b => iteP (a < b ∧ N a b) (cntP (fun c => b < c ∧ N a c ∧ N b c) n) := ⟨_, rfl⟩
  have hbd := @tri_bound n N hn3
  unfold F_Sides_countThrees
  rw [wpF_kF]
  refine ⟨rfl, rfl, ?_⟩
  unfold s_Sides_countThrees
  simp only [List.map_cons, List.map_nil]
  refine wpS_seq' (fun Q103 hQ103 => ?_)
  simp only [wpS_skip, wpS_break, wpS_cont, wpS_retV, wpS_throw, wpS_seq, wpS_if, wpS_trunc, yS_let, yS_inc, kgK_i, kgK_r, kok_nil, kok_i0, kok_is, kok_r0, kok_rs, kok_n0, kok_ns, xS_put, xS_putOp, xS_ast0, xS_ast1, xS_astOp, wpS_E, wpS_call, wpS_callS, wpS_ret, kThen_N, kThen_B, kThen_C, kThen_R, kThen_T, kNext_N, kNext_C, kNext_B, kNext_R, wpE_K, wpE_KL, xE_I, xE_R, wpE_J, xE_bin, wpE_ladd, wpE_i2l, xE_get, xE_ald0, xE_ald1, wpE_if, xE_max, xE_min, wpE_len, wpA_nil, wpA_snoc, xE_call, xE_callS, xC_C, xC_L, xC_Z, wpC_and, wpC_or, wpC_not, wpC_if, kcmp_0, kcmp_1, kcmp_2, kcmp_3, kcmp_4, kcmp_5, rR_inj, kgO_some, kgO_add, kgO_sub, kgO_mul, kgO_div, kgO_rem, kgO_and, kvI_inl, kvJ_inl, kgI_0, kgI_s, kgR_0, kgR_s, kst_nil, kst_0, kst_s, kNLl_nil, kNLl_i, kNLl_r, kNLl_n, ktag_i, ktag_r, List.length_cons, List.length_nil, List.take_succ_cons, List.take_zero, List.take_nil, List.nil_append, List.cons_append, decide_eq_true_eq, Bool.not_eq_true, Bool.not_eq_true', decide_eq_false_iff_not, ne_eq, Decidable.not_not, true_and, and_true, Nat.reduceAdd, Nat.reduceLeDiff, Nat.reduceEqDiff, Nat.le_refl, not_true_eq_false, not_false_eq_true, reduceIte, eq_self, Int.reduceNeg, Int.reduceEq, Int.reduceLT, Int.reduceLE, Nat.zero_le, Nat.one_ne_zero, ev_sides, ev_sides_arr]
  refine (fill_ok (n := 300) (by omega) rfl rfl).mono ?_
  rintro r s0 ⟨rfl, hs0⟩
  refine ⟨rfl, ?_⟩
  rw [hQ103]
  clear hQ103
  refine kThen_N.mpr ?_
  have f1 : ∀ o k, o ≠ 48 → s0 o k = σ o k := by intro o k ho; rw [hs0]; unfold kfill; rw [if_neg (fun q => ho q.1)]
  have f2 : ∀ v, v < 300 → s0 48 v = -1 := by intro v hv; rw [hs0]; unfold kfill; rw [if_pos ⟨rfl, hv⟩]
  clear hs0
  refine wpS_seq' (fun Q1 hQ1 => ?_)
  have go : Q1 rN [some (.inr (.inl 9)), some (.inr (.inr 0)), none] s0 := by
    rw [hQ1]
    refine kThen_N.mpr ?_
    refine wpS_seq' (fun Q2 hQ2 => ?_)
    unfold l_Sides_countThrees_3
    refine wpS_fortL (fun a P s => (∀ o j, o ≠ 48 → s o j = σ o j) ∧ a ≤ n ∧ P = [some (.inr (.inl 9)), some (.inr (.inr (sumR (fun a => sumR (F a) n) a : Int))), none] ∧ ∀ u, u < n → s 48 u < (a : Int)) 0 n rfl (fun z => rfl) ?_ (by omega) ⟨f1, Nat.zero_le _, rfl, fun u hu => by rw [f2 u (by omega)]; decide⟩ ?_ ?_
    · simp only [wpS_skip, wpS_break, wpS_cont, wpS_retV, wpS_throw, wpS_seq, wpS_if, wpS_trunc, yS_let, yS_inc, kgK_i, kgK_r, kok_nil, kok_i0, kok_is, kok_r0, kok_rs, kok_n0, kok_ns, xS_put, xS_putOp, xS_ast0, xS_ast1, xS_astOp, wpS_E, wpS_call, wpS_callS, wpS_ret, kThen_N, kThen_B, kThen_C, kThen_R, kThen_T, kNext_N, kNext_C, kNext_B, kNext_R, wpE_K, wpE_KL, xE_I, xE_R, wpE_J, xE_bin, wpE_ladd, wpE_i2l, xE_get, xE_ald0, xE_ald1, wpE_if, xE_max, xE_min, wpE_len, wpA_nil, wpA_snoc, xE_call, xE_callS, xC_C, xC_L, xC_Z, wpC_and, wpC_or, wpC_not, wpC_if, kcmp_0, kcmp_1, kcmp_2, kcmp_3, kcmp_4, kcmp_5, rR_inj, kgO_some, kgO_add, kgO_sub, kgO_mul, kgO_div, kgO_rem, kgO_and, kvI_inl, kvJ_inl, kgI_0, kgI_s, kgR_0, kgR_s, kst_nil, kst_0, kst_s, kNLl_nil, kNLl_i, kNLl_r, kNLl_n, ktag_i, ktag_r, List.length_cons, List.length_nil, List.take_succ_cons, List.take_zero, List.take_nil, List.nil_append, List.cons_append, decide_eq_true_eq, Bool.not_eq_true, Bool.not_eq_true', decide_eq_false_iff_not, ne_eq, Decidable.not_not, true_and, and_true, Nat.reduceAdd, Nat.reduceLeDiff, Nat.reduceEqDiff, Nat.le_refl, not_true_eq_false, not_false_eq_true, reduceIte, eq_self, Int.reduceNeg, Int.reduceEq, Int.reduceLT, Int.reduceLE, Nat.zero_le, Nat.one_ne_zero]; trivial
    · rintro a P s ⟨-, -, rfl, -⟩; exact ⟨rfl, fun y z => rfl⟩
    · rintro a P s - ⟨S1, han, rfl, S2⟩
      have hba : sumR (fun a => sumR (F a) n) a ≤ 27000000 := by rw [hF]; exact (hbd a han).1
      obtain ⟨z, hz⟩ : ∃ z, z = sumR (fun a => sumR (F a) n) a := ⟨_, rfl⟩
      rw [← hz] at hba ⊢
      have e13 : s 1 3 = n := by rw [S1 _ _ (by decide)]; exact h1n
      refine wpC_gen (fun Q3 hQ3 => ?_)
      by_cases ha : a < n
      · have c1 : (a : Int) < (n : Int) := by omega
        simp only [wpS_skip, wpS_break, wpS_cont, wpS_retV, wpS_throw, wpS_seq, wpS_if, wpS_trunc, yS_let, yS_inc, kgK_i, kgK_r, kok_nil, kok_i0, kok_is, kok_r0, kok_rs, kok_n0, kok_ns, xS_put, xS_putOp, xS_ast0, xS_ast1, xS_astOp, wpS_E, wpS_call, wpS_callS, wpS_ret, kThen_N, kThen_B, kThen_C, kThen_R, kThen_T, kNext_N, kNext_C, kNext_B, kNext_R, wpE_K, wpE_KL, xE_I, xE_R, wpE_J, xE_bin, wpE_ladd, wpE_i2l, xE_get, xE_ald0, xE_ald1, wpE_if, xE_max, xE_min, wpE_len, wpA_nil, wpA_snoc, xE_call, xE_callS, xC_C, xC_L, xC_Z, wpC_and, wpC_or, wpC_not, wpC_if, kcmp_0, kcmp_1, kcmp_2, kcmp_3, kcmp_4, kcmp_5, rR_inj, kgO_some, kgO_add, kgO_sub, kgO_mul, kgO_div, kgO_rem, kgO_and, kvI_inl, kvJ_inl, kgI_0, kgI_s, kgR_0, kgR_s, kst_nil, kst_0, kst_s, kNLl_nil, kNLl_i, kNLl_r, kNLl_n, ktag_i, ktag_r, List.length_cons, List.length_nil, List.take_succ_cons, List.take_zero, List.take_nil, List.nil_append, List.cons_append, decide_eq_true_eq, Bool.not_eq_true, Bool.not_eq_true', decide_eq_false_iff_not, ne_eq, Decidable.not_not, true_and, and_true, Nat.reduceAdd, Nat.reduceLeDiff, Nat.reduceEqDiff, Nat.le_refl, not_true_eq_false, not_false_eq_true, reduceIte, eq_self, Int.reduceNeg, Int.reduceEq, Int.reduceLT, Int.reduceLE, Nat.zero_le, Nat.one_ne_zero, ev_sides, ev_web, e13, c1, decide_true, decide_false, Bool.false_eq_true, if_true, if_false, true_and, and_true, not_true_eq_false, not_false_eq_true]
        rw [hQ3]
        refine ⟨rfl, Or.inl ⟨rfl, ha, ?_⟩⟩
        have t1 : ((a : Int) + 1).toNat = a + 1 := by omega
        have hd := hNr.deg ha
        have hle := hNr.mono (show a + 1 ≤ n from ha) (Nat.le_refl n)
        have esa : ∀ s' : kS, (∀ o j, o ≠ 48 → s' o j = σ o j) → s' 45 a = St a ∧ s' 45 (a + 1) = St (a + 1) := fun s' h => ⟨by rw [h _ _ (by decide)]; exact hSt a (by omega), by rw [h _ _ (by decide)]; exact hSt (a + 1) (by omega)⟩
        refine wpS_seq' (fun Q4 hQ4 => ?_)
        unfold l_Sides_countThrees_1
        refine wpS_fortL (fun i P s' => P = [some (.inr (.inl 9)), some (.inr (.inr (z : Int))), none, some (.inl (a : Int))] ∧ i ≤ St (a + 1) ∧ (∀ o j, o ≠ 48 → s' o j = σ o j) ∧ (∀ u, u < n → ((∃ j, St a ≤ j ∧ j < i ∧ Ne j = u) → s' 48 u = (a : Int)) ∧ ((¬ ∃ j, St a ≤ j ∧ j < i ∧ Ne j = u) → s' 48 u < (a : Int)))) (St a) (St (a + 1)) rfl (fun z => rfl) ?_ (by omega) ⟨rfl, by omega, S1, fun u hu => ⟨fun ⟨j, h1, h2, _⟩ => by omega, fun _ => S2 u hu⟩⟩ ?_ ?_
        · simp only [wpS_skip, wpS_break, wpS_cont, wpS_retV, wpS_throw, wpS_seq, wpS_if, wpS_trunc, yS_let, yS_inc, kgK_i, kgK_r, kok_nil, kok_i0, kok_is, kok_r0, kok_rs, kok_n0, kok_ns, xS_put, xS_putOp, xS_ast0, xS_ast1, xS_astOp, wpS_E, wpS_call, wpS_callS, wpS_ret, kThen_N, kThen_B, kThen_C, kThen_R, kThen_T, kNext_N, kNext_C, kNext_B, kNext_R, wpE_K, wpE_KL, xE_I, xE_R, wpE_J, xE_bin, wpE_ladd, wpE_i2l, xE_get, xE_ald0, xE_ald1, wpE_if, xE_max, xE_min, wpE_len, wpA_nil, wpA_snoc, xE_call, xE_callS, xC_C, xC_L, xC_Z, wpC_and, wpC_or, wpC_not, wpC_if, kcmp_0, kcmp_1, kcmp_2, kcmp_3, kcmp_4, kcmp_5, rR_inj, kgO_some, kgO_add, kgO_sub, kgO_mul, kgO_div, kgO_rem, kgO_and, kvI_inl, kvJ_inl, kgI_0, kgI_s, kgR_0, kgR_s, kst_nil, kst_0, kst_s, kNLl_nil, kNLl_i, kNLl_r, kNLl_n, ktag_i, ktag_r, List.length_cons, List.length_nil, List.take_succ_cons, List.take_zero, List.take_nil, List.nil_append, List.cons_append, decide_eq_true_eq, Bool.not_eq_true, Bool.not_eq_true', decide_eq_false_iff_not, ne_eq, Decidable.not_not, true_and, and_true, Nat.reduceAdd, Nat.reduceLeDiff, Nat.reduceEqDiff, Nat.le_refl, not_true_eq_false, not_false_eq_true, reduceIte, eq_self, Int.reduceNeg, Int.reduceEq, Int.reduceLT, Int.reduceLE, Nat.zero_le, Nat.one_ne_zero, ev_sides, ev_sides_arr, Int.toNat_natCast, (esa s S1).1]
          omega
        · rintro i P s' ⟨rfl, -⟩; exact ⟨rfl, fun y z => rfl⟩
        · rintro i P s' hi0 ⟨rfl, hi1, T1, T2⟩
          refine wpC_gen (fun Q5 hQ5 => ?_)
          by_cases hi : i < St (a + 1)
          · have c2 : (i : Int) < (St (a + 1) : Int) := by omega
            simp only [wpS_skip, wpS_break, wpS_cont, wpS_retV, wpS_throw, wpS_seq, wpS_if, wpS_trunc, yS_let, yS_inc, kgK_i, kgK_r, kok_nil, kok_i0, kok_is, kok_r0, kok_rs, kok_n0, kok_ns, xS_put, xS_putOp, xS_ast0, xS_ast1, xS_astOp, wpS_E, wpS_call, wpS_callS, wpS_ret, kThen_N, kThen_B, kThen_C, kThen_R, kThen_T, kNext_N, kNext_C, kNext_B, kNext_R, wpE_K, wpE_KL, xE_I, xE_R, wpE_J, xE_bin, wpE_ladd, wpE_i2l, xE_get, xE_ald0, xE_ald1, wpE_if, xE_max, xE_min, wpE_len, wpA_nil, wpA_snoc, xE_call, xE_callS, xC_C, xC_L, xC_Z, wpC_and, wpC_or, wpC_not, wpC_if, kcmp_0, kcmp_1, kcmp_2, kcmp_3, kcmp_4, kcmp_5, rR_inj, kgO_some, kgO_add, kgO_sub, kgO_mul, kgO_div, kgO_rem, kgO_and, kvI_inl, kvJ_inl, kgI_0, kgI_s, kgR_0, kgR_s, kst_nil, kst_0, kst_s, kNLl_nil, kNLl_i, kNLl_r, kNLl_n, ktag_i, ktag_r, List.length_cons, List.length_nil, List.take_succ_cons, List.take_zero, List.take_nil, List.nil_append, List.cons_append, decide_eq_true_eq, Bool.not_eq_true, Bool.not_eq_true', decide_eq_false_iff_not, ne_eq, Decidable.not_not, true_and, and_true, Nat.reduceAdd, Nat.reduceLeDiff, Nat.reduceEqDiff, Nat.le_refl, not_true_eq_false, not_false_eq_true, reduceIte, eq_self, Int.reduceNeg, Int.reduceEq, Int.reduceLT, Int.reduceLE, Nat.zero_le, Nat.one_ne_zero, ev_sides, ev_sides_arr, Int.toNat_natCast, t1, (esa s' T1).2, c2, decide_true, decide_false, Bool.false_eq_true, if_true, if_false, true_and, and_true, not_true_eq_false, not_false_eq_true]
            repeat refine And.intro (by omega) ?_
            rw [hQ5]
            refine ⟨rfl, Or.inl ⟨rfl, hi, ?_⟩⟩
            have hun := (hNr.2.2.1 a i ha hi0 hi).2
            have e46 : s' 46 i = Ne i := by rw [T1 _ _ (by decide)]; exact hNe i (by omega)
            refine wpS_gen (fun Q104 hQ104 => ?_)
            simp only [wpS_skip, wpS_break, wpS_cont, wpS_retV, wpS_throw, wpS_seq, wpS_if, wpS_trunc, yS_let, yS_inc, kgK_i, kgK_r, kok_nil, kok_i0, kok_is, kok_r0, kok_rs, kok_n0, kok_ns, xS_put, xS_putOp, xS_ast0, xS_ast1, xS_astOp, wpS_E, wpS_call, wpS_callS, wpS_ret, kThen_N, kThen_B, kThen_C, kThen_R, kThen_T, kNext_N, kNext_C, kNext_B, kNext_R, wpE_K, wpE_KL, xE_I, xE_R, wpE_J, xE_bin, wpE_ladd, wpE_i2l, xE_get, xE_ald0, xE_ald1, wpE_if, xE_max, xE_min, wpE_len, wpA_nil, wpA_snoc, xE_call, xE_callS, xC_C, xC_L, xC_Z, wpC_and, wpC_or, wpC_not, wpC_if, kcmp_0, kcmp_1, kcmp_2, kcmp_3, kcmp_4, kcmp_5, rR_inj, kgO_some, kgO_add, kgO_sub, kgO_mul, kgO_div, kgO_rem, kgO_and, kvI_inl, kvJ_inl, kgI_0, kgI_s, kgR_0, kgR_s, kst_nil, kst_0, kst_s, kNLl_nil, kNLl_i, kNLl_r, kNLl_n, ktag_i, ktag_r, List.length_cons, List.length_nil, List.take_succ_cons, List.take_zero, List.take_nil, List.nil_append, List.cons_append, decide_eq_true_eq, Bool.not_eq_true, Bool.not_eq_true', decide_eq_false_iff_not, ne_eq, Decidable.not_not, true_and, and_true, Nat.reduceAdd, Nat.reduceLeDiff, Nat.reduceEqDiff, Nat.le_refl, not_true_eq_false, not_false_eq_true, reduceIte, eq_self, Int.reduceNeg, Int.reduceEq, Int.reduceLT, Int.reduceLE, Nat.zero_le, Nat.one_ne_zero, ev_sides, ev_sides_arr, Int.toNat_natCast, e46]
            repeat refine And.intro (by omega) ?_
            rw [hQ104]
            clear hQ104 Q104
            refine kStep_N rfl ⟨rfl, by omega, fun o j ho => by rw [kup_ne ho]; exact T1 o j ho, fun u hu => ?_⟩
            rw [kup_eq]
            by_cases e : u = Ne i
            · rw [if_pos e]
              exact ⟨fun _ => rfl, fun hn => absurd ⟨i, hi0, by omega, e.symm⟩ hn⟩
            · rw [if_neg e]
              refine ⟨fun ⟨j, j1, j2, j3⟩ => (T2 u hu).1 ⟨j, j1, ?_, j3⟩, fun hn => (T2 u hu).2 (fun ⟨j, j1, j2, j3⟩ => hn ⟨j, j1, by omega, j3⟩)⟩
              rcases Nat.lt_trichotomy j i with w | w | w
              · exact w
              · exact absurd (by rw [← j3, w]) e
              · omega
          · have ei : i = St (a + 1) := by omega
            have c2 : ¬ (i : Int) < (St (a + 1) : Int) := by omega
            simp only [wpS_skip, wpS_break, wpS_cont, wpS_retV, wpS_throw, wpS_seq, wpS_if, wpS_trunc, yS_let, yS_inc, kgK_i, kgK_r, kok_nil, kok_i0, kok_is, kok_r0, kok_rs, kok_n0, kok_ns, xS_put, xS_putOp, xS_ast0, xS_ast1, xS_astOp, wpS_E, wpS_call, wpS_callS, wpS_ret, kThen_N, kThen_B, kThen_C, kThen_R, kThen_T, kNext_N, kNext_C, kNext_B, kNext_R, wpE_K, wpE_KL, xE_I, xE_R, wpE_J, xE_bin, wpE_ladd, wpE_i2l, xE_get, xE_ald0, xE_ald1, wpE_if, xE_max, xE_min, wpE_len, wpA_nil, wpA_snoc, xE_call, xE_callS, xC_C, xC_L, xC_Z, wpC_and, wpC_or, wpC_not, wpC_if, kcmp_0, kcmp_1, kcmp_2, kcmp_3, kcmp_4, kcmp_5, rR_inj, kgO_some, kgO_add, kgO_sub, kgO_mul, kgO_div, kgO_rem, kgO_and, kvI_inl, kvJ_inl, kgI_0, kgI_s, kgR_0, kgR_s, kst_nil, kst_0, kst_s, kNLl_nil, kNLl_i, kNLl_r, kNLl_n, ktag_i, ktag_r, List.length_cons, List.length_nil, List.take_succ_cons, List.take_zero, List.take_nil, List.nil_append, List.cons_append, decide_eq_true_eq, Bool.not_eq_true, Bool.not_eq_true', decide_eq_false_iff_not, ne_eq, Decidable.not_not, true_and, and_true, Nat.reduceAdd, Nat.reduceLeDiff, Nat.reduceEqDiff, Nat.le_refl, not_true_eq_false, not_false_eq_true, reduceIte, eq_self, Int.reduceNeg, Int.reduceEq, Int.reduceLT, Int.reduceLE, Nat.zero_le, Nat.one_ne_zero, ev_sides, ev_sides_arr, Int.toNat_natCast, t1, (esa s' T1).2, c2, decide_true, decide_false, Bool.false_eq_true, if_true, if_false, true_and, and_true, not_true_eq_false, not_false_eq_true]
            repeat refine And.intro (by omega) ?_
            rw [hQ5]
            refine ⟨rfl, Or.inr ⟨rfl, ?_⟩⟩
            rw [hQ4]
            refine kThen_N.mpr ?_
            have hm : ∀ u, u < n → (s' 48 u = (a : Int) ↔ N a u) ∧ s' 48 u < (a : Int) + 1 := by
              intro u hu
              obtain ⟨q1, q2⟩ := T2 u hu
              rw [ei] at q1 q2
              by_cases q : ∃ j, St a ≤ j ∧ j < St (a + 1) ∧ Ne j = u
              · have := q1 q
                obtain ⟨j, j1, j2, j3⟩ := q
                exact ⟨⟨fun _ => by rw [← j3]; exact (hNr.2.2.1 a j ha j1 j2).1, fun _ => this⟩, by omega⟩
              · have := q2 q
                exact ⟨⟨fun w => by omega, fun w => absurd (hNr.2.2.2.2 a u ha hu w) q⟩, by omega⟩
            have hSs : Sr s' 45 46 n St Ne := ⟨fun v hv => by rw [T1 _ _ (by decide)]; exact hSt v hv, fun i hi => by rw [T1 _ _ (by decide)]; exact hNe i hi, h18⟩
            refine wpS_gen (fun Q6 hQ6 => ?_)
            unfold l_Sides_countThrees_2
            obtain ⟨H, hH⟩ : ∃ H : Nat → Nat, H = fun k => iteP (a < Ne (St a + k)) (cntP (fun c => N (Ne (St a + k)) c ∧ Ne (St a + k) < c ∧ N a c) n) := ⟨_, rfl⟩
            have hHb : ∀ k, H k ≤ 300 := by
              intro k
              have := @cntP_bound (fun c => N (Ne (St a + k)) c ∧ Ne (St a + k) < c ∧ N a c) n
              rw [hH]
              by_cases q : a < Ne (St a + k)
              · dsimp only; rw [iteP_pos q]; omega
              · dsimp only; rw [iteP_neg q]; omega
            refine wpS_fortL (fun i P s2 => P = [some (.inr (.inl 9)), some (.inr (.inr ((z + sumR H (i - St a) : Nat) : Int))), none, some (.inl (a : Int))] ∧ i ≤ St (a + 1) ∧ s2 = s') (St a) (St (a + 1)) rfl (fun z => rfl) ?_ (by omega) ⟨by rw [Nat.sub_self]; rfl, by omega, rfl⟩ ?_ ?_
            · simp only [wpS_skip, wpS_break, wpS_cont, wpS_retV, wpS_throw, wpS_seq, wpS_if, wpS_trunc, yS_let, yS_inc, kgK_i, kgK_r, kok_nil, kok_i0, kok_is, kok_r0, kok_rs, kok_n0, kok_ns, xS_put, xS_putOp, xS_ast0, xS_ast1, xS_astOp, wpS_E, wpS_call, wpS_callS, wpS_ret, kThen_N, kThen_B, kThen_C, kThen_R, kThen_T, kNext_N, kNext_C, kNext_B, kNext_R, wpE_K, wpE_KL, xE_I, xE_R, wpE_J, xE_bin, wpE_ladd, wpE_i2l, xE_get, xE_ald0, xE_ald1, wpE_if, xE_max, xE_min, wpE_len, wpA_nil, wpA_snoc, xE_call, xE_callS, xC_C, xC_L, xC_Z, wpC_and, wpC_or, wpC_not, wpC_if, kcmp_0, kcmp_1, kcmp_2, kcmp_3, kcmp_4, kcmp_5, rR_inj, kgO_some, kgO_add, kgO_sub, kgO_mul, kgO_div, kgO_rem, kgO_and, kvI_inl, kvJ_inl, kgI_0, kgI_s, kgR_0, kgR_s, kst_nil, kst_0, kst_s, kNLl_nil, kNLl_i, kNLl_r, kNLl_n, ktag_i, ktag_r, List.length_cons, List.length_nil, List.take_succ_cons, List.take_zero, List.take_nil, List.nil_append, List.cons_append, decide_eq_true_eq, Bool.not_eq_true, Bool.not_eq_true', decide_eq_false_iff_not, ne_eq, Decidable.not_not, true_and, and_true, Nat.reduceAdd, Nat.reduceLeDiff, Nat.reduceEqDiff, Nat.le_refl, not_true_eq_false, not_false_eq_true, reduceIte, eq_self, Int.reduceNeg, Int.reduceEq, Int.reduceLT, Int.reduceLE, Nat.zero_le, Nat.one_ne_zero, ev_sides, ev_sides_arr, Int.toNat_natCast, (esa s' T1).1]
              omega
            · rintro i P s2 ⟨rfl, -⟩; exact ⟨rfl, fun y z => rfl⟩
            · rintro i P s2 hi0 ⟨rfl, hi1, hs2⟩
              subst s2
              have hsb := sumR_le (n := i - St a) (b := 300) (fun k _ => hHb k)
              have hsb2 : (i - St a) * 300 ≤ 1800 * 300 := Nat.mul_le_mul_right _ (by omega)
              refine wpC_gen (fun Q7 hQ7 => ?_)
              by_cases hi : i < St (a + 1)
              · have c3 : (i : Int) < (St (a + 1) : Int) := by omega
                simp only [wpS_skip, wpS_break, wpS_cont, wpS_retV, wpS_throw, wpS_seq, wpS_if, wpS_trunc, yS_let, yS_inc, kgK_i, kgK_r, kok_nil, kok_i0, kok_is, kok_r0, kok_rs, kok_n0, kok_ns, xS_put, xS_putOp, xS_ast0, xS_ast1, xS_astOp, wpS_E, wpS_call, wpS_callS, wpS_ret, kThen_N, kThen_B, kThen_C, kThen_R, kThen_T, kNext_N, kNext_C, kNext_B, kNext_R, wpE_K, wpE_KL, xE_I, xE_R, wpE_J, xE_bin, wpE_ladd, wpE_i2l, xE_get, xE_ald0, xE_ald1, wpE_if, xE_max, xE_min, wpE_len, wpA_nil, wpA_snoc, xE_call, xE_callS, xC_C, xC_L, xC_Z, wpC_and, wpC_or, wpC_not, wpC_if, kcmp_0, kcmp_1, kcmp_2, kcmp_3, kcmp_4, kcmp_5, rR_inj, kgO_some, kgO_add, kgO_sub, kgO_mul, kgO_div, kgO_rem, kgO_and, kvI_inl, kvJ_inl, kgI_0, kgI_s, kgR_0, kgR_s, kst_nil, kst_0, kst_s, kNLl_nil, kNLl_i, kNLl_r, kNLl_n, ktag_i, ktag_r, List.length_cons, List.length_nil, List.take_succ_cons, List.take_zero, List.take_nil, List.nil_append, List.cons_append, decide_eq_true_eq, Bool.not_eq_true, Bool.not_eq_true', decide_eq_false_iff_not, ne_eq, Decidable.not_not, true_and, and_true, Nat.reduceAdd, Nat.reduceLeDiff, Nat.reduceEqDiff, Nat.le_refl, not_true_eq_false, not_false_eq_true, reduceIte, eq_self, Int.reduceNeg, Int.reduceEq, Int.reduceLT, Int.reduceLE, Nat.zero_le, Nat.one_ne_zero, ev_sides, ev_sides_arr, Int.toNat_natCast, t1, (esa s' T1).2, c3, decide_true, decide_false, Bool.false_eq_true, if_true, if_false, true_and, and_true, not_true_eq_false, not_false_eq_true]
                repeat refine And.intro (by omega) ?_
                rw [hQ7]
                refine ⟨rfl, Or.inl ⟨rfl, hi, ?_⟩⟩
                obtain ⟨b, hb⟩ : ∃ b, b = Ne i := ⟨_, rfl⟩
                have hbn : b < n := by rw [hb]; exact (hNr.2.2.1 a i ha hi0 hi).2
                have e46 : s' 46 i = b := by rw [T1 _ _ (by decide), hNe i (by omega), hb]
                have es : i + 1 - St a = (i - St a) + 1 := by omega
                have hHi : H (i - St a) = iteP (a < b) (cntP (fun c => N b c ∧ b < c ∧ N a c) n) := by rw [hH, hb]; dsimp only; rw [show St a + (i - St a) = i by omega]
                have hss : sumR H (i + 1 - St a) = sumR H (i - St a) + H (i - St a) := by rw [es]; rfl
                have hh := hHb (i - St a)
                refine wpS_gen (fun Q8 hQ8 => ?_)
                rw [wpS_if]
                refine wpC_gen (fun Q9 hQ9 => ?_)
                by_cases c4 : (a : Int) < (b : Int)
                · simp only [wpS_skip, wpS_break, wpS_cont, wpS_retV, wpS_throw, wpS_seq, wpS_if, wpS_trunc, yS_let, yS_inc, kgK_i, kgK_r, kok_nil, kok_i0, kok_is, kok_r0, kok_rs, kok_n0, kok_ns, xS_put, xS_putOp, xS_ast0, xS_ast1, xS_astOp, wpS_E, wpS_call, wpS_callS, wpS_ret, kThen_N, kThen_B, kThen_C, kThen_R, kThen_T, kNext_N, kNext_C, kNext_B, kNext_R, wpE_K, wpE_KL, xE_I, xE_R, wpE_J, xE_bin, wpE_ladd, wpE_i2l, xE_get, xE_ald0, xE_ald1, wpE_if, xE_max, xE_min, wpE_len, wpA_nil, wpA_snoc, xE_call, xE_callS, xC_C, xC_L, xC_Z, wpC_and, wpC_or, wpC_not, wpC_if, kcmp_0, kcmp_1, kcmp_2, kcmp_3, kcmp_4, kcmp_5, rR_inj, kgO_some, kgO_add, kgO_sub, kgO_mul, kgO_div, kgO_rem, kgO_and, kvI_inl, kvJ_inl, kgI_0, kgI_s, kgR_0, kgR_s, kst_nil, kst_0, kst_s, kNLl_nil, kNLl_i, kNLl_r, kNLl_n, ktag_i, ktag_r, List.length_cons, List.length_nil, List.take_succ_cons, List.take_zero, List.take_nil, List.nil_append, List.cons_append, decide_eq_true_eq, Bool.not_eq_true, Bool.not_eq_true', decide_eq_false_iff_not, ne_eq, Decidable.not_not, true_and, and_true, Nat.reduceAdd, Nat.reduceLeDiff, Nat.reduceEqDiff, Nat.le_refl, not_true_eq_false, not_false_eq_true, reduceIte, eq_self, Int.reduceNeg, Int.reduceEq, Int.reduceLT, Int.reduceLE, Nat.zero_le, Nat.one_ne_zero, ev_sides, ev_sides_arr, Int.toNat_natCast, e46, c4, decide_true, decide_false, Bool.false_eq_true, if_true, if_false, true_and, and_true, not_true_eq_false, not_false_eq_true]
                  repeat refine And.intro (by omega) ?_
                  rw [hQ9]
                  refine (if_pos rfl).mpr ?_
                  rw [iteP_pos (by omega)] at hHi
                  refine wpS_ladd (z := ((z + sumR H (i - St a) : Nat) : Int)) (y := (H (i - St a) : Int)) rfl (by omega) rfl ?_ ?_
                  · simp only [wpE_i2l]
                    simp only [wpS_skip, wpS_break, wpS_cont, wpS_retV, wpS_throw, wpS_seq, wpS_if, wpS_trunc, yS_let, yS_inc, kgK_i, kgK_r, kok_nil, kok_i0, kok_is, kok_r0, kok_rs, kok_n0, kok_ns, xS_put, xS_putOp, xS_ast0, xS_ast1, xS_astOp, wpS_E, wpS_call, wpS_callS, wpS_ret, kThen_N, kThen_B, kThen_C, kThen_R, kThen_T, kNext_N, kNext_C, kNext_B, kNext_R, wpE_K, wpE_KL, xE_I, xE_R, wpE_J, xE_bin, wpE_ladd, wpE_i2l, xE_get, xE_ald0, xE_ald1, wpE_if, xE_max, xE_min, wpE_len, wpA_nil, wpA_snoc, xE_call, xE_callS, xC_C, xC_L, xC_Z, wpC_and, wpC_or, wpC_not, wpC_if, kcmp_0, kcmp_1, kcmp_2, kcmp_3, kcmp_4, kcmp_5, rR_inj, kgO_some, kgO_add, kgO_sub, kgO_mul, kgO_div, kgO_rem, kgO_and, kvI_inl, kvJ_inl, kgI_0, kgI_s, kgR_0, kgR_s, kst_nil, kst_0, kst_s, kNLl_nil, kNLl_i, kNLl_r, kNLl_n, ktag_i, ktag_r, List.length_cons, List.length_nil, List.take_succ_cons, List.take_zero, List.take_nil, List.nil_append, List.cons_append, decide_eq_true_eq, Bool.not_eq_true, Bool.not_eq_true', decide_eq_false_iff_not, ne_eq, Decidable.not_not, true_and, and_true, Nat.reduceAdd, Nat.reduceLeDiff, Nat.reduceEqDiff, Nat.le_refl, not_true_eq_false, not_false_eq_true, reduceIte, eq_self, Int.reduceNeg, Int.reduceEq, Int.reduceLT, Int.reduceLE, Nat.zero_le, Nat.one_ne_zero, ev_sides, ev_sides_arr, Int.toNat_natCast, e46]
                    repeat refine And.intro (by omega) ?_
                    refine (sidesMarked_ok (a := a) hn3 hSs hNr hbn (fun c hc => (hm c hc).1)).mono ?_
                    rintro r s2 ⟨hs2, rfl⟩
                    subst s2
                    rw [kgO_some, hHi]
                    exact ⟨_, rfl, rfl, rfl⟩
                  · rw [hQ8]
                    refine kStep_N (P := [some (.inr (.inl 9)), some (.inr (.inr (((z + sumR H (i - St a) : Nat) : Int) + (H (i - St a) : Int)))), none, some (.inl (a : Int))]) rfl ⟨?_, by omega, rfl⟩
                    have : ((z + sumR H (i - St a) : Nat) : Int) + (H (i - St a) : Int) = ((z + sumR H (i + 1 - St a) : Nat) : Int) := by rw [hss]; omega
                    rw [this]
                · simp only [wpS_skip, wpS_break, wpS_cont, wpS_retV, wpS_throw, wpS_seq, wpS_if, wpS_trunc, yS_let, yS_inc, kgK_i, kgK_r, kok_nil, kok_i0, kok_is, kok_r0, kok_rs, kok_n0, kok_ns, xS_put, xS_putOp, xS_ast0, xS_ast1, xS_astOp, wpS_E, wpS_call, wpS_callS, wpS_ret, kThen_N, kThen_B, kThen_C, kThen_R, kThen_T, kNext_N, kNext_C, kNext_B, kNext_R, wpE_K, wpE_KL, xE_I, xE_R, wpE_J, xE_bin, wpE_ladd, wpE_i2l, xE_get, xE_ald0, xE_ald1, wpE_if, xE_max, xE_min, wpE_len, wpA_nil, wpA_snoc, xE_call, xE_callS, xC_C, xC_L, xC_Z, wpC_and, wpC_or, wpC_not, wpC_if, kcmp_0, kcmp_1, kcmp_2, kcmp_3, kcmp_4, kcmp_5, rR_inj, kgO_some, kgO_add, kgO_sub, kgO_mul, kgO_div, kgO_rem, kgO_and, kvI_inl, kvJ_inl, kgI_0, kgI_s, kgR_0, kgR_s, kst_nil, kst_0, kst_s, kNLl_nil, kNLl_i, kNLl_r, kNLl_n, ktag_i, ktag_r, List.length_cons, List.length_nil, List.take_succ_cons, List.take_zero, List.take_nil, List.nil_append, List.cons_append, decide_eq_true_eq, Bool.not_eq_true, Bool.not_eq_true', decide_eq_false_iff_not, ne_eq, Decidable.not_not, true_and, and_true, Nat.reduceAdd, Nat.reduceLeDiff, Nat.reduceEqDiff, Nat.le_refl, not_true_eq_false, not_false_eq_true, reduceIte, eq_self, Int.reduceNeg, Int.reduceEq, Int.reduceLT, Int.reduceLE, Nat.zero_le, Nat.one_ne_zero, ev_sides, ev_sides_arr, Int.toNat_natCast, e46, c4, decide_true, decide_false, Bool.false_eq_true, if_true, if_false, true_and, and_true, not_true_eq_false, not_false_eq_true]
                  repeat refine And.intro (by omega) ?_
                  rw [hQ9]
                  refine (if_neg (by decide)).mpr (wpS_skip.mpr ?_)
                  rw [iteP_neg (by omega)] at hHi
                  rw [hQ8]
                  refine kStep_N (P := [some (.inr (.inl 9)), some (.inr (.inr ((z + sumR H (i - St a) : Nat) : Int))), none, some (.inl (a : Int))]) rfl ⟨?_, by omega, rfl⟩
                  rw [hss, hHi]; rfl
              · have ei : i = St (a + 1) := by omega
                have c3 : ¬ (i : Int) < (St (a + 1) : Int) := by omega
                simp only [wpS_skip, wpS_break, wpS_cont, wpS_retV, wpS_throw, wpS_seq, wpS_if, wpS_trunc, yS_let, yS_inc, kgK_i, kgK_r, kok_nil, kok_i0, kok_is, kok_r0, kok_rs, kok_n0, kok_ns, xS_put, xS_putOp, xS_ast0, xS_ast1, xS_astOp, wpS_E, wpS_call, wpS_callS, wpS_ret, kThen_N, kThen_B, kThen_C, kThen_R, kThen_T, kNext_N, kNext_C, kNext_B, kNext_R, wpE_K, wpE_KL, xE_I, xE_R, wpE_J, xE_bin, wpE_ladd, wpE_i2l, xE_get, xE_ald0, xE_ald1, wpE_if, xE_max, xE_min, wpE_len, wpA_nil, wpA_snoc, xE_call, xE_callS, xC_C, xC_L, xC_Z, wpC_and, wpC_or, wpC_not, wpC_if, kcmp_0, kcmp_1, kcmp_2, kcmp_3, kcmp_4, kcmp_5, rR_inj, kgO_some, kgO_add, kgO_sub, kgO_mul, kgO_div, kgO_rem, kgO_and, kvI_inl, kvJ_inl, kgI_0, kgI_s, kgR_0, kgR_s, kst_nil, kst_0, kst_s, kNLl_nil, kNLl_i, kNLl_r, kNLl_n, ktag_i, ktag_r, List.length_cons, List.length_nil, List.take_succ_cons, List.take_zero, List.take_nil, List.nil_append, List.cons_append, decide_eq_true_eq, Bool.not_eq_true, Bool.not_eq_true', decide_eq_false_iff_not, ne_eq, Decidable.not_not, true_and, and_true, Nat.reduceAdd, Nat.reduceLeDiff, Nat.reduceEqDiff, Nat.le_refl, not_true_eq_false, not_false_eq_true, reduceIte, eq_self, Int.reduceNeg, Int.reduceEq, Int.reduceLT, Int.reduceLE, Nat.zero_le, Nat.one_ne_zero, ev_sides, ev_sides_arr, Int.toNat_natCast, t1, (esa s' T1).2, c3, decide_true, decide_false, Bool.false_eq_true, if_true, if_false, true_and, and_true, not_true_eq_false, not_false_eq_true]
                repeat refine And.intro (by omega) ?_
                rw [hQ7]
                refine ⟨rfl, Or.inr ⟨rfl, ?_⟩⟩
                rw [hQ6]
                refine kStep_N (P := [some (.inr (.inl 9)), some (.inr (.inr ((z + sumR H (i - St a) : Nat) : Int))), none]) rfl ⟨T1, ha, ?_, fun u hu => by have := (hm u hu).2; omega⟩
                have e1 : sumR H (i - St a) = sumR (F a) n := by rw [ei, hH, hF]; exact tri_F hNr ha
                have e2 : z + sumR H (i - St a) = sumR (fun a => sumR (F a) n) (a + 1) := by rw [e1, hz]; rfl
                rw [e2]
      · have e : a = n := by omega
        subst e
        have c1 : ¬ (a : Int) < (a : Int) := by omega
        simp only [wpS_skip, wpS_break, wpS_cont, wpS_retV, wpS_throw, wpS_seq, wpS_if, wpS_trunc, yS_let, yS_inc, kgK_i, kgK_r, kok_nil, kok_i0, kok_is, kok_r0, kok_rs, kok_n0, kok_ns, xS_put, xS_putOp, xS_ast0, xS_ast1, xS_astOp, wpS_E, wpS_call, wpS_callS, wpS_ret, kThen_N, kThen_B, kThen_C, kThen_R, kThen_T, kNext_N, kNext_C, kNext_B, kNext_R, wpE_K, wpE_KL, xE_I, xE_R, wpE_J, xE_bin, wpE_ladd, wpE_i2l, xE_get, xE_ald0, xE_ald1, wpE_if, xE_max, xE_min, wpE_len, wpA_nil, wpA_snoc, xE_call, xE_callS, xC_C, xC_L, xC_Z, wpC_and, wpC_or, wpC_not, wpC_if, kcmp_0, kcmp_1, kcmp_2, kcmp_3, kcmp_4, kcmp_5, rR_inj, kgO_some, kgO_add, kgO_sub, kgO_mul, kgO_div, kgO_rem, kgO_and, kvI_inl, kvJ_inl, kgI_0, kgI_s, kgR_0, kgR_s, kst_nil, kst_0, kst_s, kNLl_nil, kNLl_i, kNLl_r, kNLl_n, ktag_i, ktag_r, List.length_cons, List.length_nil, List.take_succ_cons, List.take_zero, List.take_nil, List.nil_append, List.cons_append, decide_eq_true_eq, Bool.not_eq_true, Bool.not_eq_true', decide_eq_false_iff_not, ne_eq, Decidable.not_not, true_and, and_true, Nat.reduceAdd, Nat.reduceLeDiff, Nat.reduceEqDiff, Nat.le_refl, not_true_eq_false, not_false_eq_true, reduceIte, eq_self, Int.reduceNeg, Int.reduceEq, Int.reduceLT, Int.reduceLE, Nat.zero_le, Nat.one_ne_zero, ev_sides, ev_web, e13, c1, decide_true, decide_false, Bool.false_eq_true, if_true, if_false, true_and, and_true, not_true_eq_false, not_false_eq_true]
        rw [hQ3]
        refine ⟨rfl, Or.inr ⟨rfl, ?_⟩⟩
        rw [hQ2]
        refine kThen_N.mpr ?_
        rw [wpS_ret, wpE_J]
        refine ⟨_, rfl, rfl, _, rfl, rfl, S1, ?_⟩
        rw [hz, hF]; rfl
  rw [wpS_let, wpE_KL]
  exact ⟨rfl, _, rfl, go⟩
theorem anewMarked_ok {N : Nat → Nat → Prop} {St Ne : Nat → Nat} {a b : Nat} (hn3 : n ≤ 300) (hS : Sr σ 64 65 n St Ne) (hNr : nrP n N n St Ne) (hb : b < n) (hm : ∀ c, c < n → (σ 67 c = (a : Int) ↔ N a c)) :
    wpF F_Sides_markedBehind [.inr (.inl 13), .inl (b : Int), .inl (a : Int)] σ (fun r s => s = σ ∧ r = some (.inl (cntP (fun c => N b c ∧ b < c ∧ N a c) n : Int))) := by
  obtain ⟨hSt, hNe, h18⟩ := hS
  have e1 := hSt b (by omega)
  have e2 := hSt (b + 1) (by omega)
  have t1 : ((b : Int) + 1).toNat = b + 1 := by omega
  have hd := hNr.deg hb
  have hle := hNr.mono (show b + 1 ≤ n from hb) (Nat.le_refl n)
  obtain ⟨G, hG⟩ : ∃ G : Nat → Prop, G = fun k => b < Ne (St b + k) ∧ N a (Ne (St b + k)) := ⟨_, rfl⟩
  unfold F_Sides_markedBehind
  rw [wpF_kF]
  refine ⟨rfl, rfl, ?_⟩
  unfold s_Sides_markedBehind
  simp only [List.map_cons, List.map_nil]
  refine wpS_seq' (fun Q105 hQ105 => ?_)
  simp only [wpS_skip, wpS_break, wpS_cont, wpS_retV, wpS_throw, wpS_seq, wpS_if, wpS_trunc, yS_let, yS_inc, kgK_i, kgK_r, kok_nil, kok_i0, kok_is, kok_r0, kok_rs, kok_n0, kok_ns, xS_put, xS_putOp, xS_ast0, xS_ast1, xS_astOp, wpS_E, wpS_call, wpS_callS, wpS_ret, kThen_N, kThen_B, kThen_C, kThen_R, kThen_T, kNext_N, kNext_C, kNext_B, kNext_R, wpE_K, wpE_KL, xE_I, xE_R, wpE_J, xE_bin, wpE_ladd, wpE_i2l, xE_get, xE_ald0, xE_ald1, wpE_if, xE_max, xE_min, wpE_len, wpA_nil, wpA_snoc, xE_call, xE_callS, xC_C, xC_L, xC_Z, wpC_and, wpC_or, wpC_not, wpC_if, kcmp_0, kcmp_1, kcmp_2, kcmp_3, kcmp_4, kcmp_5, rR_inj, kgO_some, kgO_add, kgO_sub, kgO_mul, kgO_div, kgO_rem, kgO_and, kvI_inl, kvJ_inl, kgI_0, kgI_s, kgR_0, kgR_s, kst_nil, kst_0, kst_s, kNLl_nil, kNLl_i, kNLl_r, kNLl_n, ktag_i, ktag_r, List.length_cons, List.length_nil, List.take_succ_cons, List.take_zero, List.take_nil, List.nil_append, List.cons_append, decide_eq_true_eq, Bool.not_eq_true, Bool.not_eq_true', decide_eq_false_iff_not, ne_eq, Decidable.not_not, true_and, and_true, Nat.reduceAdd, Nat.reduceLeDiff, Nat.reduceEqDiff, Nat.le_refl, not_true_eq_false, not_false_eq_true, reduceIte, eq_self, Int.reduceNeg, Int.reduceEq, Int.reduceLT, Int.reduceLE, Nat.zero_le, Nat.one_ne_zero]
  repeat refine And.intro (by omega) ?_
  rw [hQ105]
  clear hQ105 Q105
  refine kThen_N.mpr ?_
  refine wpS_seq' (fun Q1 hQ1 => ?_)
  unfold l_Sides_markedBehind_1
  refine wpS_fort (fun i P s => P = [some (.inr (.inl 13)), some (.inl (b : Int)), some (.inl (a : Int)), some (.inl (cntP G (i - St b) : Int))] ∧ s = σ) (St b) (St (b + 1)) rfl rfl ?_ ?_ ?_ ?_ ?_ ?_ ?_
  · simp only [wpS_skip, wpS_break, wpS_cont, wpS_retV, wpS_throw, wpS_seq, wpS_if, wpS_trunc, yS_let, yS_inc, kgK_i, kgK_r, kok_nil, kok_i0, kok_is, kok_r0, kok_rs, kok_n0, kok_ns, xS_put, xS_putOp, xS_ast0, xS_ast1, xS_astOp, wpS_E, wpS_call, wpS_callS, wpS_ret, kThen_N, kThen_B, kThen_C, kThen_R, kThen_T, kNext_N, kNext_C, kNext_B, kNext_R, wpE_K, wpE_KL, xE_I, xE_R, wpE_J, xE_bin, wpE_ladd, wpE_i2l, xE_get, xE_ald0, xE_ald1, wpE_if, xE_max, xE_min, wpE_len, wpA_nil, wpA_snoc, xE_call, xE_callS, xC_C, xC_L, xC_Z, wpC_and, wpC_or, wpC_not, wpC_if, kcmp_0, kcmp_1, kcmp_2, kcmp_3, kcmp_4, kcmp_5, rR_inj, kgO_some, kgO_add, kgO_sub, kgO_mul, kgO_div, kgO_rem, kgO_and, kvI_inl, kvJ_inl, kgI_0, kgI_s, kgR_0, kgR_s, kst_nil, kst_0, kst_s, kNLl_nil, kNLl_i, kNLl_r, kNLl_n, ktag_i, ktag_r, List.length_cons, List.length_nil, List.take_succ_cons, List.take_zero, List.take_nil, List.nil_append, List.cons_append, decide_eq_true_eq, Bool.not_eq_true, Bool.not_eq_true', decide_eq_false_iff_not, ne_eq, Decidable.not_not, true_and, and_true, Nat.reduceAdd, Nat.reduceLeDiff, Nat.reduceEqDiff, Nat.le_refl, not_true_eq_false, not_false_eq_true, reduceIte, eq_self, Int.reduceNeg, Int.reduceEq, Int.reduceLT, Int.reduceLE, Nat.zero_le, Nat.one_ne_zero, ev_anew, ev_anew_arr, Int.toNat_natCast, e1]
    omega
  · omega
  · rw [Nat.sub_self]; exact ⟨rfl, rfl⟩
  · rintro i P s ⟨rfl, -⟩; exact ⟨rfl, rfl⟩
  · rintro i P s - - ⟨rfl, rfl⟩
    simp only [wpS_skip, wpS_break, wpS_cont, wpS_retV, wpS_throw, wpS_seq, wpS_if, wpS_trunc, yS_let, yS_inc, kgK_i, kgK_r, kok_nil, kok_i0, kok_is, kok_r0, kok_rs, kok_n0, kok_ns, xS_put, xS_putOp, xS_ast0, xS_ast1, xS_astOp, wpS_E, wpS_call, wpS_callS, wpS_ret, kThen_N, kThen_B, kThen_C, kThen_R, kThen_T, kNext_N, kNext_C, kNext_B, kNext_R, wpE_K, wpE_KL, xE_I, xE_R, wpE_J, xE_bin, wpE_ladd, wpE_i2l, xE_get, xE_ald0, xE_ald1, wpE_if, xE_max, xE_min, wpE_len, wpA_nil, wpA_snoc, xE_call, xE_callS, xC_C, xC_L, xC_Z, wpC_and, wpC_or, wpC_not, wpC_if, kcmp_0, kcmp_1, kcmp_2, kcmp_3, kcmp_4, kcmp_5, rR_inj, kgO_some, kgO_add, kgO_sub, kgO_mul, kgO_div, kgO_rem, kgO_and, kvI_inl, kvJ_inl, kgI_0, kgI_s, kgR_0, kgR_s, kst_nil, kst_0, kst_s, kNLl_nil, kNLl_i, kNLl_r, kNLl_n, ktag_i, ktag_r, List.length_cons, List.length_nil, List.take_succ_cons, List.take_zero, List.take_nil, List.nil_append, List.cons_append, decide_eq_true_eq, Bool.not_eq_true, Bool.not_eq_true', decide_eq_false_iff_not, ne_eq, Decidable.not_not, true_and, and_true, Nat.reduceAdd, Nat.reduceLeDiff, Nat.reduceEqDiff, Nat.le_refl, not_true_eq_false, not_false_eq_true, reduceIte, eq_self, Int.reduceNeg, Int.reduceEq, Int.reduceLT, Int.reduceLE, Nat.zero_le, Nat.one_ne_zero, ev_anew, ev_anew_arr, Int.toNat_natCast, t1, e2]
    omega
  · rintro i P s h0 h1 ⟨rfl, rfl⟩
    obtain ⟨u, hu⟩ : ∃ u, u = Ne i := ⟨_, rfl⟩
    have hun : u < n := by rw [hu]; exact (hNr.2.2.1 b i hb h0 h1).2
    have e46 : s 65 i = u := by rw [hNe i (by omega), hu]
    have hmu := hm u hun
    have hbd := @cntP_bound G (i - St b)
    have hGi : G (i - St b) ↔ (b < u ∧ N a u) := by rw [hG, hu]; dsimp only; rw [show St b + (i - St b) = i by omega]
    have es : i + 1 - St b = (i - St b) + 1 := by omega
    refine wpS_gen (fun Q2 hQ2 => ?_)
    have no : ¬ (b < u ∧ N a u) → Q2 rN [some (.inr (.inl 13)), some (.inl (b : Int)), some (.inl (a : Int)), some (.inl (cntP G (i - St b) : Int)), some (.inl (i : Int))] s := by
      intro h
      rw [hQ2]
      refine kStep_N (P := [some (.inr (.inl 13)), some (.inl (b : Int)), some (.inl (a : Int)), some (.inl (cntP G (i - St b) : Int))]) rfl ⟨?_, rfl⟩
      rw [es, cntP_succ_neg (fun q => h (hGi.mp q))]
    by_cases c1 : (b : Int) < (u : Int)
    · by_cases c2 : s 67 u = (a : Int)
      · simp only [wpS_skip, wpS_break, wpS_cont, wpS_retV, wpS_throw, wpS_seq, wpS_if, wpS_trunc, yS_let, yS_inc, kgK_i, kgK_r, kok_nil, kok_i0, kok_is, kok_r0, kok_rs, kok_n0, kok_ns, xS_put, xS_putOp, xS_ast0, xS_ast1, xS_astOp, wpS_E, wpS_call, wpS_callS, wpS_ret, kThen_N, kThen_B, kThen_C, kThen_R, kThen_T, kNext_N, kNext_C, kNext_B, kNext_R, wpE_K, wpE_KL, xE_I, xE_R, wpE_J, xE_bin, wpE_ladd, wpE_i2l, xE_get, xE_ald0, xE_ald1, wpE_if, xE_max, xE_min, wpE_len, wpA_nil, wpA_snoc, xE_call, xE_callS, xC_C, xC_L, xC_Z, wpC_and, wpC_or, wpC_not, wpC_if, kcmp_0, kcmp_1, kcmp_2, kcmp_3, kcmp_4, kcmp_5, rR_inj, kgO_some, kgO_add, kgO_sub, kgO_mul, kgO_div, kgO_rem, kgO_and, kvI_inl, kvJ_inl, kgI_0, kgI_s, kgR_0, kgR_s, kst_nil, kst_0, kst_s, kNLl_nil, kNLl_i, kNLl_r, kNLl_n, ktag_i, ktag_r, List.length_cons, List.length_nil, List.take_succ_cons, List.take_zero, List.take_nil, List.nil_append, List.cons_append, decide_eq_true_eq, Bool.not_eq_true, Bool.not_eq_true', decide_eq_false_iff_not, ne_eq, Decidable.not_not, true_and, and_true, Nat.reduceAdd, Nat.reduceLeDiff, Nat.reduceEqDiff, Nat.le_refl, not_true_eq_false, not_false_eq_true, reduceIte, eq_self, Int.reduceNeg, Int.reduceEq, Int.reduceLT, Int.reduceLE, Nat.zero_le, Nat.one_ne_zero, ev_anew, ev_anew_arr, Int.toNat_natCast, e46, c1, c2, decide_true, decide_false, Bool.false_eq_true, if_true, if_false, true_and, and_true, not_true_eq_false, not_false_eq_true]
        repeat refine And.intro (by omega) ?_
        rw [hQ2]
        refine kStep_N (P := [some (.inr (.inl 13)), some (.inl (b : Int)), some (.inl (a : Int)), some (.inl ((cntP G (i - St b) : Int) + 1))]) rfl ⟨?_, rfl⟩
        rw [es, cntP_succ_pos (hGi.mpr ⟨by omega, hmu.mp c2⟩)]; rfl
      · simp only [wpS_skip, wpS_break, wpS_cont, wpS_retV, wpS_throw, wpS_seq, wpS_if, wpS_trunc, yS_let, yS_inc, kgK_i, kgK_r, kok_nil, kok_i0, kok_is, kok_r0, kok_rs, kok_n0, kok_ns, xS_put, xS_putOp, xS_ast0, xS_ast1, xS_astOp, wpS_E, wpS_call, wpS_callS, wpS_ret, kThen_N, kThen_B, kThen_C, kThen_R, kThen_T, kNext_N, kNext_C, kNext_B, kNext_R, wpE_K, wpE_KL, xE_I, xE_R, wpE_J, xE_bin, wpE_ladd, wpE_i2l, xE_get, xE_ald0, xE_ald1, wpE_if, xE_max, xE_min, wpE_len, wpA_nil, wpA_snoc, xE_call, xE_callS, xC_C, xC_L, xC_Z, wpC_and, wpC_or, wpC_not, wpC_if, kcmp_0, kcmp_1, kcmp_2, kcmp_3, kcmp_4, kcmp_5, rR_inj, kgO_some, kgO_add, kgO_sub, kgO_mul, kgO_div, kgO_rem, kgO_and, kvI_inl, kvJ_inl, kgI_0, kgI_s, kgR_0, kgR_s, kst_nil, kst_0, kst_s, kNLl_nil, kNLl_i, kNLl_r, kNLl_n, ktag_i, ktag_r, List.length_cons, List.length_nil, List.take_succ_cons, List.take_zero, List.take_nil, List.nil_append, List.cons_append, decide_eq_true_eq, Bool.not_eq_true, Bool.not_eq_true', decide_eq_false_iff_not, ne_eq, Decidable.not_not, true_and, and_true, Nat.reduceAdd, Nat.reduceLeDiff, Nat.reduceEqDiff, Nat.le_refl, not_true_eq_false, not_false_eq_true, reduceIte, eq_self, Int.reduceNeg, Int.reduceEq, Int.reduceLT, Int.reduceLE, Nat.zero_le, Nat.one_ne_zero, ev_anew, ev_anew_arr, Int.toNat_natCast, e46, c1, c2, decide_true, decide_false, Bool.false_eq_true, if_true, if_false, true_and, and_true, not_true_eq_false, not_false_eq_true]
        repeat refine And.intro (by omega) ?_
        exact no (fun q => c2 (hmu.mpr q.2))
    · simp only [wpS_skip, wpS_break, wpS_cont, wpS_retV, wpS_throw, wpS_seq, wpS_if, wpS_trunc, yS_let, yS_inc, kgK_i, kgK_r, kok_nil, kok_i0, kok_is, kok_r0, kok_rs, kok_n0, kok_ns, xS_put, xS_putOp, xS_ast0, xS_ast1, xS_astOp, wpS_E, wpS_call, wpS_callS, wpS_ret, kThen_N, kThen_B, kThen_C, kThen_R, kThen_T, kNext_N, kNext_C, kNext_B, kNext_R, wpE_K, wpE_KL, xE_I, xE_R, wpE_J, xE_bin, wpE_ladd, wpE_i2l, xE_get, xE_ald0, xE_ald1, wpE_if, xE_max, xE_min, wpE_len, wpA_nil, wpA_snoc, xE_call, xE_callS, xC_C, xC_L, xC_Z, wpC_and, wpC_or, wpC_not, wpC_if, kcmp_0, kcmp_1, kcmp_2, kcmp_3, kcmp_4, kcmp_5, rR_inj, kgO_some, kgO_add, kgO_sub, kgO_mul, kgO_div, kgO_rem, kgO_and, kvI_inl, kvJ_inl, kgI_0, kgI_s, kgR_0, kgR_s, kst_nil, kst_0, kst_s, kNLl_nil, kNLl_i, kNLl_r, kNLl_n, ktag_i, ktag_r, List.length_cons, List.length_nil, List.take_succ_cons, List.take_zero, List.take_nil, List.nil_append, List.cons_append, decide_eq_true_eq, Bool.not_eq_true, Bool.not_eq_true', decide_eq_false_iff_not, ne_eq, Decidable.not_not, true_and, and_true, Nat.reduceAdd, Nat.reduceLeDiff, Nat.reduceEqDiff, Nat.le_refl, not_true_eq_false, not_false_eq_true, reduceIte, eq_self, Int.reduceNeg, Int.reduceEq, Int.reduceLT, Int.reduceLE, Nat.zero_le, Nat.one_ne_zero, ev_anew, ev_anew_arr, Int.toNat_natCast, e46, c1, decide_true, decide_false, Bool.false_eq_true, if_true, if_false, true_and, and_true, not_true_eq_false, not_false_eq_true]
      repeat refine And.intro (by omega) ?_
      exact no (fun q => c1 (by omega))
  · rintro P s ⟨rfl, rfl⟩
    rw [hQ1]
    refine kThen_N.mpr ?_
    refine wpS_gen (fun Q106 hQ106 => ?_)
    simp only [wpS_skip, wpS_break, wpS_cont, wpS_retV, wpS_throw, wpS_seq, wpS_if, wpS_trunc, yS_let, yS_inc, kgK_i, kgK_r, kok_nil, kok_i0, kok_is, kok_r0, kok_rs, kok_n0, kok_ns, xS_put, xS_putOp, xS_ast0, xS_ast1, xS_astOp, wpS_E, wpS_call, wpS_callS, wpS_ret, kThen_N, kThen_B, kThen_C, kThen_R, kThen_T, kNext_N, kNext_C, kNext_B, kNext_R, wpE_K, wpE_KL, xE_I, xE_R, wpE_J, xE_bin, wpE_ladd, wpE_i2l, xE_get, xE_ald0, xE_ald1, wpE_if, xE_max, xE_min, wpE_len, wpA_nil, wpA_snoc, xE_call, xE_callS, xC_C, xC_L, xC_Z, wpC_and, wpC_or, wpC_not, wpC_if, kcmp_0, kcmp_1, kcmp_2, kcmp_3, kcmp_4, kcmp_5, rR_inj, kgO_some, kgO_add, kgO_sub, kgO_mul, kgO_div, kgO_rem, kgO_and, kvI_inl, kvJ_inl, kgI_0, kgI_s, kgR_0, kgR_s, kst_nil, kst_0, kst_s, kNLl_nil, kNLl_i, kNLl_r, kNLl_n, ktag_i, ktag_r, List.length_cons, List.length_nil, List.take_succ_cons, List.take_zero, List.take_nil, List.nil_append, List.cons_append, decide_eq_true_eq, Bool.not_eq_true, Bool.not_eq_true', decide_eq_false_iff_not, ne_eq, Decidable.not_not, true_and, and_true, Nat.reduceAdd, Nat.reduceLeDiff, Nat.reduceEqDiff, Nat.le_refl, not_true_eq_false, not_false_eq_true, reduceIte, eq_self, Int.reduceNeg, Int.reduceEq, Int.reduceLT, Int.reduceLE, Nat.zero_le, Nat.one_ne_zero]
    repeat refine And.intro (by omega) ?_
    rw [hQ106]
    clear hQ106 Q106
    refine ⟨_, rfl, rfl, rfl, ?_⟩
    have := cntP_rowP (P := N b) (G := fun c => b < c ∧ N a c) (n := n) (q := fun k => Ne (St b + k)) (t := St (b + 1) - St b) (fun i hi => ⟨(hNr.2.2.1 b _ hb (by omega) (by omega)).2, (hNr.2.2.1 b _ hb (by omega) (by omega)).1⟩) (fun i j hi hj e => by
      have e2 : Ne (St b + i) = Ne (St b + j) := e
      rcases Nat.lt_trichotomy i j with w | w | w
      · exact absurd e2 (hNr.2.2.2.1 b _ _ hb (by omega) (by omega) (by omega))
      · exact w
      · exact absurd e2.symm (hNr.2.2.2.1 b _ _ hb (by omega) (by omega) (by omega))) (fun u hu hp => by
      obtain ⟨i, i1, i2, i3⟩ := hNr.2.2.2.2 b u hb hu hp
      exact ⟨i - St b, by omega, by rw [show St b + (i - St b) = i by omega]; exact i3⟩)
    rw [hG, this]
theorem anewThrees_ok {N : Nat → Nat → Prop} {St Ne : Nat → Nat} (hn3 : n ≤ 300) (h1n : σ 1 3 = (n : Int)) (hS : Sr σ 64 65 n St Ne) (hNr : nrP n N n St Ne) :
    wpF F_Sides_countThrees [.inr (.inl 13)] σ (fun r s => (∀ o j, o ≠ 67 → s o j = σ o j) ∧ r = some (.inr (.inr (tri n N : Int)))) := by
  obtain ⟨hSt, hNe, h18⟩ := id hS
  obtain ⟨F, hF⟩ : ∃ F : Nat → Nat → Nat, F = fun a b => iteP (a < b ∧ N a b) (cntP (fun c => b < c ∧ N a c ∧ N b c) n) := ⟨_, rfl⟩
  have hbd := @tri_bound n N hn3
  unfold F_Sides_countThrees
  rw [wpF_kF]
  refine ⟨rfl, rfl, ?_⟩
  unfold s_Sides_countThrees
  simp only [List.map_cons, List.map_nil]
  refine wpS_seq' (fun Q107 hQ107 => ?_)
  simp only [wpS_skip, wpS_break, wpS_cont, wpS_retV, wpS_throw, wpS_seq, wpS_if, wpS_trunc, yS_let, yS_inc, kgK_i, kgK_r, kok_nil, kok_i0, kok_is, kok_r0, kok_rs, kok_n0, kok_ns, xS_put, xS_putOp, xS_ast0, xS_ast1, xS_astOp, wpS_E, wpS_call, wpS_callS, wpS_ret, kThen_N, kThen_B, kThen_C, kThen_R, kThen_T, kNext_N, kNext_C, kNext_B, kNext_R, wpE_K, wpE_KL, xE_I, xE_R, wpE_J, xE_bin, wpE_ladd, wpE_i2l, xE_get, xE_ald0, xE_ald1, wpE_if, xE_max, xE_min, wpE_len, wpA_nil, wpA_snoc, xE_call, xE_callS, xC_C, xC_L, xC_Z, wpC_and, wpC_or, wpC_not, wpC_if, kcmp_0, kcmp_1, kcmp_2, kcmp_3, kcmp_4, kcmp_5, rR_inj, kgO_some, kgO_add, kgO_sub, kgO_mul, kgO_div, kgO_rem, kgO_and, kvI_inl, kvJ_inl, kgI_0, kgI_s, kgR_0, kgR_s, kst_nil, kst_0, kst_s, kNLl_nil, kNLl_i, kNLl_r, kNLl_n, ktag_i, ktag_r, List.length_cons, List.length_nil, List.take_succ_cons, List.take_zero, List.take_nil, List.nil_append, List.cons_append, decide_eq_true_eq, Bool.not_eq_true, Bool.not_eq_true', decide_eq_false_iff_not, ne_eq, Decidable.not_not, true_and, and_true, Nat.reduceAdd, Nat.reduceLeDiff, Nat.reduceEqDiff, Nat.le_refl, not_true_eq_false, not_false_eq_true, reduceIte, eq_self, Int.reduceNeg, Int.reduceEq, Int.reduceLT, Int.reduceLE, Nat.zero_le, Nat.one_ne_zero, ev_anew, ev_anew_arr]
  refine (fill_ok (n := 300) (by omega) rfl rfl).mono ?_
  rintro r s0 ⟨rfl, hs0⟩
  refine ⟨rfl, ?_⟩
  rw [hQ107]
  clear hQ107
  refine kThen_N.mpr ?_
  have f1 : ∀ o k, o ≠ 67 → s0 o k = σ o k := by intro o k ho; rw [hs0]; unfold kfill; rw [if_neg (fun q => ho q.1)]
  have f2 : ∀ v, v < 300 → s0 67 v = -1 := by intro v hv; rw [hs0]; unfold kfill; rw [if_pos ⟨rfl, hv⟩]
  clear hs0
  refine wpS_seq' (fun Q1 hQ1 => ?_)
  have go : Q1 rN [some (.inr (.inl 13)), some (.inr (.inr 0)), none] s0 := by
    rw [hQ1]
    refine kThen_N.mpr ?_
    refine wpS_seq' (fun Q2 hQ2 => ?_)
    unfold l_Sides_countThrees_3
    refine wpS_fortL (fun a P s => (∀ o j, o ≠ 67 → s o j = σ o j) ∧ a ≤ n ∧ P = [some (.inr (.inl 13)), some (.inr (.inr (sumR (fun a => sumR (F a) n) a : Int))), none] ∧ ∀ u, u < n → s 67 u < (a : Int)) 0 n rfl (fun z => rfl) ?_ (by omega) ⟨f1, Nat.zero_le _, rfl, fun u hu => by rw [f2 u (by omega)]; decide⟩ ?_ ?_
    · simp only [wpS_skip, wpS_break, wpS_cont, wpS_retV, wpS_throw, wpS_seq, wpS_if, wpS_trunc, yS_let, yS_inc, kgK_i, kgK_r, kok_nil, kok_i0, kok_is, kok_r0, kok_rs, kok_n0, kok_ns, xS_put, xS_putOp, xS_ast0, xS_ast1, xS_astOp, wpS_E, wpS_call, wpS_callS, wpS_ret, kThen_N, kThen_B, kThen_C, kThen_R, kThen_T, kNext_N, kNext_C, kNext_B, kNext_R, wpE_K, wpE_KL, xE_I, xE_R, wpE_J, xE_bin, wpE_ladd, wpE_i2l, xE_get, xE_ald0, xE_ald1, wpE_if, xE_max, xE_min, wpE_len, wpA_nil, wpA_snoc, xE_call, xE_callS, xC_C, xC_L, xC_Z, wpC_and, wpC_or, wpC_not, wpC_if, kcmp_0, kcmp_1, kcmp_2, kcmp_3, kcmp_4, kcmp_5, rR_inj, kgO_some, kgO_add, kgO_sub, kgO_mul, kgO_div, kgO_rem, kgO_and, kvI_inl, kvJ_inl, kgI_0, kgI_s, kgR_0, kgR_s, kst_nil, kst_0, kst_s, kNLl_nil, kNLl_i, kNLl_r, kNLl_n, ktag_i, ktag_r, List.length_cons, List.length_nil, List.take_succ_cons, List.take_zero, List.take_nil, List.nil_append, List.cons_append, decide_eq_true_eq, Bool.not_eq_true, Bool.not_eq_true', decide_eq_false_iff_not, ne_eq, Decidable.not_not, true_and, and_true, Nat.reduceAdd, Nat.reduceLeDiff, Nat.reduceEqDiff, Nat.le_refl, not_true_eq_false, not_false_eq_true, reduceIte, eq_self, Int.reduceNeg, Int.reduceEq, Int.reduceLT, Int.reduceLE, Nat.zero_le, Nat.one_ne_zero]; trivial
    · rintro a P s ⟨-, -, rfl, -⟩; exact ⟨rfl, fun y z => rfl⟩
    · rintro a P s - ⟨S1, han, rfl, S2⟩
      have hba : sumR (fun a => sumR (F a) n) a ≤ 27000000 := by rw [hF]; exact (hbd a han).1
      obtain ⟨z, hz⟩ : ∃ z, z = sumR (fun a => sumR (F a) n) a := ⟨_, rfl⟩
      rw [← hz] at hba ⊢
      have e13 : s 1 3 = n := by rw [S1 _ _ (by decide)]; exact h1n
      refine wpC_gen (fun Q3 hQ3 => ?_)
      by_cases ha : a < n
      · have c1 : (a : Int) < (n : Int) := by omega
        simp only [wpS_skip, wpS_break, wpS_cont, wpS_retV, wpS_throw, wpS_seq, wpS_if, wpS_trunc, yS_let, yS_inc, kgK_i, kgK_r, kok_nil, kok_i0, kok_is, kok_r0, kok_rs, kok_n0, kok_ns, xS_put, xS_putOp, xS_ast0, xS_ast1, xS_astOp, wpS_E, wpS_call, wpS_callS, wpS_ret, kThen_N, kThen_B, kThen_C, kThen_R, kThen_T, kNext_N, kNext_C, kNext_B, kNext_R, wpE_K, wpE_KL, xE_I, xE_R, wpE_J, xE_bin, wpE_ladd, wpE_i2l, xE_get, xE_ald0, xE_ald1, wpE_if, xE_max, xE_min, wpE_len, wpA_nil, wpA_snoc, xE_call, xE_callS, xC_C, xC_L, xC_Z, wpC_and, wpC_or, wpC_not, wpC_if, kcmp_0, kcmp_1, kcmp_2, kcmp_3, kcmp_4, kcmp_5, rR_inj, kgO_some, kgO_add, kgO_sub, kgO_mul, kgO_div, kgO_rem, kgO_and, kvI_inl, kvJ_inl, kgI_0, kgI_s, kgR_0, kgR_s, kst_nil, kst_0, kst_s, kNLl_nil, kNLl_i, kNLl_r, kNLl_n, ktag_i, ktag_r, List.length_cons, List.length_nil, List.take_succ_cons, List.take_zero, List.take_nil, List.nil_append, List.cons_append, decide_eq_true_eq, Bool.not_eq_true, Bool.not_eq_true', decide_eq_false_iff_not, ne_eq, Decidable.not_not, true_and, and_true, Nat.reduceAdd, Nat.reduceLeDiff, Nat.reduceEqDiff, Nat.le_refl, not_true_eq_false, not_false_eq_true, reduceIte, eq_self, Int.reduceNeg, Int.reduceEq, Int.reduceLT, Int.reduceLE, Nat.zero_le, Nat.one_ne_zero, ev_anew, ev_web, e13, c1, decide_true, decide_false, Bool.false_eq_true, if_true, if_false, true_and, and_true, not_true_eq_false, not_false_eq_true]
        rw [hQ3]
        refine ⟨rfl, Or.inl ⟨rfl, ha, ?_⟩⟩
        have t1 : ((a : Int) + 1).toNat = a + 1 := by omega
        have hd := hNr.deg ha
        have hle := hNr.mono (show a + 1 ≤ n from ha) (Nat.le_refl n)
        have esa : ∀ s' : kS, (∀ o j, o ≠ 67 → s' o j = σ o j) → s' 64 a = St a ∧ s' 64 (a + 1) = St (a + 1) := fun s' h => ⟨by rw [h _ _ (by decide)]; exact hSt a (by omega), by rw [h _ _ (by decide)]; exact hSt (a + 1) (by omega)⟩
        refine wpS_seq' (fun Q4 hQ4 => ?_)
        unfold l_Sides_countThrees_1
        refine wpS_fortL (fun i P s' => P = [some (.inr (.inl 13)), some (.inr (.inr (z : Int))), none, some (.inl (a : Int))] ∧ i ≤ St (a + 1) ∧ (∀ o j, o ≠ 67 → s' o j = σ o j) ∧ (∀ u, u < n → ((∃ j, St a ≤ j ∧ j < i ∧ Ne j = u) → s' 67 u = (a : Int)) ∧ ((¬ ∃ j, St a ≤ j ∧ j < i ∧ Ne j = u) → s' 67 u < (a : Int)))) (St a) (St (a + 1)) rfl (fun z => rfl) ?_ (by omega) ⟨rfl, by omega, S1, fun u hu => ⟨fun ⟨j, h1, h2, _⟩ => by omega, fun _ => S2 u hu⟩⟩ ?_ ?_
        · simp only [wpS_skip, wpS_break, wpS_cont, wpS_retV, wpS_throw, wpS_seq, wpS_if, wpS_trunc, yS_let, yS_inc, kgK_i, kgK_r, kok_nil, kok_i0, kok_is, kok_r0, kok_rs, kok_n0, kok_ns, xS_put, xS_putOp, xS_ast0, xS_ast1, xS_astOp, wpS_E, wpS_call, wpS_callS, wpS_ret, kThen_N, kThen_B, kThen_C, kThen_R, kThen_T, kNext_N, kNext_C, kNext_B, kNext_R, wpE_K, wpE_KL, xE_I, xE_R, wpE_J, xE_bin, wpE_ladd, wpE_i2l, xE_get, xE_ald0, xE_ald1, wpE_if, xE_max, xE_min, wpE_len, wpA_nil, wpA_snoc, xE_call, xE_callS, xC_C, xC_L, xC_Z, wpC_and, wpC_or, wpC_not, wpC_if, kcmp_0, kcmp_1, kcmp_2, kcmp_3, kcmp_4, kcmp_5, rR_inj, kgO_some, kgO_add, kgO_sub, kgO_mul, kgO_div, kgO_rem, kgO_and, kvI_inl, kvJ_inl, kgI_0, kgI_s, kgR_0, kgR_s, kst_nil, kst_0, kst_s, kNLl_nil, kNLl_i, kNLl_r, kNLl_n, ktag_i, ktag_r, List.length_cons, List.length_nil, List.take_succ_cons, List.take_zero, List.take_nil, List.nil_append, List.cons_append, decide_eq_true_eq, Bool.not_eq_true, Bool.not_eq_true', decide_eq_false_iff_not, ne_eq, Decidable.not_not, true_and, and_true, Nat.reduceAdd, Nat.reduceLeDiff, Nat.reduceEqDiff, Nat.le_refl, not_true_eq_false, not_false_eq_true, reduceIte, eq_self, Int.reduceNeg, Int.reduceEq, Int.reduceLT, Int.reduceLE, Nat.zero_le, Nat.one_ne_zero, ev_anew, ev_anew_arr, Int.toNat_natCast, (esa s S1).1]
          omega
        · rintro i P s' ⟨rfl, -⟩; exact ⟨rfl, fun y z => rfl⟩
        · rintro i P s' hi0 ⟨rfl, hi1, T1, T2⟩
          refine wpC_gen (fun Q5 hQ5 => ?_)
          by_cases hi : i < St (a + 1)
          · have c2 : (i : Int) < (St (a + 1) : Int) := by omega
            simp only [wpS_skip, wpS_break, wpS_cont, wpS_retV, wpS_throw, wpS_seq, wpS_if, wpS_trunc, yS_let, yS_inc, kgK_i, kgK_r, kok_nil, kok_i0, kok_is, kok_r0, kok_rs, kok_n0, kok_ns, xS_put, xS_putOp, xS_ast0, xS_ast1, xS_astOp, wpS_E, wpS_call, wpS_callS, wpS_ret, kThen_N, kThen_B, kThen_C, kThen_R, kThen_T, kNext_N, kNext_C, kNext_B, kNext_R, wpE_K, wpE_KL, xE_I, xE_R, wpE_J, xE_bin, wpE_ladd, wpE_i2l, xE_get, xE_ald0, xE_ald1, wpE_if, xE_max, xE_min, wpE_len, wpA_nil, wpA_snoc, xE_call, xE_callS, xC_C, xC_L, xC_Z, wpC_and, wpC_or, wpC_not, wpC_if, kcmp_0, kcmp_1, kcmp_2, kcmp_3, kcmp_4, kcmp_5, rR_inj, kgO_some, kgO_add, kgO_sub, kgO_mul, kgO_div, kgO_rem, kgO_and, kvI_inl, kvJ_inl, kgI_0, kgI_s, kgR_0, kgR_s, kst_nil, kst_0, kst_s, kNLl_nil, kNLl_i, kNLl_r, kNLl_n, ktag_i, ktag_r, List.length_cons, List.length_nil, List.take_succ_cons, List.take_zero, List.take_nil, List.nil_append, List.cons_append, decide_eq_true_eq, Bool.not_eq_true, Bool.not_eq_true', decide_eq_false_iff_not, ne_eq, Decidable.not_not, true_and, and_true, Nat.reduceAdd, Nat.reduceLeDiff, Nat.reduceEqDiff, Nat.le_refl, not_true_eq_false, not_false_eq_true, reduceIte, eq_self, Int.reduceNeg, Int.reduceEq, Int.reduceLT, Int.reduceLE, Nat.zero_le, Nat.one_ne_zero, ev_anew, ev_anew_arr, Int.toNat_natCast, t1, (esa s' T1).2, c2, decide_true, decide_false, Bool.false_eq_true, if_true, if_false, true_and, and_true, not_true_eq_false, not_false_eq_true]
            repeat refine And.intro (by omega) ?_
            rw [hQ5]
            refine ⟨rfl, Or.inl ⟨rfl, hi, ?_⟩⟩
            have hun := (hNr.2.2.1 a i ha hi0 hi).2
            have e46 : s' 65 i = Ne i := by rw [T1 _ _ (by decide)]; exact hNe i (by omega)
            refine wpS_gen (fun Q108 hQ108 => ?_)
            simp only [wpS_skip, wpS_break, wpS_cont, wpS_retV, wpS_throw, wpS_seq, wpS_if, wpS_trunc, yS_let, yS_inc, kgK_i, kgK_r, kok_nil, kok_i0, kok_is, kok_r0, kok_rs, kok_n0, kok_ns, xS_put, xS_putOp, xS_ast0, xS_ast1, xS_astOp, wpS_E, wpS_call, wpS_callS, wpS_ret, kThen_N, kThen_B, kThen_C, kThen_R, kThen_T, kNext_N, kNext_C, kNext_B, kNext_R, wpE_K, wpE_KL, xE_I, xE_R, wpE_J, xE_bin, wpE_ladd, wpE_i2l, xE_get, xE_ald0, xE_ald1, wpE_if, xE_max, xE_min, wpE_len, wpA_nil, wpA_snoc, xE_call, xE_callS, xC_C, xC_L, xC_Z, wpC_and, wpC_or, wpC_not, wpC_if, kcmp_0, kcmp_1, kcmp_2, kcmp_3, kcmp_4, kcmp_5, rR_inj, kgO_some, kgO_add, kgO_sub, kgO_mul, kgO_div, kgO_rem, kgO_and, kvI_inl, kvJ_inl, kgI_0, kgI_s, kgR_0, kgR_s, kst_nil, kst_0, kst_s, kNLl_nil, kNLl_i, kNLl_r, kNLl_n, ktag_i, ktag_r, List.length_cons, List.length_nil, List.take_succ_cons, List.take_zero, List.take_nil, List.nil_append, List.cons_append, decide_eq_true_eq, Bool.not_eq_true, Bool.not_eq_true', decide_eq_false_iff_not, ne_eq, Decidable.not_not, true_and, and_true, Nat.reduceAdd, Nat.reduceLeDiff, Nat.reduceEqDiff, Nat.le_refl, not_true_eq_false, not_false_eq_true, reduceIte, eq_self, Int.reduceNeg, Int.reduceEq, Int.reduceLT, Int.reduceLE, Nat.zero_le, Nat.one_ne_zero, ev_anew, ev_anew_arr, Int.toNat_natCast, e46]
            repeat refine And.intro (by omega) ?_
            rw [hQ108]
            clear hQ108 Q108
            refine kStep_N rfl ⟨rfl, by omega, fun o j ho => by rw [kup_ne ho]; exact T1 o j ho, fun u hu => ?_⟩
            rw [kup_eq]
            by_cases e : u = Ne i
            · rw [if_pos e]
              exact ⟨fun _ => rfl, fun hn => absurd ⟨i, hi0, by omega, e.symm⟩ hn⟩
            · rw [if_neg e]
              refine ⟨fun ⟨j, j1, j2, j3⟩ => (T2 u hu).1 ⟨j, j1, ?_, j3⟩, fun hn => (T2 u hu).2 (fun ⟨j, j1, j2, j3⟩ => hn ⟨j, j1, by omega, j3⟩)⟩
              rcases Nat.lt_trichotomy j i with w | w | w
              · exact w
              · exact absurd (by rw [← j3, w]) e
              · omega
          · have ei : i = St (a + 1) := by omega
            have c2 : ¬ (i : Int) < (St (a + 1) : Int) := by omega
            simp only [wpS_skip, wpS_break, wpS_cont, wpS_retV, wpS_throw, wpS_seq, wpS_if, wpS_trunc, yS_let, yS_inc, kgK_i, kgK_r, kok_nil, kok_i0, kok_is, kok_r0, kok_rs, kok_n0, kok_ns, xS_put, xS_putOp, xS_ast0, xS_ast1, xS_astOp, wpS_E, wpS_call, wpS_callS, wpS_ret, kThen_N, kThen_B, kThen_C, kThen_R, kThen_T, kNext_N, kNext_C, kNext_B, kNext_R, wpE_K, wpE_KL, xE_I, xE_R, wpE_J, xE_bin, wpE_ladd, wpE_i2l, xE_get, xE_ald0, xE_ald1, wpE_if, xE_max, xE_min, wpE_len, wpA_nil, wpA_snoc, xE_call, xE_callS, xC_C, xC_L, xC_Z, wpC_and, wpC_or, wpC_not, wpC_if, kcmp_0, kcmp_1, kcmp_2, kcmp_3, kcmp_4, kcmp_5, rR_inj, kgO_some, kgO_add, kgO_sub, kgO_mul, kgO_div, kgO_rem, kgO_and, kvI_inl, kvJ_inl, kgI_0, kgI_s, kgR_0, kgR_s, kst_nil, kst_0, kst_s, kNLl_nil, kNLl_i, kNLl_r, kNLl_n, ktag_i, ktag_r, List.length_cons, List.length_nil, List.take_succ_cons, List.take_zero, List.take_nil, List.nil_append, List.cons_append, decide_eq_true_eq, Bool.not_eq_true, Bool.not_eq_true', decide_eq_false_iff_not, ne_eq, Decidable.not_not, true_and, and_true, Nat.reduceAdd, Nat.reduceLeDiff, Nat.reduceEqDiff, Nat.le_refl, not_true_eq_false, not_false_eq_true, reduceIte, eq_self, Int.reduceNeg, Int.reduceEq, Int.reduceLT, Int.reduceLE, Nat.zero_le, Nat.one_ne_zero, ev_anew, ev_anew_arr, Int.toNat_natCast, t1, (esa s' T1).2, c2, decide_true, decide_false, Bool.false_eq_true, if_true, if_false, true_and, and_true, not_true_eq_false, not_false_eq_true]
            repeat refine And.intro (by omega) ?_
            rw [hQ5]
            refine ⟨rfl, Or.inr ⟨rfl, ?_⟩⟩
            rw [hQ4]
            refine kThen_N.mpr ?_
            have hm : ∀ u, u < n → (s' 67 u = (a : Int) ↔ N a u) ∧ s' 67 u < (a : Int) + 1 := by
              intro u hu
              obtain ⟨q1, q2⟩ := T2 u hu
              rw [ei] at q1 q2
              by_cases q : ∃ j, St a ≤ j ∧ j < St (a + 1) ∧ Ne j = u
              · have := q1 q
                obtain ⟨j, j1, j2, j3⟩ := q
                exact ⟨⟨fun _ => by rw [← j3]; exact (hNr.2.2.1 a j ha j1 j2).1, fun _ => this⟩, by omega⟩
              · have := q2 q
                exact ⟨⟨fun w => by omega, fun w => absurd (hNr.2.2.2.2 a u ha hu w) q⟩, by omega⟩
            have hSs : Sr s' 64 65 n St Ne := ⟨fun v hv => by rw [T1 _ _ (by decide)]; exact hSt v hv, fun i hi => by rw [T1 _ _ (by decide)]; exact hNe i hi, h18⟩
            refine wpS_gen (fun Q6 hQ6 => ?_)
            unfold l_Sides_countThrees_2
            obtain ⟨H, hH⟩ : ∃ H : Nat → Nat, H = fun k => iteP (a < Ne (St a + k)) (cntP (fun c => N (Ne (St a + k)) c ∧ Ne (St a + k) < c ∧ N a c) n) := ⟨_, rfl⟩
            have hHb : ∀ k, H k ≤ 300 := by
              intro k
              have := @cntP_bound (fun c => N (Ne (St a + k)) c ∧ Ne (St a + k) < c ∧ N a c) n
              rw [hH]
              by_cases q : a < Ne (St a + k)
              · dsimp only; rw [iteP_pos q]; omega
              · dsimp only; rw [iteP_neg q]; omega
            refine wpS_fortL (fun i P s2 => P = [some (.inr (.inl 13)), some (.inr (.inr ((z + sumR H (i - St a) : Nat) : Int))), none, some (.inl (a : Int))] ∧ i ≤ St (a + 1) ∧ s2 = s') (St a) (St (a + 1)) rfl (fun z => rfl) ?_ (by omega) ⟨by rw [Nat.sub_self]; rfl, by omega, rfl⟩ ?_ ?_
            · simp only [wpS_skip, wpS_break, wpS_cont, wpS_retV, wpS_throw, wpS_seq, wpS_if, wpS_trunc, yS_let, yS_inc, kgK_i, kgK_r, kok_nil, kok_i0, kok_is, kok_r0, kok_rs, kok_n0, kok_ns, xS_put, xS_putOp, xS_ast0, xS_ast1, xS_astOp, wpS_E, wpS_call, wpS_callS, wpS_ret, kThen_N, kThen_B, kThen_C, kThen_R, kThen_T, kNext_N, kNext_C, kNext_B, kNext_R, wpE_K, wpE_KL, xE_I, xE_R, wpE_J, xE_bin, wpE_ladd, wpE_i2l, xE_get, xE_ald0, xE_ald1, wpE_if, xE_max, xE_min, wpE_len, wpA_nil, wpA_snoc, xE_call, xE_callS, xC_C, xC_L, xC_Z, wpC_and, wpC_or, wpC_not, wpC_if, kcmp_0, kcmp_1, kcmp_2, kcmp_3, kcmp_4, kcmp_5, rR_inj, kgO_some, kgO_add, kgO_sub, kgO_mul, kgO_div, kgO_rem, kgO_and, kvI_inl, kvJ_inl, kgI_0, kgI_s, kgR_0, kgR_s, kst_nil, kst_0, kst_s, kNLl_nil, kNLl_i, kNLl_r, kNLl_n, ktag_i, ktag_r, List.length_cons, List.length_nil, List.take_succ_cons, List.take_zero, List.take_nil, List.nil_append, List.cons_append, decide_eq_true_eq, Bool.not_eq_true, Bool.not_eq_true', decide_eq_false_iff_not, ne_eq, Decidable.not_not, true_and, and_true, Nat.reduceAdd, Nat.reduceLeDiff, Nat.reduceEqDiff, Nat.le_refl, not_true_eq_false, not_false_eq_true, reduceIte, eq_self, Int.reduceNeg, Int.reduceEq, Int.reduceLT, Int.reduceLE, Nat.zero_le, Nat.one_ne_zero, ev_anew, ev_anew_arr, Int.toNat_natCast, (esa s' T1).1]
              omega
            · rintro i P s2 ⟨rfl, -⟩; exact ⟨rfl, fun y z => rfl⟩
            · rintro i P s2 hi0 ⟨rfl, hi1, hs2⟩
              subst s2
              have hsb := sumR_le (n := i - St a) (b := 300) (fun k _ => hHb k)
              have hsb2 : (i - St a) * 300 ≤ 1800 * 300 := Nat.mul_le_mul_right _ (by omega)
              refine wpC_gen (fun Q7 hQ7 => ?_)
              by_cases hi : i < St (a + 1)
              · have c3 : (i : Int) < (St (a + 1) : Int) := by omega
                simp only [wpS_skip, wpS_break, wpS_cont, wpS_retV, wpS_throw, wpS_seq, wpS_if, wpS_trunc, yS_let, yS_inc, kgK_i, kgK_r, kok_nil, kok_i0, kok_is, kok_r0, kok_rs, kok_n0, kok_ns, xS_put, xS_putOp, xS_ast0, xS_ast1, xS_astOp, wpS_E, wpS_call, wpS_callS, wpS_ret, kThen_N, kThen_B, kThen_C, kThen_R, kThen_T, kNext_N, kNext_C, kNext_B, kNext_R, wpE_K, wpE_KL, xE_I, xE_R, wpE_J, xE_bin, wpE_ladd, wpE_i2l, xE_get, xE_ald0, xE_ald1, wpE_if, xE_max, xE_min, wpE_len, wpA_nil, wpA_snoc, xE_call, xE_callS, xC_C, xC_L, xC_Z, wpC_and, wpC_or, wpC_not, wpC_if, kcmp_0, kcmp_1, kcmp_2, kcmp_3, kcmp_4, kcmp_5, rR_inj, kgO_some, kgO_add, kgO_sub, kgO_mul, kgO_div, kgO_rem, kgO_and, kvI_inl, kvJ_inl, kgI_0, kgI_s, kgR_0, kgR_s, kst_nil, kst_0, kst_s, kNLl_nil, kNLl_i, kNLl_r, kNLl_n, ktag_i, ktag_r, List.length_cons, List.length_nil, List.take_succ_cons, List.take_zero, List.take_nil, List.nil_append, List.cons_append, decide_eq_true_eq, Bool.not_eq_true, Bool.not_eq_true', decide_eq_false_iff_not, ne_eq, Decidable.not_not, true_and, and_true, Nat.reduceAdd, Nat.reduceLeDiff, Nat.reduceEqDiff, Nat.le_refl, not_true_eq_false, not_false_eq_true, reduceIte, eq_self, Int.reduceNeg, Int.reduceEq, Int.reduceLT, Int.reduceLE, Nat.zero_le, Nat.one_ne_zero, ev_anew, ev_anew_arr, Int.toNat_natCast, t1, (esa s' T1).2, c3, decide_true, decide_false, Bool.false_eq_true, if_true, if_false, true_and, and_true, not_true_eq_false, not_false_eq_true]
                repeat refine And.intro (by omega) ?_
                rw [hQ7]
                refine ⟨rfl, Or.inl ⟨rfl, hi, ?_⟩⟩
                obtain ⟨b, hb⟩ : ∃ b, b = Ne i := ⟨_, rfl⟩
                have hbn : b < n := by rw [hb]; exact (hNr.2.2.1 a i ha hi0 hi).2
                have e46 : s' 65 i = b := by rw [T1 _ _ (by decide), hNe i (by omega), hb]
                have es : i + 1 - St a = (i - St a) + 1 := by omega
                have hHi : H (i - St a) = iteP (a < b) (cntP (fun c => N b c ∧ b < c ∧ N a c) n) := by rw [hH, hb]; dsimp only; rw [show St a + (i - St a) = i by omega]
                have hss : sumR H (i + 1 - St a) = sumR H (i - St a) + H (i - St a) := by rw [es]; rfl
                have hh := hHb (i - St a)
                refine wpS_gen (fun Q8 hQ8 => ?_)
                rw [wpS_if]
                refine wpC_gen (fun Q9 hQ9 => ?_)
                by_cases c4 : (a : Int) < (b : Int)
                · simp only [wpS_skip, wpS_break, wpS_cont, wpS_retV, wpS_throw, wpS_seq, wpS_if, wpS_trunc, yS_let, yS_inc, kgK_i, kgK_r, kok_nil, kok_i0, kok_is, kok_r0, kok_rs, kok_n0, kok_ns, xS_put, xS_putOp, xS_ast0, xS_ast1, xS_astOp, wpS_E, wpS_call, wpS_callS, wpS_ret, kThen_N, kThen_B, kThen_C, kThen_R, kThen_T, kNext_N, kNext_C, kNext_B, kNext_R, wpE_K, wpE_KL, xE_I, xE_R, wpE_J, xE_bin, wpE_ladd, wpE_i2l, xE_get, xE_ald0, xE_ald1, wpE_if, xE_max, xE_min, wpE_len, wpA_nil, wpA_snoc, xE_call, xE_callS, xC_C, xC_L, xC_Z, wpC_and, wpC_or, wpC_not, wpC_if, kcmp_0, kcmp_1, kcmp_2, kcmp_3, kcmp_4, kcmp_5, rR_inj, kgO_some, kgO_add, kgO_sub, kgO_mul, kgO_div, kgO_rem, kgO_and, kvI_inl, kvJ_inl, kgI_0, kgI_s, kgR_0, kgR_s, kst_nil, kst_0, kst_s, kNLl_nil, kNLl_i, kNLl_r, kNLl_n, ktag_i, ktag_r, List.length_cons, List.length_nil, List.take_succ_cons, List.take_zero, List.take_nil, List.nil_append, List.cons_append, decide_eq_true_eq, Bool.not_eq_true, Bool.not_eq_true', decide_eq_false_iff_not, ne_eq, Decidable.not_not, true_and, and_true, Nat.reduceAdd, Nat.reduceLeDiff, Nat.reduceEqDiff, Nat.le_refl, not_true_eq_false, not_false_eq_true, reduceIte, eq_self, Int.reduceNeg, Int.reduceEq, Int.reduceLT, Int.reduceLE, Nat.zero_le, Nat.one_ne_zero, ev_anew, ev_anew_arr, Int.toNat_natCast, e46, c4, decide_true, decide_false, Bool.false_eq_true, if_true, if_false, true_and, and_true, not_true_eq_false, not_false_eq_true]
                  repeat refine And.intro (by omega) ?_
                  rw [hQ9]
                  refine (if_pos rfl).mpr ?_
                  rw [iteP_pos (by omega)] at hHi
                  refine wpS_ladd (z := ((z + sumR H (i - St a) : Nat) : Int)) (y := (H (i - St a) : Int)) rfl (by omega) rfl ?_ ?_
                  · simp only [wpE_i2l]
                    simp only [wpS_skip, wpS_break, wpS_cont, wpS_retV, wpS_throw, wpS_seq, wpS_if, wpS_trunc, yS_let, yS_inc, kgK_i, kgK_r, kok_nil, kok_i0, kok_is, kok_r0, kok_rs, kok_n0, kok_ns, xS_put, xS_putOp, xS_ast0, xS_ast1, xS_astOp, wpS_E, wpS_call, wpS_callS, wpS_ret, kThen_N, kThen_B, kThen_C, kThen_R, kThen_T, kNext_N, kNext_C, kNext_B, kNext_R, wpE_K, wpE_KL, xE_I, xE_R, wpE_J, xE_bin, wpE_ladd, wpE_i2l, xE_get, xE_ald0, xE_ald1, wpE_if, xE_max, xE_min, wpE_len, wpA_nil, wpA_snoc, xE_call, xE_callS, xC_C, xC_L, xC_Z, wpC_and, wpC_or, wpC_not, wpC_if, kcmp_0, kcmp_1, kcmp_2, kcmp_3, kcmp_4, kcmp_5, rR_inj, kgO_some, kgO_add, kgO_sub, kgO_mul, kgO_div, kgO_rem, kgO_and, kvI_inl, kvJ_inl, kgI_0, kgI_s, kgR_0, kgR_s, kst_nil, kst_0, kst_s, kNLl_nil, kNLl_i, kNLl_r, kNLl_n, ktag_i, ktag_r, List.length_cons, List.length_nil, List.take_succ_cons, List.take_zero, List.take_nil, List.nil_append, List.cons_append, decide_eq_true_eq, Bool.not_eq_true, Bool.not_eq_true', decide_eq_false_iff_not, ne_eq, Decidable.not_not, true_and, and_true, Nat.reduceAdd, Nat.reduceLeDiff, Nat.reduceEqDiff, Nat.le_refl, not_true_eq_false, not_false_eq_true, reduceIte, eq_self, Int.reduceNeg, Int.reduceEq, Int.reduceLT, Int.reduceLE, Nat.zero_le, Nat.one_ne_zero, ev_anew, ev_anew_arr, Int.toNat_natCast, e46]
                    repeat refine And.intro (by omega) ?_
                    refine (anewMarked_ok (a := a) hn3 hSs hNr hbn (fun c hc => (hm c hc).1)).mono ?_
                    rintro r s2 ⟨hs2, rfl⟩
                    subst s2
                    rw [kgO_some, hHi]
                    exact ⟨_, rfl, rfl, rfl⟩
                  · rw [hQ8]
                    refine kStep_N (P := [some (.inr (.inl 13)), some (.inr (.inr (((z + sumR H (i - St a) : Nat) : Int) + (H (i - St a) : Int)))), none, some (.inl (a : Int))]) rfl ⟨?_, by omega, rfl⟩
                    have : ((z + sumR H (i - St a) : Nat) : Int) + (H (i - St a) : Int) = ((z + sumR H (i + 1 - St a) : Nat) : Int) := by rw [hss]; omega
                    rw [this]
                · simp only [wpS_skip, wpS_break, wpS_cont, wpS_retV, wpS_throw, wpS_seq, wpS_if, wpS_trunc, yS_let, yS_inc, kgK_i, kgK_r, kok_nil, kok_i0, kok_is, kok_r0, kok_rs, kok_n0, kok_ns, xS_put, xS_putOp, xS_ast0, xS_ast1, xS_astOp, wpS_E, wpS_call, wpS_callS, wpS_ret, kThen_N, kThen_B, kThen_C, kThen_R, kThen_T, kNext_N, kNext_C, kNext_B, kNext_R, wpE_K, wpE_KL, xE_I, xE_R, wpE_J, xE_bin, wpE_ladd, wpE_i2l, xE_get, xE_ald0, xE_ald1, wpE_if, xE_max, xE_min, wpE_len, wpA_nil, wpA_snoc, xE_call, xE_callS, xC_C, xC_L, xC_Z, wpC_and, wpC_or, wpC_not, wpC_if, kcmp_0, kcmp_1, kcmp_2, kcmp_3, kcmp_4, kcmp_5, rR_inj, kgO_some, kgO_add, kgO_sub, kgO_mul, kgO_div, kgO_rem, kgO_and, kvI_inl, kvJ_inl, kgI_0, kgI_s, kgR_0, kgR_s, kst_nil, kst_0, kst_s, kNLl_nil, kNLl_i, kNLl_r, kNLl_n, ktag_i, ktag_r, List.length_cons, List.length_nil, List.take_succ_cons, List.take_zero, List.take_nil, List.nil_append, List.cons_append, decide_eq_true_eq, Bool.not_eq_true, Bool.not_eq_true', decide_eq_false_iff_not, ne_eq, Decidable.not_not, true_and, and_true, Nat.reduceAdd, Nat.reduceLeDiff, Nat.reduceEqDiff, Nat.le_refl, not_true_eq_false, not_false_eq_true, reduceIte, eq_self, Int.reduceNeg, Int.reduceEq, Int.reduceLT, Int.reduceLE, Nat.zero_le, Nat.one_ne_zero, ev_anew, ev_anew_arr, Int.toNat_natCast, e46, c4, decide_true, decide_false, Bool.false_eq_true, if_true, if_false, true_and, and_true, not_true_eq_false, not_false_eq_true]
                  repeat refine And.intro (by omega) ?_
                  rw [hQ9]
                  refine (if_neg (by decide)).mpr (wpS_skip.mpr ?_)
                  rw [iteP_neg (by omega)] at hHi
                  rw [hQ8]
                  refine kStep_N (P := [some (.inr (.inl 13)), some (.inr (.inr ((z + sumR H (i - St a) : Nat) : Int))), none, some (.inl (a : Int))]) rfl ⟨?_, by omega, rfl⟩
                  rw [hss, hHi]; rfl
              · have ei : i = St (a + 1) := by omega
                have c3 : ¬ (i : Int) < (St (a + 1) : Int) := by omega
                simp only [wpS_skip, wpS_break, wpS_cont, wpS_retV, wpS_throw, wpS_seq, wpS_if, wpS_trunc, yS_let, yS_inc, kgK_i, kgK_r, kok_nil, kok_i0, kok_is, kok_r0, kok_rs, kok_n0, kok_ns, xS_put, xS_putOp, xS_ast0, xS_ast1, xS_astOp, wpS_E, wpS_call, wpS_callS, wpS_ret, kThen_N, kThen_B, kThen_C, kThen_R, kThen_T, kNext_N, kNext_C, kNext_B, kNext_R, wpE_K, wpE_KL, xE_I, xE_R, wpE_J, xE_bin, wpE_ladd, wpE_i2l, xE_get, xE_ald0, xE_ald1, wpE_if, xE_max, xE_min, wpE_len, wpA_nil, wpA_snoc, xE_call, xE_callS, xC_C, xC_L, xC_Z, wpC_and, wpC_or, wpC_not, wpC_if, kcmp_0, kcmp_1, kcmp_2, kcmp_3, kcmp_4, kcmp_5, rR_inj, kgO_some, kgO_add, kgO_sub, kgO_mul, kgO_div, kgO_rem, kgO_and, kvI_inl, kvJ_inl, kgI_0, kgI_s, kgR_0, kgR_s, kst_nil, kst_0, kst_s, kNLl_nil, kNLl_i, kNLl_r, kNLl_n, ktag_i, ktag_r, List.length_cons, List.length_nil, List.take_succ_cons, List.take_zero, List.take_nil, List.nil_append, List.cons_append, decide_eq_true_eq, Bool.not_eq_true, Bool.not_eq_true', decide_eq_false_iff_not, ne_eq, Decidable.not_not, true_and, and_true, Nat.reduceAdd, Nat.reduceLeDiff, Nat.reduceEqDiff, Nat.le_refl, not_true_eq_false, not_false_eq_true, reduceIte, eq_self, Int.reduceNeg, Int.reduceEq, Int.reduceLT, Int.reduceLE, Nat.zero_le, Nat.one_ne_zero, ev_anew, ev_anew_arr, Int.toNat_natCast, t1, (esa s' T1).2, c3, decide_true, decide_false, Bool.false_eq_true, if_true, if_false, true_and, and_true, not_true_eq_false, not_false_eq_true]
                repeat refine And.intro (by omega) ?_
                rw [hQ7]
                refine ⟨rfl, Or.inr ⟨rfl, ?_⟩⟩
                rw [hQ6]
                refine kStep_N (P := [some (.inr (.inl 13)), some (.inr (.inr ((z + sumR H (i - St a) : Nat) : Int))), none]) rfl ⟨T1, ha, ?_, fun u hu => by have := (hm u hu).2; omega⟩
                have e1 : sumR H (i - St a) = sumR (F a) n := by rw [ei, hH, hF]; exact tri_F hNr ha
                have e2 : z + sumR H (i - St a) = sumR (fun a => sumR (F a) n) (a + 1) := by rw [e1, hz]; rfl
                rw [e2]
      · have e : a = n := by omega
        subst e
        have c1 : ¬ (a : Int) < (a : Int) := by omega
        simp only [wpS_skip, wpS_break, wpS_cont, wpS_retV, wpS_throw, wpS_seq, wpS_if, wpS_trunc, yS_let, yS_inc, kgK_i, kgK_r, kok_nil, kok_i0, kok_is, kok_r0, kok_rs, kok_n0, kok_ns, xS_put, xS_putOp, xS_ast0, xS_ast1, xS_astOp, wpS_E, wpS_call, wpS_callS, wpS_ret, kThen_N, kThen_B, kThen_C, kThen_R, kThen_T, kNext_N, kNext_C, kNext_B, kNext_R, wpE_K, wpE_KL, xE_I, xE_R, wpE_J, xE_bin, wpE_ladd, wpE_i2l, xE_get, xE_ald0, xE_ald1, wpE_if, xE_max, xE_min, wpE_len, wpA_nil, wpA_snoc, xE_call, xE_callS, xC_C, xC_L, xC_Z, wpC_and, wpC_or, wpC_not, wpC_if, kcmp_0, kcmp_1, kcmp_2, kcmp_3, kcmp_4, kcmp_5, rR_inj, kgO_some, kgO_add, kgO_sub, kgO_mul, kgO_div, kgO_rem, kgO_and, kvI_inl, kvJ_inl, kgI_0, kgI_s, kgR_0, kgR_s, kst_nil, kst_0, kst_s, kNLl_nil, kNLl_i, kNLl_r, kNLl_n, ktag_i, ktag_r, List.length_cons, List.length_nil, List.take_succ_cons, List.take_zero, List.take_nil, List.nil_append, List.cons_append, decide_eq_true_eq, Bool.not_eq_true, Bool.not_eq_true', decide_eq_false_iff_not, ne_eq, Decidable.not_not, true_and, and_true, Nat.reduceAdd, Nat.reduceLeDiff, Nat.reduceEqDiff, Nat.le_refl, not_true_eq_false, not_false_eq_true, reduceIte, eq_self, Int.reduceNeg, Int.reduceEq, Int.reduceLT, Int.reduceLE, Nat.zero_le, Nat.one_ne_zero, ev_anew, ev_web, e13, c1, decide_true, decide_false, Bool.false_eq_true, if_true, if_false, true_and, and_true, not_true_eq_false, not_false_eq_true]
        rw [hQ3]
        refine ⟨rfl, Or.inr ⟨rfl, ?_⟩⟩
        rw [hQ2]
        refine kThen_N.mpr ?_
        rw [wpS_ret, wpE_J]
        refine ⟨_, rfl, rfl, _, rfl, rfl, S1, ?_⟩
        rw [hz, hF]; rfl
  rw [wpS_let, wpE_KL]
  exact ⟨rfl, _, rfl, go⟩
end SI
