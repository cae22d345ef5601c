/-! TRIANGLES -/
theorem wpS_fortL {j : Nat} {e0 : kEx} {c : kCx} {body : kSx} {P0 : kL} {s0 : kS} {Q : kR → kL → kS → Prop} (I : Nat → kL → kS → Prop) (i0 N : Nat)
    (hj : P0.length = j) (hl : ∀ z, kset P0 j (.inl z) = some (P0 ++ [some (.inl z)]))
    (he : wpE e0 P0 s0 (fun v s => v = .inl (i0 : Int) ∧ s = s0))
    (hN : N < 2147483647) (hI : I i0 P0 s0)
    (hk : ∀ i P s, I i P s → P.length = j ∧ ∀ y z, kset (P ++ [some (.inl y)]) j (.inl z) = some (P ++ [some (.inl z)]))
    (hs : ∀ i P s, i0 ≤ i → I i P s → wpC c (P ++ [some (.inl (i : Int))]) s (fun t s' => s' = s ∧ ((t = true ∧ i < N ∧ wpS body (P ++ [some (.inl (i : Int))]) s (kStep j i (I (i + 1)) (fun v => Q (rR v)))) ∨ (t = false ∧ Q rN P s)))) :
    wpS (sTrunc j (sSeq (sLet 0 j e0) (sFor (j + 1) c body (sInc j 1)))) P0 s0 Q := by
  rw [wpS_trunc, wpS_seq, wpS_let]
  refine he.mono ?_
  rintro v s ⟨rfl, rfl⟩
  refine ⟨rfl, _, hl _, ?_⟩
  rw [kThen_N]
  refine wpS_for (fun m L s => ∃ i P, i0 ≤ i ∧ m = N - i ∧ L = P ++ [some (.inl (i : Int))] ∧ I i P s) ?_ (N - i0) _ _ ⟨i0, _, Nat.le_refl _, rfl, rfl, hI⟩
  rintro m L s1 ⟨i, P, h1, rfl, rfl, hi⟩
  refine (hs i P s1 h1 hi).mono ?_
  rintro t s' ⟨rfl, ⟨rfl, h2, h6⟩ | ⟨rfl, h2⟩⟩
  · rw [if_pos rfl]
    refine h6.mono ?_
    rintro r L s2 (⟨hr, P', e, hI'⟩ | ⟨v, rfl, hq⟩)
    · obtain ⟨g1, g2⟩ := hk _ _ _ hI'
      have key : wpS (sInc j 1) (L.take (j + 1)) s2 (fun r2 L2 σ2 => r2 = rN ∧ ∃ m, m < N - i ∧ ∃ i P, i0 ≤ i ∧ m = N - i ∧ L2 = P ++ [some (.inl (i : Int))] ∧ I i P σ2) := by
        rw [e, wpS_inc]
        refine ⟨(i : Int), P' ++ [some (.inl ((i + 1 : Nat) : Int))], ?_, kck_iff.mpr ⟨⟨by omega, by omega⟩, rfl⟩, ?_, rfl, N - (i + 1), by omega, i + 1, P', by omega, rfl, rfl, hI'⟩
        · rw [List.getElem?_append_right (by omega), g1]; simp
        · rw [g2]; rfl
      rcases hr with rfl | rfl
      · exact kNext_N.mpr key
      · exact kNext_C.mpr key
    · exact kNext_R.mpr hq
  · rw [if_neg (by simp)]
    show Q rN ((P ++ _).take j) s'
    rw [take_pre (hk _ _ _ hi).1]
    exact h2
/-- what is added to the long at local 1 -/
theorem wpS_ladd {e : kEx} {L L2 : kL} {s : kS} {Q : kR → kL → kS → Prop} {z y : Int} (hL : L[1]? = some (some (.inr (.inr z)))) (hb : -9000000000 ≤ z + y ∧ z + y < 9000000000) (hset : kset L 1 (.inr (.inr (z + y))) = some L2) (he : wpE e L s (fun v s' => v = .inr (.inr y) ∧ s' = s)) (hQ : Q rN L2 s) : wpS (sLet 2 1 (eLAdd (eJ 1) e)) L s Q := by
  rw [wpS_let, wpE_ladd, wpE_J]
  refine ⟨z, hL, he.mono ?_⟩
  rintro v s' ⟨rfl, rfl⟩
  refine ⟨z, y, z + y, rfl, rfl, kck64_iff.mpr ⟨⟨by omega, by omega⟩, rfl⟩, rfl, L2, hset, hQ⟩
theorem tri_bound {n : Nat} {N : Nat → Nat → Prop} (hn : n ≤ 300) : ∀ a, a ≤ n → sumR (fun a => sumR (fun b => iteP (a < b ∧ N a b) (cntP (fun c => b < c ∧ N a c ∧ N b c) n)) n) a ≤ 27000000 ∧ ∀ b, b ≤ n → sumR (fun b => iteP (a < b ∧ N a b) (cntP (fun c => b < c ∧ N a c ∧ N b c) n)) b ≤ 90000 := by
  have h1 : ∀ a b, iteP (a < b ∧ N a b) (cntP (fun c => b < c ∧ N a c ∧ N b c) n) ≤ 300 := by
    intro a b
    have := @cntP_bound (fun c => b < c ∧ N a c ∧ N b c) n
    by_cases h : a < b ∧ N a b
    · rw [iteP_pos h]; omega
    · rw [iteP_neg h]; omega
  have h2 : ∀ a b, b ≤ n → sumR (fun b => iteP (a < b ∧ N a b) (cntP (fun c => b < c ∧ N a c ∧ N b c) n)) b ≤ 90000 := by
    intro a b hb
    have := sumR_le (n := b) (b := 300) (fun i _ => h1 a i)
    omega
  refine fun a ha => ⟨?_, h2 a⟩
  have := sumR_le (n := a) (b := 90000) (fun i _ => h2 i n (Nat.le_refl _))
  omega
section TH
variable {σ : kS} {n c ar : Nat} {li fs sn lv : Nat → Nat} {tr lo : Nat → Int}
theorem mdTriangles_ok (hG : gOk n c ar li fs sn) (hM : RM σ n c ar li fs sn lv tr lo) :
    wpF F_Md_triangles [.inr (.inl 14)] σ (fun r s => sK (kup σ 14 22 0) s ∧ r = some (.inr (.inr (tri n (nbr (th c li) fs sn) : Int)))) := by
  have hn3 := hG.1
  obtain ⟨N, hN⟩ : ∃ N, N = nbr (th c li) fs sn := ⟨_, rfl⟩
  obtain ⟨s0, hs0⟩ : ∃ s0, s0 = kup σ 14 22 0 := ⟨_, rfl⟩
  have hM0 : RM s0 n c ar li fs sn lv tr lo := hM.agree (fun o k ho => by rw [hs0]; unfold kup; rw [if_neg (by omega)])
  have hNb := mdNeighbours_ok hG hM0
  rw [← hN] at hNb ⊢
  rw [← hs0]
  obtain ⟨F, hF⟩ : ∃ F : Nat → Nat → Nat, F = fun a b => iteP (a < b ∧ N a b) (cntP (fun c => b < c ∧ N a c ∧ N b c) n) := ⟨_, rfl⟩
  have hbd := @tri_bound n N hn3
  unfold F_Md_triangles
  rw [wpF_kF]
  refine ⟨rfl, rfl, ?_⟩
  unfold s_Md_triangles
  simp only [List.map_cons, List.map_nil]
  refine wpS_seq' (fun Q101 hQ101 => ?_)
  simp only [wpS_skip, wpS_break, wpS_cont, wpS_retV, wpS_throw, wpS_seq, wpS_if, wpS_trunc, yS_let, yS_inc, kgK_i, kgK_r, kok_nil, kok_i0, kok_is, kok_r0, kok_rs, kok_n0, kok_ns, xS_put, xS_putOp, xS_ast0, xS_ast1, xS_astOp, wpS_E, wpS_call, wpS_callS, wpS_ret, kThen_N, kThen_B, kThen_C, kThen_R, kThen_T, kNext_N, kNext_C, kNext_B, kNext_R, wpE_K, wpE_KL, xE_I, xE_R, wpE_J, xE_bin, wpE_ladd, wpE_i2l, xE_get, xE_ald0, xE_ald1, wpE_if, xE_max, xE_min, wpE_len, wpA_nil, wpA_snoc, xE_call, xE_callS, xC_C, xC_L, xC_Z, wpC_and, wpC_or, wpC_not, wpC_if, kcmp_0, kcmp_1, kcmp_2, kcmp_3, kcmp_4, kcmp_5, rR_inj, kgO_some, kgO_add, kgO_sub, kgO_mul, kgO_div, kgO_rem, kgO_and, kvI_inl, kvJ_inl, kgI_0, kgI_s, kgR_0, kgR_s, kst_nil, kst_0, kst_s, kNLl_nil, kNLl_i, kNLl_r, kNLl_n, ktag_i, ktag_r, List.length_cons, List.length_nil, List.take_succ_cons, List.take_zero, List.take_nil, List.nil_append, List.cons_append, decide_eq_true_eq, Bool.not_eq_true, Bool.not_eq_true', decide_eq_false_iff_not, ne_eq, Decidable.not_not, true_and, and_true, Nat.reduceAdd, Nat.reduceLeDiff, Nat.reduceEqDiff, Nat.le_refl, not_true_eq_false, not_false_eq_true, reduceIte, eq_self, Int.reduceNeg, Int.reduceEq, Int.reduceLT, Int.reduceLE, Nat.zero_le, Nat.one_ne_zero, ev_model]
  repeat refine And.intro (by omega) ?_
  rw [hQ101]
  clear hQ101 Q101
  refine kThen_N.mpr ?_
  rw [← hs0]
  refine wpS_seq' (fun Q102 hQ102 => ?_)
  simp only [wpS_skip, wpS_break, wpS_cont, wpS_retV, wpS_throw, wpS_seq, wpS_if, wpS_trunc, yS_let, yS_inc, kgK_i, kgK_r, kok_nil, kok_i0, kok_is, kok_r0, kok_rs, kok_n0, kok_ns, xS_put, xS_putOp, xS_ast0, xS_ast1, xS_astOp, wpS_E, wpS_call, wpS_callS, wpS_ret, kThen_N, kThen_B, kThen_C, kThen_R, kThen_T, kNext_N, kNext_C, kNext_B, kNext_R, wpE_K, wpE_KL, xE_I, xE_R, wpE_J, xE_bin, wpE_ladd, wpE_i2l, xE_get, xE_ald0, xE_ald1, wpE_if, xE_max, xE_min, wpE_len, wpA_nil, wpA_snoc, xE_call, xE_callS, xC_C, xC_L, xC_Z, wpC_and, wpC_or, wpC_not, wpC_if, kcmp_0, kcmp_1, kcmp_2, kcmp_3, kcmp_4, kcmp_5, rR_inj, kgO_some, kgO_add, kgO_sub, kgO_mul, kgO_div, kgO_rem, kgO_and, kvI_inl, kvJ_inl, kgI_0, kgI_s, kgR_0, kgR_s, kst_nil, kst_0, kst_s, kNLl_nil, kNLl_i, kNLl_r, kNLl_n, ktag_i, ktag_r, List.length_cons, List.length_nil, List.take_succ_cons, List.take_zero, List.take_nil, List.nil_append, List.cons_append, decide_eq_true_eq, Bool.not_eq_true, Bool.not_eq_true', decide_eq_false_iff_not, ne_eq, Decidable.not_not, true_and, and_true, Nat.reduceAdd, Nat.reduceLeDiff, Nat.reduceEqDiff, Nat.le_refl, not_true_eq_false, not_false_eq_true, reduceIte, eq_self, Int.reduceNeg, Int.reduceEq, Int.reduceLT, Int.reduceLE, Nat.zero_le, Nat.one_ne_zero, ev_model]
  refine hNb.mono ?_
  rintro r s1 ⟨rfl, k1, k2⟩
  refine ⟨rfl, ?_⟩
  rw [hQ102]
  clear hQ102
  refine kThen_N.mpr ?_
  have n1 : s1 14 1 = n := by rw [k1 _ _ (by decide) (by decide)]; exact hM0.1
  refine wpS_seq' (fun Q1 hQ1 => ?_)
  have go : Q1 rN [some (.inr (.inl 14)), some (.inr (.inr 0)), none] s1 := by
    rw [hQ1]
    refine kThen_N.mpr ?_
    refine wpS_seq' (fun Q2 hQ2 => ?_)
    unfold l_Md_triangles_3
    refine wpS_fortL (fun a P s => s = s1 ∧ a ≤ n ∧ P = [some (.inr (.inl 14)), some (.inr (.inr (sumR (fun a => sumR (F a) n) a : Int))), none]) 0 n rfl (fun z => rfl) ?_ (by omega) ⟨rfl, Nat.zero_le _, rfl⟩ ?_ ?_
    · simp only [wpS_skip, wpS_break, wpS_cont, wpS_retV, wpS_throw, wpS_seq, wpS_if, wpS_trunc, yS_let, yS_inc, kgK_i, kgK_r, kok_nil, kok_i0, kok_is, kok_r0, kok_rs, kok_n0, kok_ns, xS_put, xS_putOp, xS_ast0, xS_ast1, xS_astOp, wpS_E, wpS_call, wpS_callS, wpS_ret, kThen_N, kThen_B, kThen_C, kThen_R, kThen_T, kNext_N, kNext_C, kNext_B, kNext_R, wpE_K, wpE_KL, xE_I, xE_R, wpE_J, xE_bin, wpE_ladd, wpE_i2l, xE_get, xE_ald0, xE_ald1, wpE_if, xE_max, xE_min, wpE_len, wpA_nil, wpA_snoc, xE_call, xE_callS, xC_C, xC_L, xC_Z, wpC_and, wpC_or, wpC_not, wpC_if, kcmp_0, kcmp_1, kcmp_2, kcmp_3, kcmp_4, kcmp_5, rR_inj, kgO_some, kgO_add, kgO_sub, kgO_mul, kgO_div, kgO_rem, kgO_and, kvI_inl, kvJ_inl, kgI_0, kgI_s, kgR_0, kgR_s, kst_nil, kst_0, kst_s, kNLl_nil, kNLl_i, kNLl_r, kNLl_n, ktag_i, ktag_r, List.length_cons, List.length_nil, List.take_succ_cons, List.take_zero, List.take_nil, List.nil_append, List.cons_append, decide_eq_true_eq, Bool.not_eq_true, Bool.not_eq_true', decide_eq_false_iff_not, ne_eq, Decidable.not_not, true_and, and_true, Nat.reduceAdd, Nat.reduceLeDiff, Nat.reduceEqDiff, Nat.le_refl, not_true_eq_false, not_false_eq_true, reduceIte, eq_self, Int.reduceNeg, Int.reduceEq, Int.reduceLT, Int.reduceLE, Nat.zero_le, Nat.one_ne_zero]; trivial
    · rintro a P s ⟨-, -, rfl⟩; exact ⟨rfl, fun y z => rfl⟩
    · rintro a P s - ⟨hs, han, rfl⟩
      subst s
      have hba := (hbd a han).1
      have hba' : sumR (fun a => sumR (F a) n) a ≤ 27000000 := by rw [hF]; exact hba
      obtain ⟨z, hz⟩ : ∃ z, z = sumR (fun a => sumR (F a) n) a := ⟨_, rfl⟩
      rw [← hz] at hba' ⊢
      refine wpC_gen (fun Q3 hQ3 => ?_)
      by_cases ha : a < n
      · have c1 : (a : Int) < (n : Int) := by omega
        simp only [wpS_skip, wpS_break, wpS_cont, wpS_retV, wpS_throw, wpS_seq, wpS_if, wpS_trunc, yS_let, yS_inc, kgK_i, kgK_r, kok_nil, kok_i0, kok_is, kok_r0, kok_rs, kok_n0, kok_ns, xS_put, xS_putOp, xS_ast0, xS_ast1, xS_astOp, wpS_E, wpS_call, wpS_callS, wpS_ret, kThen_N, kThen_B, kThen_C, kThen_R, kThen_T, kNext_N, kNext_C, kNext_B, kNext_R, wpE_K, wpE_KL, xE_I, xE_R, wpE_J, xE_bin, wpE_ladd, wpE_i2l, xE_get, xE_ald0, xE_ald1, wpE_if, xE_max, xE_min, wpE_len, wpA_nil, wpA_snoc, xE_call, xE_callS, xC_C, xC_L, xC_Z, wpC_and, wpC_or, wpC_not, wpC_if, kcmp_0, kcmp_1, kcmp_2, kcmp_3, kcmp_4, kcmp_5, rR_inj, kgO_some, kgO_add, kgO_sub, kgO_mul, kgO_div, kgO_rem, kgO_and, kvI_inl, kvJ_inl, kgI_0, kgI_s, kgR_0, kgR_s, kst_nil, kst_0, kst_s, kNLl_nil, kNLl_i, kNLl_r, kNLl_n, ktag_i, ktag_r, List.length_cons, List.length_nil, List.take_succ_cons, List.take_zero, List.take_nil, List.nil_append, List.cons_append, decide_eq_true_eq, Bool.not_eq_true, Bool.not_eq_true', decide_eq_false_iff_not, ne_eq, Decidable.not_not, true_and, and_true, Nat.reduceAdd, Nat.reduceLeDiff, Nat.reduceEqDiff, Nat.le_refl, not_true_eq_false, not_false_eq_true, reduceIte, eq_self, Int.reduceNeg, Int.reduceEq, Int.reduceLT, Int.reduceLE, Nat.zero_le, Nat.one_ne_zero, ev_model, n1, c1, decide_true, decide_false, Bool.false_eq_true, if_true, if_false, true_and, and_true, not_true_eq_false, not_false_eq_true]
        rw [hQ3]
        refine ⟨rfl, Or.inl ⟨rfl, ha, ?_⟩⟩
        refine wpS_gen (fun Q4 hQ4 => ?_)
        unfold l_Md_triangles_2
        refine wpS_fortL (fun b P s => s = s1 ∧ b ≤ n ∧ P = [some (.inr (.inl 14)), some (.inr (.inr ((z + sumR (F a) b : Nat) : Int))), none, some (.inl (a : Int))]) (a + 1) n rfl (fun z => rfl) ?_ (by omega) ⟨rfl, ha, ?_⟩ ?_ ?_
        · simp only [wpS_skip, wpS_break, wpS_cont, wpS_retV, wpS_throw, wpS_seq, wpS_if, wpS_trunc, yS_let, yS_inc, kgK_i, kgK_r, kok_nil, kok_i0, kok_is, kok_r0, kok_rs, kok_n0, kok_ns, xS_put, xS_putOp, xS_ast0, xS_ast1, xS_astOp, wpS_E, wpS_call, wpS_callS, wpS_ret, kThen_N, kThen_B, kThen_C, kThen_R, kThen_T, kNext_N, kNext_C, kNext_B, kNext_R, wpE_K, wpE_KL, xE_I, xE_R, wpE_J, xE_bin, wpE_ladd, wpE_i2l, xE_get, xE_ald0, xE_ald1, wpE_if, xE_max, xE_min, wpE_len, wpA_nil, wpA_snoc, xE_call, xE_callS, xC_C, xC_L, xC_Z, wpC_and, wpC_or, wpC_not, wpC_if, kcmp_0, kcmp_1, kcmp_2, kcmp_3, kcmp_4, kcmp_5, rR_inj, kgO_some, kgO_add, kgO_sub, kgO_mul, kgO_div, kgO_rem, kgO_and, kvI_inl, kvJ_inl, kgI_0, kgI_s, kgR_0, kgR_s, kst_nil, kst_0, kst_s, kNLl_nil, kNLl_i, kNLl_r, kNLl_n, ktag_i, ktag_r, List.length_cons, List.length_nil, List.take_succ_cons, List.take_zero, List.take_nil, List.nil_append, List.cons_append, decide_eq_true_eq, Bool.not_eq_true, Bool.not_eq_true', decide_eq_false_iff_not, ne_eq, Decidable.not_not, true_and, and_true, Nat.reduceAdd, Nat.reduceLeDiff, Nat.reduceEqDiff, Nat.le_refl, not_true_eq_false, not_false_eq_true, reduceIte, eq_self, Int.reduceNeg, Int.reduceEq, Int.reduceLT, Int.reduceLE, Nat.zero_le, Nat.one_ne_zero]
          repeat refine And.intro (by omega) ?_
          trivial
        · have e : sumR (F a) (a + 1) = 0 := sumR_zero (fun i hi => by rw [hF]; exact iteP_neg (fun q => by omega))
          rw [e]; rfl
        · rintro b P s ⟨-, -, rfl⟩; exact ⟨rfl, fun y z => rfl⟩
        · rintro b P s hb0 ⟨hs, hbn, rfl⟩
          subst s
          have hbb : sumR (F a) b ≤ 90000 := by rw [hF]; exact (hbd a han).2 b hbn
          obtain ⟨y, hy⟩ : ∃ y, y = z + sumR (F a) b := ⟨_, rfl⟩
          have hyb : y ≤ 27090000 := by omega
          rw [← hy]
          refine wpC_gen (fun Q5 hQ5 => ?_)
          by_cases hb : b < n
          · have c2 : (b : Int) < (n : Int) := by omega
            simp only [wpS_skip, wpS_break, wpS_cont, wpS_retV, wpS_throw, wpS_seq, wpS_if, wpS_trunc, yS_let, yS_inc, kgK_i, kgK_r, kok_nil, kok_i0, kok_is, kok_r0, kok_rs, kok_n0, kok_ns, xS_put, xS_putOp, xS_ast0, xS_ast1, xS_astOp, wpS_E, wpS_call, wpS_callS, wpS_ret, kThen_N, kThen_B, kThen_C, kThen_R, kThen_T, kNext_N, kNext_C, kNext_B, kNext_R, wpE_K, wpE_KL, xE_I, xE_R, wpE_J, xE_bin, wpE_ladd, wpE_i2l, xE_get, xE_ald0, xE_ald1, wpE_if, xE_max, xE_min, wpE_len, wpA_nil, wpA_snoc, xE_call, xE_callS, xC_C, xC_L, xC_Z, wpC_and, wpC_or, wpC_not, wpC_if, kcmp_0, kcmp_1, kcmp_2, kcmp_3, kcmp_4, kcmp_5, rR_inj, kgO_some, kgO_add, kgO_sub, kgO_mul, kgO_div, kgO_rem, kgO_and, kvI_inl, kvJ_inl, kgI_0, kgI_s, kgR_0, kgR_s, kst_nil, kst_0, kst_s, kNLl_nil, kNLl_i, kNLl_r, kNLl_n, ktag_i, ktag_r, List.length_cons, List.length_nil, List.take_succ_cons, List.take_zero, List.take_nil, List.nil_append, List.cons_append, decide_eq_true_eq, Bool.not_eq_true, Bool.not_eq_true', decide_eq_false_iff_not, ne_eq, Decidable.not_not, true_and, and_true, Nat.reduceAdd, Nat.reduceLeDiff, Nat.reduceEqDiff, Nat.le_refl, not_true_eq_false, not_false_eq_true, reduceIte, eq_self, Int.reduceNeg, Int.reduceEq, Int.reduceLT, Int.reduceLE, Nat.zero_le, Nat.one_ne_zero, ev_model, n1, c2, decide_true, decide_false, Bool.false_eq_true, if_true, if_false, true_and, and_true, not_true_eq_false, not_false_eq_true]
            rw [hQ5]
            refine ⟨rfl, Or.inl ⟨rfl, hb, ?_⟩⟩
            refine wpS_gen (fun Q6 hQ6 => ?_)
            obtain ⟨y1, y2⟩ := k2.1 a b ha hb
            have t1 : (300 * (a : Int) + b).toNat = 300 * a + b := by omega
            obtain ⟨G, hGG⟩ : ∃ G : Nat → Prop, G = fun c => b < c ∧ N a c ∧ N b c := ⟨_, rfl⟩
            have hFb : F a b = iteP (N a b) (cntP G n) := by
              rw [hF, hGG]
              exact iteP_congr ⟨fun q => q.2, fun q => ⟨by omega, q⟩⟩
            have next : ∀ w : Nat, w = F a b → Q6 rN [some (.inr (.inl 14)), some (.inr (.inr ((y + w : Nat) : Int))), none, some (.inl (a : Int)), some (.inl (b : Int))] s1 := by
              intro w hw
              rw [hQ6]
              refine kStep_N (P := [some (.inr (.inl 14)), some (.inr (.inr ((y + w : Nat) : Int))), none, some (.inl (a : Int))]) rfl ⟨rfl, hb, ?_⟩
              have : y + w = z + sumR (F a) (b + 1) := by show y + w = z + (sumR (F a) b + F a b); omega
              rw [this]
            unfold l_Md_triangles_1
            refine wpS_fortL (fun i P s => s = s1 ∧ i ≤ n ∧ (N a b ∨ i = b + 1) ∧ P = [some (.inr (.inl 14)), some (.inr (.inr ((y + cntP G i : Nat) : Int))), none, some (.inl (a : Int)), some (.inl (b : Int))]) (b + 1) n rfl (fun z => rfl) ?_ (by omega) ⟨rfl, hb, Or.inr rfl, ?_⟩ ?_ ?_
            · simp only [wpS_skip, wpS_break, wpS_cont, wpS_retV, wpS_throw, wpS_seq, wpS_if, wpS_trunc, yS_let, yS_inc, kgK_i, kgK_r, kok_nil, kok_i0, kok_is, kok_r0, kok_rs, kok_n0, kok_ns, xS_put, xS_putOp, xS_ast0, xS_ast1, xS_astOp, wpS_E, wpS_call, wpS_callS, wpS_ret, kThen_N, kThen_B, kThen_C, kThen_R, kThen_T, kNext_N, kNext_C, kNext_B, kNext_R, wpE_K, wpE_KL, xE_I, xE_R, wpE_J, xE_bin, wpE_ladd, wpE_i2l, xE_get, xE_ald0, xE_ald1, wpE_if, xE_max, xE_min, wpE_len, wpA_nil, wpA_snoc, xE_call, xE_callS, xC_C, xC_L, xC_Z, wpC_and, wpC_or, wpC_not, wpC_if, kcmp_0, kcmp_1, kcmp_2, kcmp_3, kcmp_4, kcmp_5, rR_inj, kgO_some, kgO_add, kgO_sub, kgO_mul, kgO_div, kgO_rem, kgO_and, kvI_inl, kvJ_inl, kgI_0, kgI_s, kgR_0, kgR_s, kst_nil, kst_0, kst_s, kNLl_nil, kNLl_i, kNLl_r, kNLl_n, ktag_i, ktag_r, List.length_cons, List.length_nil, List.take_succ_cons, List.take_zero, List.take_nil, List.nil_append, List.cons_append, decide_eq_true_eq, Bool.not_eq_true, Bool.not_eq_true', decide_eq_false_iff_not, ne_eq, Decidable.not_not, true_and, and_true, Nat.reduceAdd, Nat.reduceLeDiff, Nat.reduceEqDiff, Nat.le_refl, not_true_eq_false, not_false_eq_true, reduceIte, eq_self, Int.reduceNeg, Int.reduceEq, Int.reduceLT, Int.reduceLE, Nat.zero_le, Nat.one_ne_zero]
              repeat refine And.intro (by omega) ?_
              trivial
            · have e : cntP G (b + 1) = 0 := cntP_zero (fun k hk q => by rw [hGG] at q; have := q.1; omega)
              rw [e]; rfl
            · rintro i P s ⟨-, -, -, rfl⟩; exact ⟨rfl, fun y z => rfl⟩
            · rintro i P s hi0 ⟨hs, hin, hor, rfl⟩
              subst s
              have hcb := @cntP_bound G i
              refine wpC_gen (fun Q7 hQ7 => ?_)
              by_cases hi : i < n
              · have c3 : (i : Int) < (n : Int) := by omega
                by_cases hab : s1 97 (300 * a + b) = 0
                · have hnab : ¬ N a b := fun q => by have := y2.mpr q; omega
                  simp only [wpS_skip, wpS_break, wpS_cont, wpS_retV, wpS_throw, wpS_seq, wpS_if, wpS_trunc, yS_let, yS_inc, kgK_i, kgK_r, kok_nil, kok_i0, kok_is, kok_r0, kok_rs, kok_n0, kok_ns, xS_put, xS_putOp, xS_ast0, xS_ast1, xS_astOp, wpS_E, wpS_call, wpS_callS, wpS_ret, kThen_N, kThen_B, kThen_C, kThen_R, kThen_T, kNext_N, kNext_C, kNext_B, kNext_R, wpE_K, wpE_KL, xE_I, xE_R, wpE_J, xE_bin, wpE_ladd, wpE_i2l, xE_get, xE_ald0, xE_ald1, wpE_if, xE_max, xE_min, wpE_len, wpA_nil, wpA_snoc, xE_call, xE_callS, xC_C, xC_L, xC_Z, wpC_and, wpC_or, wpC_not, wpC_if, kcmp_0, kcmp_1, kcmp_2, kcmp_3, kcmp_4, kcmp_5, rR_inj, kgO_some, kgO_add, kgO_sub, kgO_mul, kgO_div, kgO_rem, kgO_and, kvI_inl, kvJ_inl, kgI_0, kgI_s, kgR_0, kgR_s, kst_nil, kst_0, kst_s, kNLl_nil, kNLl_i, kNLl_r, kNLl_n, ktag_i, ktag_r, List.length_cons, List.length_nil, List.take_succ_cons, List.take_zero, List.take_nil, List.nil_append, List.cons_append, decide_eq_true_eq, Bool.not_eq_true, Bool.not_eq_true', decide_eq_false_iff_not, ne_eq, Decidable.not_not, true_and, and_true, Nat.reduceAdd, Nat.reduceLeDiff, Nat.reduceEqDiff, Nat.le_refl, not_true_eq_false, not_false_eq_true, reduceIte, eq_self, Int.reduceNeg, Int.reduceEq, Int.reduceLT, Int.reduceLE, Nat.zero_le, Nat.one_ne_zero, ev_model, ev_model_arr, n1, c3, t1, hab, decide_true, decide_false, Bool.false_eq_true, if_true, if_false, true_and, and_true, not_true_eq_false, not_false_eq_true]
                  repeat refine And.intro (by omega) ?_
                  rw [hQ7]
                  refine ⟨rfl, Or.inr ⟨rfl, next _ ?_⟩⟩
                  have e0 : i = b + 1 := hor.elim (fun q => absurd q hnab) id
                  rw [hFb, iteP_neg hnab, e0]
                  exact cntP_zero (fun k hk q => by rw [hGG] at q; have := q.1; omega)
                · have hyab : N a b := y2.mp (by omega)
                  simp only [wpS_skip, wpS_break, wpS_cont, wpS_retV, wpS_throw, wpS_seq, wpS_if, wpS_trunc, yS_let, yS_inc, kgK_i, kgK_r, kok_nil, kok_i0, kok_is, kok_r0, kok_rs, kok_n0, kok_ns, xS_put, xS_putOp, xS_ast0, xS_ast1, xS_astOp, wpS_E, wpS_call, wpS_callS, wpS_ret, kThen_N, kThen_B, kThen_C, kThen_R, kThen_T, kNext_N, kNext_C, kNext_B, kNext_R, wpE_K, wpE_KL, xE_I, xE_R, wpE_J, xE_bin, wpE_ladd, wpE_i2l, xE_get, xE_ald0, xE_ald1, wpE_if, xE_max, xE_min, wpE_len, wpA_nil, wpA_snoc, xE_call, xE_callS, xC_C, xC_L, xC_Z, wpC_and, wpC_or, wpC_not, wpC_if, kcmp_0, kcmp_1, kcmp_2, kcmp_3, kcmp_4, kcmp_5, rR_inj, kgO_some, kgO_add, kgO_sub, kgO_mul, kgO_div, kgO_rem, kgO_and, kvI_inl, kvJ_inl, kgI_0, kgI_s, kgR_0, kgR_s, kst_nil, kst_0, kst_s, kNLl_nil, kNLl_i, kNLl_r, kNLl_n, ktag_i, ktag_r, List.length_cons, List.length_nil, List.take_succ_cons, List.take_zero, List.take_nil, List.nil_append, List.cons_append, decide_eq_true_eq, Bool.not_eq_true, Bool.not_eq_true', decide_eq_false_iff_not, ne_eq, Decidable.not_not, true_and, and_true, Nat.reduceAdd, Nat.reduceLeDiff, Nat.reduceEqDiff, Nat.le_refl, not_true_eq_false, not_false_eq_true, reduceIte, eq_self, Int.reduceNeg, Int.reduceEq, Int.reduceLT, Int.reduceLE, Nat.zero_le, Nat.one_ne_zero, ev_model, ev_model_arr, n1, c3, t1, hab, decide_true, decide_false, Bool.false_eq_true, if_true, if_false, true_and, and_true, not_true_eq_false, not_false_eq_true]
                  repeat refine And.intro (by omega) ?_
                  rw [hQ7]
                  refine ⟨rfl, Or.inl ⟨rfl, hi, ?_⟩⟩
                  obtain ⟨u1, u2⟩ := k2.1 a i ha hi
                  obtain ⟨v1, v2⟩ := k2.1 b i hb hi
                  have t2 : (300 * (a : Int) + i).toNat = 300 * a + i := by omega
                  have t3 : (300 * (b : Int) + i).toNat = 300 * b + i := by omega
                  obtain ⟨gz, hgz, hgz2⟩ : ∃ gz : Nat, gz ≤ 1 ∧ ((gz = 1 ∧ G i ∧ ¬ s1 97 (300 * a + i) = 0 ∧ ¬ s1 97 (300 * b + i) = 0) ∨ (gz = 0 ∧ ¬ G i ∧ (s1 97 (300 * a + i) = 0 ∨ s1 97 (300 * b + i) = 0))) := by
                    by_cases q1 : s1 97 (300 * a + i) = 0
                    · exact ⟨0, by omega, Or.inr ⟨rfl, fun q => by rw [hGG] at q; have := u2.mpr q.2.1; omega, Or.inl q1⟩⟩
                    · by_cases q2 : s1 97 (300 * b + i) = 0
                      · exact ⟨0, by omega, Or.inr ⟨rfl, fun q => by rw [hGG] at q; have := v2.mpr q.2.2; omega, Or.inr q2⟩⟩
                      · exact ⟨1, by omega, Or.inl ⟨rfl, by rw [hGG]; exact ⟨by omega, u2.mp (by omega), v2.mp (by omega)⟩, q1, q2⟩⟩
                  have hcs : cntP G (i + 1) = cntP G i + gz := by
                    rcases hgz2 with ⟨q, q1, -⟩ | ⟨q, q1, -⟩
                    · rw [cntP_succ_pos q1, q]
                    · rw [cntP_succ_neg q1, q]; rfl
                  refine wpS_ladd (z := ((y + cntP G i : Nat) : Int)) (y := (gz : Int)) rfl (by omega) rfl ?_ ?_
                  · rcases hgz2 with ⟨q, -, q2, q3⟩ | ⟨q, -, q2⟩
                    · simp only [wpS_skip, wpS_break, wpS_cont, wpS_retV, wpS_throw, wpS_seq, wpS_if, wpS_trunc, yS_let, yS_inc, kgK_i, kgK_r, kok_nil, kok_i0, kok_is, kok_r0, kok_rs, kok_n0, kok_ns, xS_put, xS_putOp, xS_ast0, xS_ast1, xS_astOp, wpS_E, wpS_call, wpS_callS, wpS_ret, kThen_N, kThen_B, kThen_C, kThen_R, kThen_T, kNext_N, kNext_C, kNext_B, kNext_R, wpE_K, wpE_KL, xE_I, xE_R, wpE_J, xE_bin, wpE_ladd, wpE_i2l, xE_get, xE_ald0, xE_ald1, wpE_if, xE_max, xE_min, wpE_len, wpA_nil, wpA_snoc, xE_call, xE_callS, xC_C, xC_L, xC_Z, wpC_and, wpC_or, wpC_not, wpC_if, kcmp_0, kcmp_1, kcmp_2, kcmp_3, kcmp_4, kcmp_5, rR_inj, kgO_some, kgO_add, kgO_sub, kgO_mul, kgO_div, kgO_rem, kgO_and, kvI_inl, kvJ_inl, kgI_0, kgI_s, kgR_0, kgR_s, kst_nil, kst_0, kst_s, kNLl_nil, kNLl_i, kNLl_r, kNLl_n, ktag_i, ktag_r, List.length_cons, List.length_nil, List.take_succ_cons, List.take_zero, List.take_nil, List.nil_append, List.cons_append, decide_eq_true_eq, Bool.not_eq_true, Bool.not_eq_true', decide_eq_false_iff_not, ne_eq, Decidable.not_not, true_and, and_true, Nat.reduceAdd, Nat.reduceLeDiff, Nat.reduceEqDiff, Nat.le_refl, not_true_eq_false, not_false_eq_true, reduceIte, eq_self, Int.reduceNeg, Int.reduceEq, Int.reduceLT, Int.reduceLE, Nat.zero_le, Nat.one_ne_zero, ev_model, ev_model_arr, t2, t3, q2, q3, decide_true, decide_false, Bool.false_eq_true, if_true, if_false, true_and, and_true, not_true_eq_false, not_false_eq_true, wpE_KL]
                      repeat refine And.intro (by omega) ?_
                      rw [q]; first | trivial | exact ⟨rfl, rfl⟩
                    · rcases q2 with q2 | q2
                      · simp only [wpS_skip, wpS_break, wpS_cont, wpS_retV, wpS_throw, wpS_seq, wpS_if, wpS_trunc, yS_let, yS_inc, kgK_i, kgK_r, kok_nil, kok_i0, kok_is, kok_r0, kok_rs, kok_n0, kok_ns, xS_put, xS_putOp, xS_ast0, xS_ast1, xS_astOp, wpS_E, wpS_call, wpS_callS, wpS_ret, kThen_N, kThen_B, kThen_C, kThen_R, kThen_T, kNext_N, kNext_C, kNext_B, kNext_R, wpE_K, wpE_KL, xE_I, xE_R, wpE_J, xE_bin, wpE_ladd, wpE_i2l, xE_get, xE_ald0, xE_ald1, wpE_if, xE_max, xE_min, wpE_len, wpA_nil, wpA_snoc, xE_call, xE_callS, xC_C, xC_L, xC_Z, wpC_and, wpC_or, wpC_not, wpC_if, kcmp_0, kcmp_1, kcmp_2, kcmp_3, kcmp_4, kcmp_5, rR_inj, kgO_some, kgO_add, kgO_sub, kgO_mul, kgO_div, kgO_rem, kgO_and, kvI_inl, kvJ_inl, kgI_0, kgI_s, kgR_0, kgR_s, kst_nil, kst_0, kst_s, kNLl_nil, kNLl_i, kNLl_r, kNLl_n, ktag_i, ktag_r, List.length_cons, List.length_nil, List.take_succ_cons, List.take_zero, List.take_nil, List.nil_append, List.cons_append, decide_eq_true_eq, Bool.not_eq_true, Bool.not_eq_true', decide_eq_false_iff_not, ne_eq, Decidable.not_not, true_and, and_true, Nat.reduceAdd, Nat.reduceLeDiff, Nat.reduceEqDiff, Nat.le_refl, not_true_eq_false, not_false_eq_true, reduceIte, eq_self, Int.reduceNeg, Int.reduceEq, Int.reduceLT, Int.reduceLE, Nat.zero_le, Nat.one_ne_zero, ev_model, ev_model_arr, t2, t3, q2, decide_true, decide_false, Bool.false_eq_true, if_true, if_false, true_and, and_true, not_true_eq_false, not_false_eq_true, wpE_KL]
                        repeat refine And.intro (by omega) ?_
                        rw [q]; first | trivial | exact ⟨rfl, rfl⟩
                      · by_cases q3 : s1 97 (300 * a + i) = 0
                        · simp only [wpS_skip, wpS_break, wpS_cont, wpS_retV, wpS_throw, wpS_seq, wpS_if, wpS_trunc, yS_let, yS_inc, kgK_i, kgK_r, kok_nil, kok_i0, kok_is, kok_r0, kok_rs, kok_n0, kok_ns, xS_put, xS_putOp, xS_ast0, xS_ast1, xS_astOp, wpS_E, wpS_call, wpS_callS, wpS_ret, kThen_N, kThen_B, kThen_C, kThen_R, kThen_T, kNext_N, kNext_C, kNext_B, kNext_R, wpE_K, wpE_KL, xE_I, xE_R, wpE_J, xE_bin, wpE_ladd, wpE_i2l, xE_get, xE_ald0, xE_ald1, wpE_if, xE_max, xE_min, wpE_len, wpA_nil, wpA_snoc, xE_call, xE_callS, xC_C, xC_L, xC_Z, wpC_and, wpC_or, wpC_not, wpC_if, kcmp_0, kcmp_1, kcmp_2, kcmp_3, kcmp_4, kcmp_5, rR_inj, kgO_some, kgO_add, kgO_sub, kgO_mul, kgO_div, kgO_rem, kgO_and, kvI_inl, kvJ_inl, kgI_0, kgI_s, kgR_0, kgR_s, kst_nil, kst_0, kst_s, kNLl_nil, kNLl_i, kNLl_r, kNLl_n, ktag_i, ktag_r, List.length_cons, List.length_nil, List.take_succ_cons, List.take_zero, List.take_nil, List.nil_append, List.cons_append, decide_eq_true_eq, Bool.not_eq_true, Bool.not_eq_true', decide_eq_false_iff_not, ne_eq, Decidable.not_not, true_and, and_true, Nat.reduceAdd, Nat.reduceLeDiff, Nat.reduceEqDiff, Nat.le_refl, not_true_eq_false, not_false_eq_true, reduceIte, eq_self, Int.reduceNeg, Int.reduceEq, Int.reduceLT, Int.reduceLE, Nat.zero_le, Nat.one_ne_zero, ev_model, ev_model_arr, t2, t3, q3, decide_true, decide_false, Bool.false_eq_true, if_true, if_false, true_and, and_true, not_true_eq_false, not_false_eq_true, wpE_KL]
                          repeat refine And.intro (by omega) ?_
                          rw [q]; first | trivial | exact ⟨rfl, rfl⟩
                        · simp only [wpS_skip, wpS_break, wpS_cont, wpS_retV, wpS_throw, wpS_seq, wpS_if, wpS_trunc, yS_let, yS_inc, kgK_i, kgK_r, kok_nil, kok_i0, kok_is, kok_r0, kok_rs, kok_n0, kok_ns, xS_put, xS_putOp, xS_ast0, xS_ast1, xS_astOp, wpS_E, wpS_call, wpS_callS, wpS_ret, kThen_N, kThen_B, kThen_C, kThen_R, kThen_T, kNext_N, kNext_C, kNext_B, kNext_R, wpE_K, wpE_KL, xE_I, xE_R, wpE_J, xE_bin, wpE_ladd, wpE_i2l, xE_get, xE_ald0, xE_ald1, wpE_if, xE_max, xE_min, wpE_len, wpA_nil, wpA_snoc, xE_call, xE_callS, xC_C, xC_L, xC_Z, wpC_and, wpC_or, wpC_not, wpC_if, kcmp_0, kcmp_1, kcmp_2, kcmp_3, kcmp_4, kcmp_5, rR_inj, kgO_some, kgO_add, kgO_sub, kgO_mul, kgO_div, kgO_rem, kgO_and, kvI_inl, kvJ_inl, kgI_0, kgI_s, kgR_0, kgR_s, kst_nil, kst_0, kst_s, kNLl_nil, kNLl_i, kNLl_r, kNLl_n, ktag_i, ktag_r, List.length_cons, List.length_nil, List.take_succ_cons, List.take_zero, List.take_nil, List.nil_append, List.cons_append, decide_eq_true_eq, Bool.not_eq_true, Bool.not_eq_true', decide_eq_false_iff_not, ne_eq, Decidable.not_not, true_and, and_true, Nat.reduceAdd, Nat.reduceLeDiff, Nat.reduceEqDiff, Nat.le_refl, not_true_eq_false, not_false_eq_true, reduceIte, eq_self, Int.reduceNeg, Int.reduceEq, Int.reduceLT, Int.reduceLE, Nat.zero_le, Nat.one_ne_zero, ev_model, ev_model_arr, t2, t3, q2, q3, decide_true, decide_false, Bool.false_eq_true, if_true, if_false, true_and, and_true, not_true_eq_false, not_false_eq_true, wpE_KL]
                          repeat refine And.intro (by omega) ?_
                          rw [q]; first | trivial | exact ⟨rfl, rfl⟩
                  · refine kStep_N (P := [some (.inr (.inl 14)), some (.inr (.inr (((y + cntP G i : Nat) : Int) + gz))), none, some (.inl (a : Int)), some (.inl (b : Int))]) rfl ⟨rfl, hi, Or.inl hyab, ?_⟩
                    have : ((y + cntP G i : Nat) : Int) + gz = ((y + cntP G (i + 1) : Nat) : Int) := by rw [hcs]; omega
                    rw [this]
              · have e : i = n := by omega
                subst e
                have c3 : ¬ (i : Int) < (i : Int) := by omega
                simp only [wpS_skip, wpS_break, wpS_cont, wpS_retV, wpS_throw, wpS_seq, wpS_if, wpS_trunc, yS_let, yS_inc, kgK_i, kgK_r, kok_nil, kok_i0, kok_is, kok_r0, kok_rs, kok_n0, kok_ns, xS_put, xS_putOp, xS_ast0, xS_ast1, xS_astOp, wpS_E, wpS_call, wpS_callS, wpS_ret, kThen_N, kThen_B, kThen_C, kThen_R, kThen_T, kNext_N, kNext_C, kNext_B, kNext_R, wpE_K, wpE_KL, xE_I, xE_R, wpE_J, xE_bin, wpE_ladd, wpE_i2l, xE_get, xE_ald0, xE_ald1, wpE_if, xE_max, xE_min, wpE_len, wpA_nil, wpA_snoc, xE_call, xE_callS, xC_C, xC_L, xC_Z, wpC_and, wpC_or, wpC_not, wpC_if, kcmp_0, kcmp_1, kcmp_2, kcmp_3, kcmp_4, kcmp_5, rR_inj, kgO_some, kgO_add, kgO_sub, kgO_mul, kgO_div, kgO_rem, kgO_and, kvI_inl, kvJ_inl, kgI_0, kgI_s, kgR_0, kgR_s, kst_nil, kst_0, kst_s, kNLl_nil, kNLl_i, kNLl_r, kNLl_n, ktag_i, ktag_r, List.length_cons, List.length_nil, List.take_succ_cons, List.take_zero, List.take_nil, List.nil_append, List.cons_append, decide_eq_true_eq, Bool.not_eq_true, Bool.not_eq_true', decide_eq_false_iff_not, ne_eq, Decidable.not_not, true_and, and_true, Nat.reduceAdd, Nat.reduceLeDiff, Nat.reduceEqDiff, Nat.le_refl, not_true_eq_false, not_false_eq_true, reduceIte, eq_self, Int.reduceNeg, Int.reduceEq, Int.reduceLT, Int.reduceLE, Nat.zero_le, Nat.one_ne_zero, ev_model, n1, c3, decide_true, decide_false, Bool.false_eq_true, if_true, if_false, true_and, and_true, not_true_eq_false, not_false_eq_true]
                rw [hQ7]
                refine ⟨rfl, Or.inr ⟨rfl, next _ ?_⟩⟩
                by_cases hab : N a b
                · rw [hFb, iteP_pos hab]
                · rw [hFb, iteP_neg hab]
                  have e0 : i = b + 1 := hor.elim (fun q => absurd q hab) id
                  rw [e0]
                  exact cntP_zero (fun k hk q => by rw [hGG] at q; have := q.1; omega)
          · have e : b = n := by omega
            subst e
            have c2 : ¬ (b : Int) < (b : Int) := by omega
            simp only [wpS_skip, wpS_break, wpS_cont, wpS_retV, wpS_throw, wpS_seq, wpS_if, wpS_trunc, yS_let, yS_inc, kgK_i, kgK_r, kok_nil, kok_i0, kok_is, kok_r0, kok_rs, kok_n0, kok_ns, xS_put, xS_putOp, xS_ast0, xS_ast1, xS_astOp, wpS_E, wpS_call, wpS_callS, wpS_ret, kThen_N, kThen_B, kThen_C, kThen_R, kThen_T, kNext_N, kNext_C, kNext_B, kNext_R, wpE_K, wpE_KL, xE_I, xE_R, wpE_J, xE_bin, wpE_ladd, wpE_i2l, xE_get, xE_ald0, xE_ald1, wpE_if, xE_max, xE_min, wpE_len, wpA_nil, wpA_snoc, xE_call, xE_callS, xC_C, xC_L, xC_Z, wpC_and, wpC_or, wpC_not, wpC_if, kcmp_0, kcmp_1, kcmp_2, kcmp_3, kcmp_4, kcmp_5, rR_inj, kgO_some, kgO_add, kgO_sub, kgO_mul, kgO_div, kgO_rem, kgO_and, kvI_inl, kvJ_inl, kgI_0, kgI_s, kgR_0, kgR_s, kst_nil, kst_0, kst_s, kNLl_nil, kNLl_i, kNLl_r, kNLl_n, ktag_i, ktag_r, List.length_cons, List.length_nil, List.take_succ_cons, List.take_zero, List.take_nil, List.nil_append, List.cons_append, decide_eq_true_eq, Bool.not_eq_true, Bool.not_eq_true', decide_eq_false_iff_not, ne_eq, Decidable.not_not, true_and, and_true, Nat.reduceAdd, Nat.reduceLeDiff, Nat.reduceEqDiff, Nat.le_refl, not_true_eq_false, not_false_eq_true, reduceIte, eq_self, Int.reduceNeg, Int.reduceEq, Int.reduceLT, Int.reduceLE, Nat.zero_le, Nat.one_ne_zero, ev_model, n1, c2, decide_true, decide_false, Bool.false_eq_true, if_true, if_false, true_and, and_true, not_true_eq_false, not_false_eq_true]
            rw [hQ5]
            refine ⟨rfl, Or.inr ⟨rfl, ?_⟩⟩
            rw [hQ4]
            refine kStep_N (P := [some (.inr (.inl 14)), some (.inr (.inr (y : Int))), none]) rfl ⟨rfl, ha, ?_⟩
            have : y = sumR (fun a => sumR (F a) b) (a + 1) := by show y = sumR (fun a => sumR (F a) b) a + sumR (F a) b; omega
            rw [this]
      · have e : a = n := by omega
        subst e
        have c1 : ¬ (a : Int) < (a : Int) := by omega
        simp only [wpS_skip, wpS_break, wpS_cont, wpS_retV, wpS_throw, wpS_seq, wpS_if, wpS_trunc, yS_let, yS_inc, kgK_i, kgK_r, kok_nil, kok_i0, kok_is, kok_r0, kok_rs, kok_n0, kok_ns, xS_put, xS_putOp, xS_ast0, xS_ast1, xS_astOp, wpS_E, wpS_call, wpS_callS, wpS_ret, kThen_N, kThen_B, kThen_C, kThen_R, kThen_T, kNext_N, kNext_C, kNext_B, kNext_R, wpE_K, wpE_KL, xE_I, xE_R, wpE_J, xE_bin, wpE_ladd, wpE_i2l, xE_get, xE_ald0, xE_ald1, wpE_if, xE_max, xE_min, wpE_len, wpA_nil, wpA_snoc, xE_call, xE_callS, xC_C, xC_L, xC_Z, wpC_and, wpC_or, wpC_not, wpC_if, kcmp_0, kcmp_1, kcmp_2, kcmp_3, kcmp_4, kcmp_5, rR_inj, kgO_some, kgO_add, kgO_sub, kgO_mul, kgO_div, kgO_rem, kgO_and, kvI_inl, kvJ_inl, kgI_0, kgI_s, kgR_0, kgR_s, kst_nil, kst_0, kst_s, kNLl_nil, kNLl_i, kNLl_r, kNLl_n, ktag_i, ktag_r, List.length_cons, List.length_nil, List.take_succ_cons, List.take_zero, List.take_nil, List.nil_append, List.cons_append, decide_eq_true_eq, Bool.not_eq_true, Bool.not_eq_true', decide_eq_false_iff_not, ne_eq, Decidable.not_not, true_and, and_true, Nat.reduceAdd, Nat.reduceLeDiff, Nat.reduceEqDiff, Nat.le_refl, not_true_eq_false, not_false_eq_true, reduceIte, eq_self, Int.reduceNeg, Int.reduceEq, Int.reduceLT, Int.reduceLE, Nat.zero_le, Nat.one_ne_zero, ev_model, n1, c1, decide_true, decide_false, Bool.false_eq_true, if_true, if_false, true_and, and_true, not_true_eq_false, not_false_eq_true]
        rw [hQ3]
        refine ⟨rfl, Or.inr ⟨rfl, ?_⟩⟩
        rw [hQ2]
        refine kThen_N.mpr ?_
        rw [wpS_ret, wpE_J]
        refine ⟨_, rfl, rfl, _, rfl, rfl, fun o k ho => by unfold mSc at ho; exact k1 o k (by omega) (by omega), ?_⟩
        rw [hz, hF]; rfl
  rw [wpS_let, wpE_KL]
  exact ⟨rfl, _, rfl, go⟩
end TH
