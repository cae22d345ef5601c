/-! THE REFERENCE'S RING -/
def rgM (s : kS) (len : Nat) (rg : Nat → Nat) : Prop := s 14 14 = (len : Int) ∧ ∀ k, k < len → s 80 k = (rg k : Int)
theorem mdTellRing_ok {σ : kS} {n c ar a b : Nat} {li fs sn lv : Nat → Nat} {tr lo : Nat → Int} (hG : gOk n c ar li fs sn) (hM : RM σ n c ar li fs sn lv tr lo) (ha : a < n) (hb : b < n)
    (hr : a ≠ b → rch (dE (fun y => th c li y ∧ lo y = 0) fs sn) b a) :
    wpF F_Md_tellRing [.inr (.inl 14), .inl (a : Int), .inl (b : Int)] σ (fun r s => r = none ∧ (∀ o k, o ≠ 80 → (o ≠ 14 ∨ k ≠ 14) → ¬ mSc o k → s o k = σ o k) ∧
      ((a = b ∧ rgM s 0 (fun _ => 0)) ∨ (a ≠ b ∧ ∃ len rg, RingOf (fun y => th c li y ∧ lo y = 0) fs sn a b len rg ∧ rgM s len rg))) := by
  have hn3 := hG.1
  have hc9 := hG.2.1
  obtain ⟨w1, w2, w3, w4, w5, w6, w7, w8, w9, w10⟩ := id hM
  obtain ⟨O, hO⟩ : ∃ O : Nat → Prop, O = fun y => th c li y ∧ lo y = 0 := ⟨_, rfl⟩
  rw [← hO] at hr ⊢
  unfold F_Md_tellRing
  rw [wpF_kF]
  refine ⟨rfl, rfl, ?_⟩
  unfold s_Md_tellRing
  simp only [List.map_cons, List.map_nil]
  refine wpS_seq' (fun Q0 hQ0 => ?_)
  refine wpS_seq' (fun Q101 hQ101 => ?_)
  simp only [wpS_skip, wpS_break, wpS_cont, wpS_retV, wpS_throw, wpS_seq, wpS_if, wpS_trunc, yS_let, yS_inc, kgK_i, kgK_r, kok_nil, kok_i0, kok_is, kok_r0, kok_rs, kok_n0, kok_ns, xS_put, xS_putOp, xS_ast0, xS_ast1, xS_astOp, wpS_E, wpS_call, wpS_callS, wpS_ret, kThen_N, kThen_B, kThen_C, kThen_R, kThen_T, kNext_N, kNext_C, kNext_B, kNext_R, wpE_K, wpE_KL, xE_I, xE_R, wpE_J, xE_bin, wpE_ladd, wpE_i2l, xE_get, xE_ald0, xE_ald1, wpE_if, xE_max, xE_min, wpE_len, wpA_nil, wpA_snoc, xE_call, xE_callS, xC_C, xC_L, xC_Z, wpC_and, wpC_or, wpC_not, wpC_if, kcmp_0, kcmp_1, kcmp_2, kcmp_3, kcmp_4, kcmp_5, rR_inj, kgO_some, kgO_add, kgO_sub, kgO_mul, kgO_div, kgO_rem, kgO_and, kvI_inl, kvJ_inl, kgI_0, kgI_s, kgR_0, kgR_s, kst_nil, kst_0, kst_s, kNLl_nil, kNLl_i, kNLl_r, kNLl_n, ktag_i, ktag_r, List.length_cons, List.length_nil, List.take_succ_cons, List.take_zero, List.take_nil, List.nil_append, List.cons_append, decide_eq_true_eq, Bool.not_eq_true, Bool.not_eq_true', decide_eq_false_iff_not, ne_eq, Decidable.not_not, true_and, and_true, Nat.reduceAdd, Nat.reduceLeDiff, Nat.reduceEqDiff, Nat.le_refl, not_true_eq_false, not_false_eq_true, reduceIte, eq_self, Int.reduceNeg, Int.reduceEq, Int.reduceLT, Int.reduceLE, Nat.zero_le, Nat.one_ne_zero, ev_model]
  repeat refine And.intro (by omega) ?_
  rw [hQ101]
  clear hQ101 Q101
  refine kThen_N.mpr ?_
  obtain ⟨s1, hs1⟩ : ∃ s1, s1 = kup σ 14 14 0 := ⟨_, rfl⟩
  rw [← hs1]
  have m1 : ∀ o k, (o ≠ 14 ∨ k ≠ 14) → s1 o k = σ o k := by intro o k h; rw [hs1]; unfold kup; rw [if_neg (fun q => h.elim (fun w => w q.1) (fun w => w q.2))]
  have m2 : s1 14 14 = 0 := by rw [hs1]; simp [kup]
  by_cases hab : a = b
  · have c1 : (a : Int) = (b : Int) := by omega
    refine wpS_seq' (fun Q102 hQ102 => ?_)
    simp only [wpS_skip, wpS_break, wpS_cont, wpS_retV, wpS_throw, wpS_seq, wpS_if, wpS_trunc, yS_let, yS_inc, kgK_i, kgK_r, kok_nil, kok_i0, kok_is, kok_r0, kok_rs, kok_n0, kok_ns, xS_put, xS_putOp, xS_ast0, xS_ast1, xS_astOp, wpS_E, wpS_call, wpS_callS, wpS_ret, kThen_N, kThen_B, kThen_C, kThen_R, kThen_T, kNext_N, kNext_C, kNext_B, kNext_R, wpE_K, wpE_KL, xE_I, xE_R, wpE_J, xE_bin, wpE_ladd, wpE_i2l, xE_get, xE_ald0, xE_ald1, wpE_if, xE_max, xE_min, wpE_len, wpA_nil, wpA_snoc, xE_call, xE_callS, xC_C, xC_L, xC_Z, wpC_and, wpC_or, wpC_not, wpC_if, kcmp_0, kcmp_1, kcmp_2, kcmp_3, kcmp_4, kcmp_5, rR_inj, kgO_some, kgO_add, kgO_sub, kgO_mul, kgO_div, kgO_rem, kgO_and, kvI_inl, kvJ_inl, kgI_0, kgI_s, kgR_0, kgR_s, kst_nil, kst_0, kst_s, kNLl_nil, kNLl_i, kNLl_r, kNLl_n, ktag_i, ktag_r, List.length_cons, List.length_nil, List.take_succ_cons, List.take_zero, List.take_nil, List.nil_append, List.cons_append, decide_eq_true_eq, Bool.not_eq_true, Bool.not_eq_true', decide_eq_false_iff_not, ne_eq, Decidable.not_not, true_and, and_true, Nat.reduceAdd, Nat.reduceLeDiff, Nat.reduceEqDiff, Nat.le_refl, not_true_eq_false, not_false_eq_true, reduceIte, eq_self, Int.reduceNeg, Int.reduceEq, Int.reduceLT, Int.reduceLE, Nat.zero_le, Nat.one_ne_zero, c1, decide_true, decide_false, Bool.false_eq_true, if_true, if_false, true_and, and_true, not_true_eq_false, not_false_eq_true]
    rw [hQ102, hQ0]
    exact kThen_R.mpr (kThen_R.mpr ⟨none, rfl, rfl, rfl, fun o k o1 o2 o3 => m1 o k o2, Or.inl ⟨hab, m2, fun k hk => by omega⟩⟩)
  · have c1 : ¬ (a : Int) = (b : Int) := by omega
    refine wpS_seq' (fun Q103 hQ103 => ?_)
    simp only [wpS_skip, wpS_break, wpS_cont, wpS_retV, wpS_throw, wpS_seq, wpS_if, wpS_trunc, yS_let, yS_inc, kgK_i, kgK_r, kok_nil, kok_i0, kok_is, kok_r0, kok_rs, kok_n0, kok_ns, xS_put, xS_putOp, xS_ast0, xS_ast1, xS_astOp, wpS_E, wpS_call, wpS_callS, wpS_ret, kThen_N, kThen_B, kThen_C, kThen_R, kThen_T, kNext_N, kNext_C, kNext_B, kNext_R, wpE_K, wpE_KL, xE_I, xE_R, wpE_J, xE_bin, wpE_ladd, wpE_i2l, xE_get, xE_ald0, xE_ald1, wpE_if, xE_max, xE_min, wpE_len, wpA_nil, wpA_snoc, xE_call, xE_callS, xC_C, xC_L, xC_Z, wpC_and, wpC_or, wpC_not, wpC_if, kcmp_0, kcmp_1, kcmp_2, kcmp_3, kcmp_4, kcmp_5, rR_inj, kgO_some, kgO_add, kgO_sub, kgO_mul, kgO_div, kgO_rem, kgO_and, kvI_inl, kvJ_inl, kgI_0, kgI_s, kgR_0, kgR_s, kst_nil, kst_0, kst_s, kNLl_nil, kNLl_i, kNLl_r, kNLl_n, ktag_i, ktag_r, List.length_cons, List.length_nil, List.take_succ_cons, List.take_zero, List.take_nil, List.nil_append, List.cons_append, decide_eq_true_eq, Bool.not_eq_true, Bool.not_eq_true', decide_eq_false_iff_not, ne_eq, Decidable.not_not, true_and, and_true, Nat.reduceAdd, Nat.reduceLeDiff, Nat.reduceEqDiff, Nat.le_refl, not_true_eq_false, not_false_eq_true, reduceIte, eq_self, Int.reduceNeg, Int.reduceEq, Int.reduceLT, Int.reduceLE, Nat.zero_le, Nat.one_ne_zero, c1, decide_true, decide_false, Bool.false_eq_true, if_true, if_false, true_and, and_true, not_true_eq_false, not_false_eq_true]
    rw [hQ103]
    clear hQ103
    refine kThen_N.mpr ?_
    have M1 : RM s1 n c ar li fs sn lv tr lo := hM.agree (fun o k ho => m1 o k (by omega))
    have hE5 : mE s1 c li fs sn 5 0 (-1) = bwE O fs sn := by rw [mE_back M1, hO]; rfl
    have hback : rch (bwE O fs sn) a b := (hr hab).flip
    obtain ⟨len, hlen⟩ := hback.ds
    refine wpS_seq' (fun Q104 hQ104 => ?_)
    simp only [wpS_skip, wpS_break, wpS_cont, wpS_retV, wpS_throw, wpS_seq, wpS_if, wpS_trunc, yS_let, yS_inc, kgK_i, kgK_r, kok_nil, kok_i0, kok_is, kok_r0, kok_rs, kok_n0, kok_ns, xS_put, xS_putOp, xS_ast0, xS_ast1, xS_astOp, wpS_E, wpS_call, wpS_callS, wpS_ret, kThen_N, kThen_B, kThen_C, kThen_R, kThen_T, kNext_N, kNext_C, kNext_B, kNext_R, wpE_K, wpE_KL, xE_I, xE_R, wpE_J, xE_bin, wpE_ladd, wpE_i2l, xE_get, xE_ald0, xE_ald1, wpE_if, xE_max, xE_min, wpE_len, wpA_nil, wpA_snoc, xE_call, xE_callS, xC_C, xC_L, xC_Z, wpC_and, wpC_or, wpC_not, wpC_if, kcmp_0, kcmp_1, kcmp_2, kcmp_3, kcmp_4, kcmp_5, rR_inj, kgO_some, kgO_add, kgO_sub, kgO_mul, kgO_div, kgO_rem, kgO_and, kvI_inl, kvJ_inl, kgI_0, kgI_s, kgR_0, kgR_s, kst_nil, kst_0, kst_s, kNLl_nil, kNLl_i, kNLl_r, kNLl_n, ktag_i, ktag_r, List.length_cons, List.length_nil, List.take_succ_cons, List.take_zero, List.take_nil, List.nil_append, List.cons_append, decide_eq_true_eq, Bool.not_eq_true, Bool.not_eq_true', decide_eq_false_iff_not, ne_eq, Decidable.not_not, true_and, and_true, Nat.reduceAdd, Nat.reduceLeDiff, Nat.reduceEqDiff, Nat.le_refl, not_true_eq_false, not_false_eq_true, reduceIte, eq_self, Int.reduceNeg, Int.reduceEq, Int.reduceLT, Int.reduceLE, Nat.zero_le, Nat.one_ne_zero, ev_model]
    refine (walkSee_ok hG (M1.Mg hG) ha hE5).mono ?_
    rintro r s2 ⟨rfl, k1, ⟨a1, -, a3, a4⟩, -⟩
    refine ⟨rfl, ?_⟩
    rw [hQ104]
    clear hQ104
    refine kThen_N.mpr ?_
    have K1 := k1.sK
    have M2 := M1.keep K1
    have hln := ds_lt hlen a4
    refine wpS_seq' (fun Q105 hQ105 => ?_)
    simp only [wpS_skip, wpS_break, wpS_cont, wpS_retV, wpS_throw, wpS_seq, wpS_if, wpS_trunc, yS_let, yS_inc, kgK_i, kgK_r, kok_nil, kok_i0, kok_is, kok_r0, kok_rs, kok_n0, kok_ns, xS_put, xS_putOp, xS_ast0, xS_ast1, xS_astOp, wpS_E, wpS_call, wpS_callS, wpS_ret, kThen_N, kThen_B, kThen_C, kThen_R, kThen_T, kNext_N, kNext_C, kNext_B, kNext_R, wpE_K, wpE_KL, xE_I, xE_R, wpE_J, xE_bin, wpE_ladd, wpE_i2l, xE_get, xE_ald0, xE_ald1, wpE_if, xE_max, xE_min, wpE_len, wpA_nil, wpA_snoc, xE_call, xE_callS, xC_C, xC_L, xC_Z, wpC_and, wpC_or, wpC_not, wpC_if, kcmp_0, kcmp_1, kcmp_2, kcmp_3, kcmp_4, kcmp_5, rR_inj, kgO_some, kgO_add, kgO_sub, kgO_mul, kgO_div, kgO_rem, kgO_and, kvI_inl, kvJ_inl, kgI_0, kgI_s, kgR_0, kgR_s, kst_nil, kst_0, kst_s, kNLl_nil, kNLl_i, kNLl_r, kNLl_n, ktag_i, ktag_r, List.length_cons, List.length_nil, List.take_succ_cons, List.take_zero, List.take_nil, List.nil_append, List.cons_append, decide_eq_true_eq, Bool.not_eq_true, Bool.not_eq_true', decide_eq_false_iff_not, ne_eq, Decidable.not_not, true_and, and_true, Nat.reduceAdd, Nat.reduceLeDiff, Nat.reduceEqDiff, Nat.le_refl, not_true_eq_false, not_false_eq_true, reduceIte, eq_self, Int.reduceNeg, Int.reduceEq, Int.reduceLT, Int.reduceLE, Nat.zero_le, Nat.one_ne_zero]
    repeat refine And.intro (by omega) ?_
    rw [hQ105]
    clear hQ105 Q105
    refine kThen_N.mpr ?_
    refine wpS_gen (fun Q2 hQ2 => ?_)
    unfold l_Md_tellRing_2
    refine wpS_for (fun m L s => ∃ (j v : Nat) (rg vs : Nat → Nat), m = len - j ∧ j ≤ len ∧ L = [some (.inr (.inl 14)), some (.inl (a : Int)), some (.inl (b : Int)), some (.inl (v : Int))] ∧ (∀ o k, o ≠ 80 → (o ≠ 14 ∨ k ≠ 14) → s o k = s2 o k) ∧ rgM s j rg ∧ ds (bwE O fs sn) a v (len - j) ∧ vs 0 = b ∧ vs j = v ∧ ∀ k, k < j → isNx O fs sn a (vs k) (rg k) ∧ vs (k + 1) = sn (rg k)) ?_ len _ _ ?_
    · rintro m L s ⟨j, v, rg, vs, rfl, hj, rfl, S1, ⟨S2, S3⟩, S4, S5, S6, S7⟩
      have hvn := a4 v S4.rch
      refine wpC_gen (fun Q3 hQ3 => ?_)
      by_cases hva : v = a
      · have c2 : (v : Int) = (a : Int) := by omega
        simp only [wpS_skip, wpS_break, wpS_cont, wpS_retV, wpS_throw, wpS_seq, wpS_if, wpS_trunc, yS_let, yS_inc, kgK_i, kgK_r, kok_nil, kok_i0, kok_is, kok_r0, kok_rs, kok_n0, kok_ns, xS_put, xS_putOp, xS_ast0, xS_ast1, xS_astOp, wpS_E, wpS_call, wpS_callS, wpS_ret, kThen_N, kThen_B, kThen_C, kThen_R, kThen_T, kNext_N, kNext_C, kNext_B, kNext_R, wpE_K, wpE_KL, xE_I, xE_R, wpE_J, xE_bin, wpE_ladd, wpE_i2l, xE_get, xE_ald0, xE_ald1, wpE_if, xE_max, xE_min, wpE_len, wpA_nil, wpA_snoc, xE_call, xE_callS, xC_C, xC_L, xC_Z, wpC_and, wpC_or, wpC_not, wpC_if, kcmp_0, kcmp_1, kcmp_2, kcmp_3, kcmp_4, kcmp_5, rR_inj, kgO_some, kgO_add, kgO_sub, kgO_mul, kgO_div, kgO_rem, kgO_and, kvI_inl, kvJ_inl, kgI_0, kgI_s, kgR_0, kgR_s, kst_nil, kst_0, kst_s, kNLl_nil, kNLl_i, kNLl_r, kNLl_n, ktag_i, ktag_r, List.length_cons, List.length_nil, List.take_succ_cons, List.take_zero, List.take_nil, List.nil_append, List.cons_append, decide_eq_true_eq, Bool.not_eq_true, Bool.not_eq_true', decide_eq_false_iff_not, ne_eq, Decidable.not_not, true_and, and_true, Nat.reduceAdd, Nat.reduceLeDiff, Nat.reduceEqDiff, Nat.le_refl, not_true_eq_false, not_false_eq_true, reduceIte, eq_self, Int.reduceNeg, Int.reduceEq, Int.reduceLT, Int.reduceLE, Nat.zero_le, Nat.one_ne_zero, c2, decide_true, decide_false, Bool.false_eq_true, if_true, if_false, true_and, and_true, not_true_eq_false, not_false_eq_true]
        rw [hQ3]
        refine (if_neg (by decide)).mpr ?_
        have e0 : len - j = 0 := by rw [hva] at S4; exact S4.uniq (ds_zero a)
        have ej : j = len := by omega
        subst ej
        rw [← c2, hQ2, hQ0]
        refine kThen_N.mpr (wpS_retV.mpr ⟨none, rfl, rfl, rfl, fun o k o1 o2 o3 => by rw [S1 o k o1 o2, K1 o k o3, m1 o k o2], Or.inr ⟨hab, j, rg, ⟨hlen, vs, S5, S7⟩, S2, S3⟩⟩)
      · have c2 : ¬ (v : Int) = (a : Int) := by omega
        simp only [wpS_skip, wpS_break, wpS_cont, wpS_retV, wpS_throw, wpS_seq, wpS_if, wpS_trunc, yS_let, yS_inc, kgK_i, kgK_r, kok_nil, kok_i0, kok_is, kok_r0, kok_rs, kok_n0, kok_ns, xS_put, xS_putOp, xS_ast0, xS_ast1, xS_astOp, wpS_E, wpS_call, wpS_callS, wpS_ret, kThen_N, kThen_B, kThen_C, kThen_R, kThen_T, kNext_N, kNext_C, kNext_B, kNext_R, wpE_K, wpE_KL, xE_I, xE_R, wpE_J, xE_bin, wpE_ladd, wpE_i2l, xE_get, xE_ald0, xE_ald1, wpE_if, xE_max, xE_min, wpE_len, wpA_nil, wpA_snoc, xE_call, xE_callS, xC_C, xC_L, xC_Z, wpC_and, wpC_or, wpC_not, wpC_if, kcmp_0, kcmp_1, kcmp_2, kcmp_3, kcmp_4, kcmp_5, rR_inj, kgO_some, kgO_add, kgO_sub, kgO_mul, kgO_div, kgO_rem, kgO_and, kvI_inl, kvJ_inl, kgI_0, kgI_s, kgR_0, kgR_s, kst_nil, kst_0, kst_s, kNLl_nil, kNLl_i, kNLl_r, kNLl_n, ktag_i, ktag_r, List.length_cons, List.length_nil, List.take_succ_cons, List.take_zero, List.take_nil, List.nil_append, List.cons_append, decide_eq_true_eq, Bool.not_eq_true, Bool.not_eq_true', decide_eq_false_iff_not, ne_eq, Decidable.not_not, true_and, and_true, Nat.reduceAdd, Nat.reduceLeDiff, Nat.reduceEqDiff, Nat.le_refl, not_true_eq_false, not_false_eq_true, reduceIte, eq_self, Int.reduceNeg, Int.reduceEq, Int.reduceLT, Int.reduceLE, Nat.zero_le, Nat.one_ne_zero, c2, decide_true, decide_false, Bool.false_eq_true, if_true, if_false, true_and, and_true, not_true_eq_false, not_false_eq_true]
        rw [hQ3]
        refine (if_pos rfl).mpr ?_
        obtain ⟨d, hd⟩ : ∃ d, len - j = d + 1 := by
          rcases Nat.eq_zero_or_pos (len - j) with z | z
          · rw [z] at S4; exact absurd S4.eq_zero.symm hva
          · exact ⟨len - j - 1, by omega⟩
        rw [hd] at S4 ⊢
        have Ms : RM s n c ar li fs sn lv tr lo := M2.agree (fun o k ho => S1 o k (by omega) (by omega))
        have e88v : s 88 v = (d + 1 : Nat) := by rw [S1 _ _ (by decide) (by omega)]; exact a3 v _ S4
        have far : ∀ x, th c li x → (s 85 (sn x) ≠ 0 ∧ s 88 (sn x) = (d : Int) ↔ ds (bwE O fs sn) a (sn x) d) := by
          intro x hx
          have hsx := (th_lt hG hx).2.2.2
          rw [S1 _ _ (by decide) (by omega), S1 _ _ (by decide) (by omega)]
          obtain ⟨z1, z2⟩ := a1 _ hsx
          constructor
          · rintro ⟨q1, q2⟩
            obtain ⟨d', hd'⟩ := (z2.mp (by omega)).ds
            have := a3 _ _ hd'
            have e : d' = d := by omega
            rw [← e]; exact hd'
          · intro q
            have := z2.mpr q.rch
            exact ⟨by omega, a3 _ _ q⟩
        have nr : ∀ x, th c li x → (nrr O fs sn a v x ↔ (lo x = 0 ∧ fs x = v ∧ s 85 (sn x) ≠ 0 ∧ s 88 (sn x) = (d : Int))) := by
          intro x hx
          rw [far x hx]
          constructor
          · rintro ⟨q1, q2, d', q3, q4⟩
            rw [hO] at q1
            have := q4.uniq S4
            have e : d' = d := by omega
            exact ⟨q1.2, q2, by rw [← e]; exact q3⟩
          · rintro ⟨q1, q2, q3⟩
            exact ⟨by rw [hO]; exact ⟨hx, q1⟩, q2, d, q3, S4⟩
        rw [wpS_trunc]
        refine wpS_seq' (fun Q106 hQ106 => ?_)
        simp only [wpS_skip, wpS_break, wpS_cont, wpS_retV, wpS_throw, wpS_seq, wpS_if, wpS_trunc, yS_let, yS_inc, kgK_i, kgK_r, kok_nil, kok_i0, kok_is, kok_r0, kok_rs, kok_n0, kok_ns, xS_put, xS_putOp, xS_ast0, xS_ast1, xS_astOp, wpS_E, wpS_call, wpS_callS, wpS_ret, kThen_N, kThen_B, kThen_C, kThen_R, kThen_T, kNext_N, kNext_C, kNext_B, kNext_R, wpE_K, wpE_KL, xE_I, xE_R, wpE_J, xE_bin, wpE_ladd, wpE_i2l, xE_get, xE_ald0, xE_ald1, wpE_if, xE_max, xE_min, wpE_len, wpA_nil, wpA_snoc, xE_call, xE_callS, xC_C, xC_L, xC_Z, wpC_and, wpC_or, wpC_not, wpC_if, kcmp_0, kcmp_1, kcmp_2, kcmp_3, kcmp_4, kcmp_5, rR_inj, kgO_some, kgO_add, kgO_sub, kgO_mul, kgO_div, kgO_rem, kgO_and, kvI_inl, kvJ_inl, kgI_0, kgI_s, kgR_0, kgR_s, kst_nil, kst_0, kst_s, kNLl_nil, kNLl_i, kNLl_r, kNLl_n, ktag_i, ktag_r, List.length_cons, List.length_nil, List.take_succ_cons, List.take_zero, List.take_nil, List.nil_append, List.cons_append, decide_eq_true_eq, Bool.not_eq_true, Bool.not_eq_true', decide_eq_false_iff_not, ne_eq, Decidable.not_not, true_and, and_true, Nat.reduceAdd, Nat.reduceLeDiff, Nat.reduceEqDiff, Nat.le_refl, not_true_eq_false, not_false_eq_true, reduceIte, eq_self, Int.reduceNeg, Int.reduceEq, Int.reduceLT, Int.reduceLE, Nat.zero_le, Nat.one_ne_zero]
        repeat refine And.intro (by omega) ?_
        rw [hQ106]
        clear hQ106 Q106
        refine kThen_N.mpr ?_
        refine wpS_seq' (fun Q4 hQ4 => ?_)
        unfold l_Md_tellRing_1
        have after : ∀ x : Nat, isNx O fs sn a v x → Q4 rN [some (.inr (.inl 14)), some (.inl (a : Int)), some (.inl (b : Int)), some (.inl (v : Int)), some (.inl (x : Int))] s := by
          intro x hx
          have hxt : th c li x := by have := hx.1.1; rw [hO] at this; exact this.1
          obtain ⟨x1, x2, x3, x4⟩ := th_lt hG hxt
          rw [hQ4]
          refine kThen_N.mpr ?_
          refine wpS_seq' (fun Q107 hQ107 => ?_)
          simp only [wpS_skip, wpS_break, wpS_cont, wpS_retV, wpS_throw, wpS_seq, wpS_if, wpS_trunc, yS_let, yS_inc, kgK_i, kgK_r, kok_nil, kok_i0, kok_is, kok_r0, kok_rs, kok_n0, kok_ns, xS_put, xS_putOp, xS_ast0, xS_ast1, xS_astOp, wpS_E, wpS_call, wpS_callS, wpS_ret, kThen_N, kThen_B, kThen_C, kThen_R, kThen_T, kNext_N, kNext_C, kNext_B, kNext_R, wpE_K, wpE_KL, xE_I, xE_R, wpE_J, xE_bin, wpE_ladd, wpE_i2l, xE_get, xE_ald0, xE_ald1, wpE_if, xE_max, xE_min, wpE_len, wpA_nil, wpA_snoc, xE_call, xE_callS, xC_C, xC_L, xC_Z, wpC_and, wpC_or, wpC_not, wpC_if, kcmp_0, kcmp_1, kcmp_2, kcmp_3, kcmp_4, kcmp_5, rR_inj, kgO_some, kgO_add, kgO_sub, kgO_mul, kgO_div, kgO_rem, kgO_and, kvI_inl, kvJ_inl, kgI_0, kgI_s, kgR_0, kgR_s, kst_nil, kst_0, kst_s, kNLl_nil, kNLl_i, kNLl_r, kNLl_n, ktag_i, ktag_r, List.length_cons, List.length_nil, List.take_succ_cons, List.take_zero, List.take_nil, List.nil_append, List.cons_append, decide_eq_true_eq, Bool.not_eq_true, Bool.not_eq_true', decide_eq_false_iff_not, ne_eq, Decidable.not_not, true_and, and_true, Nat.reduceAdd, Nat.reduceLeDiff, Nat.reduceEqDiff, Nat.le_refl, not_true_eq_false, not_false_eq_true, reduceIte, eq_self, Int.reduceNeg, Int.reduceEq, Int.reduceLT, Int.reduceLE, Nat.zero_le, Nat.one_ne_zero, ev_model, ev_model_arr, S2, Int.toNat_natCast]
          repeat refine And.intro (by omega) ?_
          rw [hQ107]
          clear hQ107 Q107
          refine kThen_N.mpr ?_
          have g14 : kup s 80 j (x : Int) 14 14 = j := by rw [kup_ne (by decide)]; exact S2
          refine wpS_seq' (fun Q108 hQ108 => ?_)
          simp only [wpS_skip, wpS_break, wpS_cont, wpS_retV, wpS_throw, wpS_seq, wpS_if, wpS_trunc, yS_let, yS_inc, kgK_i, kgK_r, kok_nil, kok_i0, kok_is, kok_r0, kok_rs, kok_n0, kok_ns, xS_put, xS_putOp, xS_ast0, xS_ast1, xS_astOp, wpS_E, wpS_call, wpS_callS, wpS_ret, kThen_N, kThen_B, kThen_C, kThen_R, kThen_T, kNext_N, kNext_C, kNext_B, kNext_R, wpE_K, wpE_KL, xE_I, xE_R, wpE_J, xE_bin, wpE_ladd, wpE_i2l, xE_get, xE_ald0, xE_ald1, wpE_if, xE_max, xE_min, wpE_len, wpA_nil, wpA_snoc, xE_call, xE_callS, xC_C, xC_L, xC_Z, wpC_and, wpC_or, wpC_not, wpC_if, kcmp_0, kcmp_1, kcmp_2, kcmp_3, kcmp_4, kcmp_5, rR_inj, kgO_some, kgO_add, kgO_sub, kgO_mul, kgO_div, kgO_rem, kgO_and, kvI_inl, kvJ_inl, kgI_0, kgI_s, kgR_0, kgR_s, kst_nil, kst_0, kst_s, kNLl_nil, kNLl_i, kNLl_r, kNLl_n, ktag_i, ktag_r, List.length_cons, List.length_nil, List.take_succ_cons, List.take_zero, List.take_nil, List.nil_append, List.cons_append, decide_eq_true_eq, Bool.not_eq_true, Bool.not_eq_true', decide_eq_false_iff_not, ne_eq, Decidable.not_not, true_and, and_true, Nat.reduceAdd, Nat.reduceLeDiff, Nat.reduceEqDiff, Nat.le_refl, not_true_eq_false, not_false_eq_true, reduceIte, eq_self, Int.reduceNeg, Int.reduceEq, Int.reduceLT, Int.reduceLE, Nat.zero_le, Nat.one_ne_zero, ev_model, g14]
          repeat refine And.intro (by omega) ?_
          rw [hQ108]
          clear hQ108 Q108
          refine kThen_N.mpr ?_
          obtain ⟨s5, hs5⟩ : ∃ s5, s5 = kup (kup s 80 j (x : Int)) 14 14 ((j : Int) + 1) := ⟨_, rfl⟩
          rw [← hs5]
          have n1 : ∀ o k, o ≠ 80 → (o ≠ 14 ∨ k ≠ 14) → s5 o k = s o k := by
            intro o k o1 o2
            rw [hs5]
            unfold kup
            rw [if_neg (fun q => o2.elim (fun w => w q.1) (fun w => w q.2)), if_neg (fun q => o1 q.1)]
          have n2 : s5 14 14 = (j : Int) + 1 := by rw [hs5]; simp [kup]
          have n3 : ∀ k, s5 80 k = if k = j then (x : Int) else s 80 k := by intro k; rw [hs5]; simp [kup]
          have e72 : s5 72 x = sn x := by rw [n1 _ _ (by decide) (by omega)]; exact Ms.2.2.2.2.2.1 x
          refine wpS_gen (fun Q109 hQ109 => ?_)
          simp only [wpS_skip, wpS_break, wpS_cont, wpS_retV, wpS_throw, wpS_seq, wpS_if, wpS_trunc, yS_let, yS_inc, kgK_i, kgK_r, kok_nil, kok_i0, kok_is, kok_r0, kok_rs, kok_n0, kok_ns, xS_put, xS_putOp, xS_ast0, xS_ast1, xS_astOp, wpS_E, wpS_call, wpS_callS, wpS_ret, kThen_N, kThen_B, kThen_C, kThen_R, kThen_T, kNext_N, kNext_C, kNext_B, kNext_R, wpE_K, wpE_KL, xE_I, xE_R, wpE_J, xE_bin, wpE_ladd, wpE_i2l, xE_get, xE_ald0, xE_ald1, wpE_if, xE_max, xE_min, wpE_len, wpA_nil, wpA_snoc, xE_call, xE_callS, xC_C, xC_L, xC_Z, wpC_and, wpC_or, wpC_not, wpC_if, kcmp_0, kcmp_1, kcmp_2, kcmp_3, kcmp_4, kcmp_5, rR_inj, kgO_some, kgO_add, kgO_sub, kgO_mul, kgO_div, kgO_rem, kgO_and, kvI_inl, kvJ_inl, kgI_0, kgI_s, kgR_0, kgR_s, kst_nil, kst_0, kst_s, kNLl_nil, kNLl_i, kNLl_r, kNLl_n, ktag_i, ktag_r, List.length_cons, List.length_nil, List.take_succ_cons, List.take_zero, List.take_nil, List.nil_append, List.cons_append, decide_eq_true_eq, Bool.not_eq_true, Bool.not_eq_true', decide_eq_false_iff_not, ne_eq, Decidable.not_not, true_and, and_true, Nat.reduceAdd, Nat.reduceLeDiff, Nat.reduceEqDiff, Nat.le_refl, not_true_eq_false, not_false_eq_true, reduceIte, eq_self, Int.reduceNeg, Int.reduceEq, Int.reduceLT, Int.reduceLE, Nat.zero_le, Nat.one_ne_zero, ev_model, ev_model_arr, Int.toNat_natCast, e72]
          repeat refine And.intro (by omega) ?_
          rw [hQ109]
          clear hQ109 Q109
          obtain ⟨d', hd1, hd2⟩ := hx.1.2.2
          have ed : d' = d := by have := hd2.uniq S4; omega
          refine kNext_N.mpr (wpS_skip.mpr ⟨rfl, d, by omega, j + 1, sn x, fun k => if k = j then x else rg k, fun k => if k = j + 1 then sn x else vs k, by omega, by omega, rfl, fun o k o1 o2 => by rw [n1 o k o1 o2]; exact S1 o k o1 o2, ⟨by rw [n2]; rfl, fun k hk => ?_⟩, ?_, ?_, by simp, fun k hk => ?_⟩)
          · rw [n3]
            dsimp only
            split
            · rfl
            · exact S3 k (by omega)
          · rw [show len - (j + 1) = d by omega, ← ed]; exact hd1
          · dsimp only; rw [if_neg (by omega)]; exact S5
          · dsimp only
            by_cases e : k = j
            · subst e
              rw [if_pos rfl, if_neg (by omega), if_pos rfl, S6]
              exact ⟨hx, rfl⟩
            · rw [if_neg e, if_neg (by omega), if_neg (by omega)]
              exact S7 k (by omega)
        refine wpS_fortG (fun k P s' => s' = s ∧ ∃ best : Int, P = [some (.inr (.inl 14)), some (.inl (a : Int)), some (.inl (b : Int)), some (.inl (v : Int)), some (.inl best)] ∧ ((best = -1 ∧ ∀ i, i < k → ¬ nrr O fs sn a v (li i)) ∨ ∃ x : Nat, best = (x : Int) ∧ isNx O fs sn a v x)) (fun m => (m : Int)) c rfl rfl ?_ ?_ ?_ ?_
        · simp only [wpS_skip, wpS_break, wpS_cont, wpS_retV, wpS_throw, wpS_seq, wpS_if, wpS_trunc, yS_let, yS_inc, kgK_i, kgK_r, kok_nil, kok_i0, kok_is, kok_r0, kok_rs, kok_n0, kok_ns, xS_put, xS_putOp, xS_ast0, xS_ast1, xS_astOp, wpS_E, wpS_call, wpS_callS, wpS_ret, kThen_N, kThen_B, kThen_C, kThen_R, kThen_T, kNext_N, kNext_C, kNext_B, kNext_R, wpE_K, wpE_KL, xE_I, xE_R, wpE_J, xE_bin, wpE_ladd, wpE_i2l, xE_get, xE_ald0, xE_ald1, wpE_if, xE_max, xE_min, wpE_len, wpA_nil, wpA_snoc, xE_call, xE_callS, xC_C, xC_L, xC_Z, wpC_and, wpC_or, wpC_not, wpC_if, kcmp_0, kcmp_1, kcmp_2, kcmp_3, kcmp_4, kcmp_5, rR_inj, kgO_some, kgO_add, kgO_sub, kgO_mul, kgO_div, kgO_rem, kgO_and, kvI_inl, kvJ_inl, kgI_0, kgI_s, kgR_0, kgR_s, kst_nil, kst_0, kst_s, kNLl_nil, kNLl_i, kNLl_r, kNLl_n, ktag_i, ktag_r, List.length_cons, List.length_nil, List.take_succ_cons, List.take_zero, List.take_nil, List.nil_append, List.cons_append, decide_eq_true_eq, Bool.not_eq_true, Bool.not_eq_true', decide_eq_false_iff_not, ne_eq, Decidable.not_not, true_and, and_true, Nat.reduceAdd, Nat.reduceLeDiff, Nat.reduceEqDiff, Nat.le_refl, not_true_eq_false, not_false_eq_true, reduceIte, eq_self, Int.reduceNeg, Int.reduceEq, Int.reduceLT, Int.reduceLE, Nat.zero_le, Nat.one_ne_zero]; trivial
        · exact ⟨rfl, -1, rfl, Or.inl ⟨rfl, fun i hi => by omega⟩⟩
        · rintro k P s' ⟨-, best, rfl, -⟩; exact ⟨rfl, rfl⟩
        · rintro k P s' hk ⟨hs', best, rfl, hbest⟩
          subst s'
          rcases hbest with ⟨rfl, hno⟩ | ⟨x, rfl, hx⟩
          · rcases Nat.lt_or_ge k c with hkc | hkc
            · have c3 : (k : Int) < (c : Int) := by omega
              refine wpC_gen (fun Q5 hQ5 => ?_)
              simp only [wpS_skip, wpS_break, wpS_cont, wpS_retV, wpS_throw, wpS_seq, wpS_if, wpS_trunc, yS_let, yS_inc, kgK_i, kgK_r, kok_nil, kok_i0, kok_is, kok_r0, kok_rs, kok_n0, kok_ns, xS_put, xS_putOp, xS_ast0, xS_ast1, xS_astOp, wpS_E, wpS_call, wpS_callS, wpS_ret, kThen_N, kThen_B, kThen_C, kThen_R, kThen_T, kNext_N, kNext_C, kNext_B, kNext_R, wpE_K, wpE_KL, xE_I, xE_R, wpE_J, xE_bin, wpE_ladd, wpE_i2l, xE_get, xE_ald0, xE_ald1, wpE_if, xE_max, xE_min, wpE_len, wpA_nil, wpA_snoc, xE_call, xE_callS, xC_C, xC_L, xC_Z, wpC_and, wpC_or, wpC_not, wpC_if, kcmp_0, kcmp_1, kcmp_2, kcmp_3, kcmp_4, kcmp_5, rR_inj, kgO_some, kgO_add, kgO_sub, kgO_mul, kgO_div, kgO_rem, kgO_and, kvI_inl, kvJ_inl, kgI_0, kgI_s, kgR_0, kgR_s, kst_nil, kst_0, kst_s, kNLl_nil, kNLl_i, kNLl_r, kNLl_n, ktag_i, ktag_r, List.length_cons, List.length_nil, List.take_succ_cons, List.take_zero, List.take_nil, List.nil_append, List.cons_append, decide_eq_true_eq, Bool.not_eq_true, Bool.not_eq_true', decide_eq_false_iff_not, ne_eq, Decidable.not_not, true_and, and_true, Nat.reduceAdd, Nat.reduceLeDiff, Nat.reduceEqDiff, Nat.le_refl, not_true_eq_false, not_false_eq_true, reduceIte, eq_self, Int.reduceNeg, Int.reduceEq, Int.reduceLT, Int.reduceLE, Nat.zero_le, Nat.one_ne_zero, ev_model, Ms.2.1, c3, decide_true, decide_false, Bool.false_eq_true, if_true, if_false, true_and, and_true, not_true_eq_false, not_false_eq_true]
              rw [hQ5]
              refine ⟨rfl, Or.inl ⟨rfl, hkc, by simp, by omega, by omega, ?_⟩⟩
              obtain ⟨x, hxx⟩ : ∃ x, x = li k := ⟨_, rfl⟩
              have hxt : th c li x := ⟨k, hkc, hxx.symm⟩
              obtain ⟨x1, x2, x3, x4⟩ := th_lt hG hxt
              have e77 : s 77 k = x := by rw [Ms.2.2.2.1 k hkc, hxx]
              have e71 := Ms.2.2.2.2.1 x
              have e72 := Ms.2.2.2.2.2.1 x
              have e75 := Ms.2.2.2.2.2.2.2.2.1 x
              rw [wpS_trunc]
              refine wpS_seq' (fun Q110 hQ110 => ?_)
              simp only [wpS_skip, wpS_break, wpS_cont, wpS_retV, wpS_throw, wpS_seq, wpS_if, wpS_trunc, yS_let, yS_inc, kgK_i, kgK_r, kok_nil, kok_i0, kok_is, kok_r0, kok_rs, kok_n0, kok_ns, xS_put, xS_putOp, xS_ast0, xS_ast1, xS_astOp, wpS_E, wpS_call, wpS_callS, wpS_ret, kThen_N, kThen_B, kThen_C, kThen_R, kThen_T, kNext_N, kNext_C, kNext_B, kNext_R, wpE_K, wpE_KL, xE_I, xE_R, wpE_J, xE_bin, wpE_ladd, wpE_i2l, xE_get, xE_ald0, xE_ald1, wpE_if, xE_max, xE_min, wpE_len, wpA_nil, wpA_snoc, xE_call, xE_callS, xC_C, xC_L, xC_Z, wpC_and, wpC_or, wpC_not, wpC_if, kcmp_0, kcmp_1, kcmp_2, kcmp_3, kcmp_4, kcmp_5, rR_inj, kgO_some, kgO_add, kgO_sub, kgO_mul, kgO_div, kgO_rem, kgO_and, kvI_inl, kvJ_inl, kgI_0, kgI_s, kgR_0, kgR_s, kst_nil, kst_0, kst_s, kNLl_nil, kNLl_i, kNLl_r, kNLl_n, ktag_i, ktag_r, List.length_cons, List.length_nil, List.take_succ_cons, List.take_zero, List.take_nil, List.nil_append, List.cons_append, decide_eq_true_eq, Bool.not_eq_true, Bool.not_eq_true', decide_eq_false_iff_not, ne_eq, Decidable.not_not, true_and, and_true, Nat.reduceAdd, Nat.reduceLeDiff, Nat.reduceEqDiff, Nat.le_refl, not_true_eq_false, not_false_eq_true, reduceIte, eq_self, Int.reduceNeg, Int.reduceEq, Int.reduceLT, Int.reduceLE, Nat.zero_le, Nat.one_ne_zero, ev_model, ev_model_arr, Int.toNat_natCast, e77]
              repeat refine And.intro (by omega) ?_
              rw [hQ110]
              clear hQ110 Q110
              refine kThen_N.mpr ?_
              refine wpS_gen (fun Q6 hQ6 => ?_)
              have no : ¬ nrr O fs sn a v x → Q6 rN [some (.inr (.inl 14)), some (.inl (a : Int)), some (.inl (b : Int)), some (.inl (v : Int)), some (.inl (-1)), some (.inl (k : Int)), some (.inl (x : Int))] s := by
                intro hn
                rw [hQ6]
                refine kStep_N rfl ⟨rfl, -1, rfl, Or.inl ⟨rfl, fun i hi => ?_⟩⟩
                by_cases e : i = k
                · subst e; rw [← hxx]; exact hn
                · exact hno i (by omega)
              have yes : nrr O fs sn a v x → Q6 rN [some (.inr (.inl 14)), some (.inl (a : Int)), some (.inl (b : Int)), some (.inl (v : Int)), some (.inl (x : Int)), some (.inl (k : Int)), some (.inl (x : Int))] s := by
                intro hy
                rw [hQ6]
                refine kStep_N rfl ⟨rfl, (x : Int), rfl, Or.inr ⟨x, rfl, hy, fun y hy2 => ?_⟩⟩
                have hyt : th c li y := by have := hy2.1; rw [hO] at this; exact this.1
                obtain ⟨i, i1, rfl⟩ := hyt
                rcases Nat.lt_trichotomy i k with w | w | w
                · exact absurd hy2 (hno i w)
                · rw [hxx, w]; exact Nat.le_refl _
                · have := hG.2.2.2.2 k i w i1
                  omega
              have hnr := nr x hxt
              simp only [wpS_skip, wpS_break, wpS_cont, wpS_retV, wpS_throw, wpS_seq, wpS_if, wpS_trunc, yS_let, yS_inc, kgK_i, kgK_r, kok_nil, kok_i0, kok_is, kok_r0, kok_rs, kok_n0, kok_ns, xS_put, xS_putOp, xS_ast0, xS_ast1, xS_astOp, wpS_E, wpS_call, wpS_callS, wpS_ret, kThen_N, kThen_B, kThen_C, kThen_R, kThen_T, kNext_N, kNext_C, kNext_B, kNext_R, wpE_K, wpE_KL, xE_I, xE_R, wpE_J, xE_bin, wpE_ladd, wpE_i2l, xE_get, xE_ald0, xE_ald1, wpE_if, xE_max, xE_min, wpE_len, wpA_nil, wpA_snoc, xE_call, xE_callS, xC_C, xC_L, xC_Z, wpC_and, wpC_or, wpC_not, wpC_if, kcmp_0, kcmp_1, kcmp_2, kcmp_3, kcmp_4, kcmp_5, rR_inj, kgO_some, kgO_add, kgO_sub, kgO_mul, kgO_div, kgO_rem, kgO_and, kvI_inl, kvJ_inl, kgI_0, kgI_s, kgR_0, kgR_s, kst_nil, kst_0, kst_s, kNLl_nil, kNLl_i, kNLl_r, kNLl_n, ktag_i, ktag_r, List.length_cons, List.length_nil, List.take_succ_cons, List.take_zero, List.take_nil, List.nil_append, List.cons_append, decide_eq_true_eq, Bool.not_eq_true, Bool.not_eq_true', decide_eq_false_iff_not, ne_eq, Decidable.not_not, true_and, and_true, Nat.reduceAdd, Nat.reduceLeDiff, Nat.reduceEqDiff, Nat.le_refl, not_true_eq_false, not_false_eq_true, reduceIte, eq_self, Int.reduceNeg, Int.reduceEq, Int.reduceLT, Int.reduceLE, Nat.zero_le, Nat.one_ne_zero, ev_model, ev_model_arr, Int.toNat_natCast, e75, e71]
              refine ⟨by omega, ?_⟩
              by_cases b1 : lo x = 0
              · simp only [b1, decide_true, decide_false, Bool.false_eq_true, if_true, if_false, true_and, and_true, not_true_eq_false, not_false_eq_true]
                repeat refine And.intro (by omega) ?_
                by_cases b2 : fs x = v
                · have b2' : (fs x : Int) = (v : Int) := by omega
                  simp only [b2', wpS_skip, wpS_break, wpS_cont, wpS_retV, wpS_throw, wpS_seq, wpS_if, wpS_trunc, yS_let, yS_inc, kgK_i, kgK_r, kok_nil, kok_i0, kok_is, kok_r0, kok_rs, kok_n0, kok_ns, xS_put, xS_putOp, xS_ast0, xS_ast1, xS_astOp, wpS_E, wpS_call, wpS_callS, wpS_ret, kThen_N, kThen_B, kThen_C, kThen_R, kThen_T, kNext_N, kNext_C, kNext_B, kNext_R, wpE_K, wpE_KL, xE_I, xE_R, wpE_J, xE_bin, wpE_ladd, wpE_i2l, xE_get, xE_ald0, xE_ald1, wpE_if, xE_max, xE_min, wpE_len, wpA_nil, wpA_snoc, xE_call, xE_callS, xC_C, xC_L, xC_Z, wpC_and, wpC_or, wpC_not, wpC_if, kcmp_0, kcmp_1, kcmp_2, kcmp_3, kcmp_4, kcmp_5, rR_inj, kgO_some, kgO_add, kgO_sub, kgO_mul, kgO_div, kgO_rem, kgO_and, kvI_inl, kvJ_inl, kgI_0, kgI_s, kgR_0, kgR_s, kst_nil, kst_0, kst_s, kNLl_nil, kNLl_i, kNLl_r, kNLl_n, ktag_i, ktag_r, List.length_cons, List.length_nil, List.take_succ_cons, List.take_zero, List.take_nil, List.nil_append, List.cons_append, decide_eq_true_eq, Bool.not_eq_true, Bool.not_eq_true', decide_eq_false_iff_not, ne_eq, Decidable.not_not, true_and, and_true, Nat.reduceAdd, Nat.reduceLeDiff, Nat.reduceEqDiff, Nat.le_refl, not_true_eq_false, not_false_eq_true, reduceIte, eq_self, Int.reduceNeg, Int.reduceEq, Int.reduceLT, Int.reduceLE, Nat.zero_le, Nat.one_ne_zero, ev_model, ev_model_arr, Int.toNat_natCast, e72, decide_true, decide_false, Bool.false_eq_true, if_true, if_false, true_and, and_true, not_true_eq_false, not_false_eq_true]
                  repeat refine And.intro (by omega) ?_
                  by_cases b3 : s 85 (sn x) = 0
                  · simp only [b3, decide_true, decide_false, Bool.false_eq_true, if_true, if_false, true_and, and_true, not_true_eq_false, not_false_eq_true]
                    exact no (fun q => (hnr.mp q).2.2.1 b3)
                  · have e88' : (s 88 v) - 1 = (d : Int) := by rw [e88v]; omega
                    simp only [b3, decide_true, decide_false, Bool.false_eq_true, if_true, if_false, true_and, and_true, not_true_eq_false, not_false_eq_true]
                    repeat refine And.intro (by omega) ?_
                    by_cases b4 : s 88 (sn x) = (d : Int)
                    · simp only [e88', b4, decide_true, decide_false, Bool.false_eq_true, if_true, if_false, true_and, and_true, not_true_eq_false, not_false_eq_true]
                      exact yes (hnr.mpr ⟨b1, b2, b3, b4⟩)
                    · simp only [e88', b4, decide_true, decide_false, Bool.false_eq_true, if_true, if_false, true_and, and_true, not_true_eq_false, not_false_eq_true]
                      exact no (fun q => b4 (hnr.mp q).2.2.2)
                · have b2' : ¬ (fs x : Int) = (v : Int) := by omega
                  simp only [b2', decide_true, decide_false, Bool.false_eq_true, if_true, if_false, true_and, and_true, not_true_eq_false, not_false_eq_true]
                  exact no (fun q => b2 (hnr.mp q).2.1)
              · simp only [b1, decide_true, decide_false, Bool.false_eq_true, if_true, if_false, true_and, and_true, not_true_eq_false, not_false_eq_true]
                exact no (fun q => b1 (hnr.mp q).1)
            · exfalso
              obtain ⟨y, hy⟩ := nrr_ex S4
              have hyt : th c li y := by have := hy.1; rw [hO] at this; exact this.1
              obtain ⟨i, i1, rfl⟩ := hyt
              exact hno i (by omega) hy
          · have hxne : ¬ (x : Int) = -1 := by omega
            rcases Classical.em ((k : Int) < (c : Int)) with c3 | c3 <;> (refine wpC_gen (fun Q5 hQ5 => ?_); simp only [wpS_skip, wpS_break, wpS_cont, wpS_retV, wpS_throw, wpS_seq, wpS_if, wpS_trunc, yS_let, yS_inc, kgK_i, kgK_r, kok_nil, kok_i0, kok_is, kok_r0, kok_rs, kok_n0, kok_ns, xS_put, xS_putOp, xS_ast0, xS_ast1, xS_astOp, wpS_E, wpS_call, wpS_callS, wpS_ret, kThen_N, kThen_B, kThen_C, kThen_R, kThen_T, kNext_N, kNext_C, kNext_B, kNext_R, wpE_K, wpE_KL, xE_I, xE_R, wpE_J, xE_bin, wpE_ladd, wpE_i2l, xE_get, xE_ald0, xE_ald1, wpE_if, xE_max, xE_min, wpE_len, wpA_nil, wpA_snoc, xE_call, xE_callS, xC_C, xC_L, xC_Z, wpC_and, wpC_or, wpC_not, wpC_if, kcmp_0, kcmp_1, kcmp_2, kcmp_3, kcmp_4, kcmp_5, rR_inj, kgO_some, kgO_add, kgO_sub, kgO_mul, kgO_div, kgO_rem, kgO_and, kvI_inl, kvJ_inl, kgI_0, kgI_s, kgR_0, kgR_s, kst_nil, kst_0, kst_s, kNLl_nil, kNLl_i, kNLl_r, kNLl_n, ktag_i, ktag_r, List.length_cons, List.length_nil, List.take_succ_cons, List.take_zero, List.take_nil, List.nil_append, List.cons_append, decide_eq_true_eq, Bool.not_eq_true, Bool.not_eq_true', decide_eq_false_iff_not, ne_eq, Decidable.not_not, true_and, and_true, Nat.reduceAdd, Nat.reduceLeDiff, Nat.reduceEqDiff, Nat.le_refl, not_true_eq_false, not_false_eq_true, reduceIte, eq_self, Int.reduceNeg, Int.reduceEq, Int.reduceLT, Int.reduceLE, Nat.zero_le, Nat.one_ne_zero, ev_model, Ms.2.1, c3, hxne, decide_true, decide_false, Bool.false_eq_true, if_true, if_false, true_and, and_true, not_true_eq_false, not_false_eq_true]; rw [hQ5]; exact ⟨rfl, Or.inr ⟨rfl, after x hx⟩⟩)
    · exact ⟨0, b, fun _ => 0, fun _ => b, by omega, by omega, rfl, fun _ _ _ _ => rfl, ⟨by rw [K1 _ _ (by unfold mSc; omega)]; exact m2, fun k hk => by omega⟩, hlen, rfl, rfl, fun k hk => by omega⟩
