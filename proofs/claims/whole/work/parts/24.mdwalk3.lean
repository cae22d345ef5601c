/-! THE REFERENCE'S WALK 3: the outer loop -/
theorem bf_le {n fr h t : Nat} {al : Nat → List Nat} {tg q dp by' : Nat → Nat} (B : bf n al tg fr h t q dp by') : t ≤ n := by
  obtain ⟨-, -, -, -, b5, b6, -⟩ := B
  have := (cntP_row (P := fun _ => True) (n := n) (q := q) (t := t) (fun i hi => ⟨b5 i hi, trivial⟩) b6).1
  have := @cntP_bound (fun _ => True) n
  omega
theorem wk4_ok {σ s0 : kS} {n fr : Nat} {al : Nat → List Nat} {tg : Nat → Nat} {frv so le wi : Int} (hA : bfA σ n al tg) (hn3 : n ≤ 300) (hfr : fr < n)
    (hc : ∀ v, v < n → chn σ (σ 89 v) (al v)) (hK : bfK σ s0) (hB : ∃ q dp by', bf n al tg fr 0 1 q dp by' ∧ bfS s0 n fr 1 q dp by') :
    wpS l_Md_walk_4 [some (.inr (.inl 14)), some (.inl frv), some (.inl so), some (.inl le), some (.inl wi), some (.inl 0)] s0
      (fun r L s => r = rN ∧ L.take 5 = [some (.inr (.inl 14)), some (.inl frv), some (.inl so), some (.inl le), some (.inl wi)] ∧ bfK σ s ∧
        ∃ t q dp by', bf n al tg fr t t q dp by' ∧ bfS s n fr t q dp by') := by
  unfold l_Md_walk_4
  refine wpS_for (fun m L s => ∃ (h t : Nat) (q dp by' : Nat → Nat), m = n - h ∧ L = [some (.inr (.inl 14)), some (.inl frv), some (.inl so), some (.inl le), some (.inl wi), some (.inl (h : Int))] ∧ bfK σ s ∧ bf n al tg fr h t q dp by' ∧ bfS s n fr t q dp by') ?_ n _ _ (by
      obtain ⟨q, dp, by', g1, g2⟩ := hB
      exact ⟨0, 1, q, dp, by', by omega, rfl, hK, g1, g2⟩)
  rintro m L s ⟨h, t, q, dp, by', hm, rfl, hK, g3, g4⟩
  have htn := bf_le g3
  obtain ⟨f1, f2, f3, f4, f5⟩ := id g4
  have hht : h ≤ t := g3.2.1
  refine wpC_gen (fun Q1 hQ1 => ?_)
  simp only [wpS_skip, wpS_break, wpS_cont, wpS_retV, wpS_throw, wpS_seq, wpS_if, wpS_trunc, yS_let, yS_inc, kgK_i, kgK_r, kok_nil, kok_i0, kok_is, kok_r0, kok_rs, kok_n0, kok_ns, xS_put, xS_putOp, xS_ast0, xS_ast1, xS_astOp, wpS_E, wpS_call, wpS_callS, wpS_ret, kThen_N, kThen_B, kThen_C, kThen_R, kThen_T, kNext_N, kNext_C, kNext_B, kNext_R, wpE_K, wpE_KL, xE_I, xE_R, wpE_J, xE_bin, wpE_ladd, wpE_i2l, xE_get, xE_ald0, xE_ald1, wpE_if, xE_max, xE_min, wpE_len, wpA_nil, wpA_snoc, xE_call, xE_callS, xC_C, xC_L, xC_Z, wpC_and, wpC_or, wpC_not, wpC_if, kcmp_0, kcmp_1, kcmp_2, kcmp_3, kcmp_4, kcmp_5, rR_inj, kgO_some, kgO_add, kgO_sub, kgO_mul, kgO_div, kgO_rem, kgO_and, kvI_inl, kvJ_inl, kgI_0, kgI_s, kgR_0, kgR_s, kst_nil, kst_0, kst_s, kNLl_nil, kNLl_i, kNLl_r, kNLl_n, ktag_i, ktag_r, List.length_cons, List.length_nil, List.take_succ_cons, List.take_zero, List.take_nil, List.nil_append, List.cons_append, decide_eq_true_eq, Bool.not_eq_true, Bool.not_eq_true', decide_eq_false_iff_not, ne_eq, Decidable.not_not, true_and, and_true, Nat.reduceAdd, Nat.reduceLeDiff, Nat.reduceEqDiff, Nat.le_refl, not_true_eq_false, not_false_eq_true, reduceIte, eq_self, Int.reduceNeg, Int.reduceEq, Int.reduceLT, Int.reduceLE, Nat.zero_le, Nat.one_ne_zero, ev_model, ev_model_arr, f1]
  rw [hQ1]
  by_cases hh : h < t
  · have hh2 : (h : Int) < t := by omega
    simp only [hh2, decide_true, if_true]
    have hqn := g3.2.2.2.2.1 h hh
    have s86 : s 86 h = q h := (f2 h hh).1
    have s89 : s 89 = σ 89 := hK.1 89 (by decide) (by decide) (by decide) (by decide) (by decide)
    rw [wpS_trunc]
    refine wpS_seq' (fun Q2 hQ2 => ?_)
    simp only [wpS_skip, wpS_break, wpS_cont, wpS_retV, wpS_throw, wpS_seq, wpS_if, wpS_trunc, yS_let, yS_inc, kgK_i, kgK_r, kok_nil, kok_i0, kok_is, kok_r0, kok_rs, kok_n0, kok_ns, xS_put, xS_putOp, xS_ast0, xS_ast1, xS_astOp, wpS_E, wpS_call, wpS_callS, wpS_ret, kThen_N, kThen_B, kThen_C, kThen_R, kThen_T, kNext_N, kNext_C, kNext_B, kNext_R, wpE_K, wpE_KL, xE_I, xE_R, wpE_J, xE_bin, wpE_ladd, wpE_i2l, xE_get, xE_ald0, xE_ald1, wpE_if, xE_max, xE_min, wpE_len, wpA_nil, wpA_snoc, xE_call, xE_callS, xC_C, xC_L, xC_Z, wpC_and, wpC_or, wpC_not, wpC_if, kcmp_0, kcmp_1, kcmp_2, kcmp_3, kcmp_4, kcmp_5, rR_inj, kgO_some, kgO_add, kgO_sub, kgO_mul, kgO_div, kgO_rem, kgO_and, kvI_inl, kvJ_inl, kgI_0, kgI_s, kgR_0, kgR_s, kst_nil, kst_0, kst_s, kNLl_nil, kNLl_i, kNLl_r, kNLl_n, ktag_i, ktag_r, List.length_cons, List.length_nil, List.take_succ_cons, List.take_zero, List.take_nil, List.nil_append, List.cons_append, decide_eq_true_eq, Bool.not_eq_true, Bool.not_eq_true', decide_eq_false_iff_not, ne_eq, Decidable.not_not, true_and, and_true, Nat.reduceAdd, Nat.reduceLeDiff, Nat.reduceEqDiff, Nat.le_refl, not_true_eq_false, not_false_eq_true, reduceIte, eq_self, Int.reduceNeg, Int.reduceEq, Int.reduceLT, Int.reduceLE, Nat.zero_le, Nat.one_ne_zero, ev_model, ev_model_arr, Int.toNat_natCast, s86]
    refine ⟨by omega, ?_⟩
    rw [hQ2]
    refine kThen_N.mpr ?_
    rw [wpS_trunc]
    refine wpS_seq' (fun Q3 hQ3 => ?_)
    simp only [wpS_skip, wpS_break, wpS_cont, wpS_retV, wpS_throw, wpS_seq, wpS_if, wpS_trunc, yS_let, yS_inc, kgK_i, kgK_r, kok_nil, kok_i0, kok_is, kok_r0, kok_rs, kok_n0, kok_ns, xS_put, xS_putOp, xS_ast0, xS_ast1, xS_astOp, wpS_E, wpS_call, wpS_callS, wpS_ret, kThen_N, kThen_B, kThen_C, kThen_R, kThen_T, kNext_N, kNext_C, kNext_B, kNext_R, wpE_K, wpE_KL, xE_I, xE_R, wpE_J, xE_bin, wpE_ladd, wpE_i2l, xE_get, xE_ald0, xE_ald1, wpE_if, xE_max, xE_min, wpE_len, wpA_nil, wpA_snoc, xE_call, xE_callS, xC_C, xC_L, xC_Z, wpC_and, wpC_or, wpC_not, wpC_if, kcmp_0, kcmp_1, kcmp_2, kcmp_3, kcmp_4, kcmp_5, rR_inj, kgO_some, kgO_add, kgO_sub, kgO_mul, kgO_div, kgO_rem, kgO_and, kvI_inl, kvJ_inl, kgI_0, kgI_s, kgR_0, kgR_s, kst_nil, kst_0, kst_s, kNLl_nil, kNLl_i, kNLl_r, kNLl_n, ktag_i, ktag_r, List.length_cons, List.length_nil, List.take_succ_cons, List.take_zero, List.take_nil, List.nil_append, List.cons_append, decide_eq_true_eq, Bool.not_eq_true, Bool.not_eq_true', decide_eq_false_iff_not, ne_eq, Decidable.not_not, true_and, and_true, Nat.reduceAdd, Nat.reduceLeDiff, Nat.reduceEqDiff, Nat.le_refl, not_true_eq_false, not_false_eq_true, reduceIte, eq_self, Int.reduceNeg, Int.reduceEq, Int.reduceLT, Int.reduceLE, Nat.zero_le, Nat.one_ne_zero, ev_model, ev_model_arr, Int.toNat_natCast]
    refine ⟨by omega, ?_⟩
    rw [hQ3]
    refine kThen_N.mpr ((wk3_ok hA hn3 hqn hfr (by omega) (by rw [s89]; exact hc _ hqn) hK ⟨t, q, dp, by', hh, rfl, g3, g4⟩).mono ?_)
    rintro r L1 s1 ⟨rfl, hL, hK1, t1, q1, dp1, by1, c1, c2, c3, c4, c5⟩
    refine kNext_N.mpr ?_
    have hL2 : (L1.take 7).take 6 = [some (.inr (.inl 14)), some (.inl frv), some (.inl so), some (.inl le), some (.inl wi), some (.inl (h : Int))] := by
      rw [List.take_take, show min 6 7 = 6 by decide]; exact hL
    rw [hL2]
    have ht1 := bf_le c3
    refine wpS_gen (fun Q4 hQ4 => ?_)
    simp only [wpS_skip, wpS_break, wpS_cont, wpS_retV, wpS_throw, wpS_seq, wpS_if, wpS_trunc, yS_let, yS_inc, kgK_i, kgK_r, kok_nil, kok_i0, kok_is, kok_r0, kok_rs, kok_n0, kok_ns, xS_put, xS_putOp, xS_ast0, xS_ast1, xS_astOp, wpS_E, wpS_call, wpS_callS, wpS_ret, kThen_N, kThen_B, kThen_C, kThen_R, kThen_T, kNext_N, kNext_C, kNext_B, kNext_R, wpE_K, wpE_KL, xE_I, xE_R, wpE_J, xE_bin, wpE_ladd, wpE_i2l, xE_get, xE_ald0, xE_ald1, wpE_if, xE_max, xE_min, wpE_len, wpA_nil, wpA_snoc, xE_call, xE_callS, xC_C, xC_L, xC_Z, wpC_and, wpC_or, wpC_not, wpC_if, kcmp_0, kcmp_1, kcmp_2, kcmp_3, kcmp_4, kcmp_5, rR_inj, kgO_some, kgO_add, kgO_sub, kgO_mul, kgO_div, kgO_rem, kgO_and, kvI_inl, kvJ_inl, kgI_0, kgI_s, kgR_0, kgR_s, kst_nil, kst_0, kst_s, kNLl_nil, kNLl_i, kNLl_r, kNLl_n, ktag_i, ktag_r, List.length_cons, List.length_nil, List.take_succ_cons, List.take_zero, List.take_nil, List.nil_append, List.cons_append, decide_eq_true_eq, Bool.not_eq_true, Bool.not_eq_true', decide_eq_false_iff_not, ne_eq, Decidable.not_not, true_and, and_true, Nat.reduceAdd, Nat.reduceLeDiff, Nat.reduceEqDiff, Nat.le_refl, not_true_eq_false, not_false_eq_true, reduceIte, eq_self, Int.reduceNeg, Int.reduceEq, Int.reduceLT, Int.reduceLE, Nat.zero_le, Nat.one_ne_zero]
    refine ⟨by omega, ?_⟩
    rw [hQ4]
    exact ⟨rfl, n - (h + 1), by omega, h + 1, t1, q1, dp1, by1, rfl, rfl, hK1, bf_next c3 c1 (fun e he => c5 e (by rw [← c2]; exact he)), c4⟩
  · have hh2 : ¬ (h : Int) < t := by omega
    simp only [hh2, decide_false, if_false, Bool.false_eq_true]
    have : h = t := by omega
    subst this
    exact ⟨trivial, rfl, hK, h, q, dp, by', g3, g4⟩
def mtg (fs sn : Nat → Nat) (e : Nat) : Nat := if e % 2 = 0 then sn (e / 2) else fs (e / 2)
/-- the arcs of a sort, from node to node -/
def mE (σ : kS) (c : Nat) (li fs sn : Nat → Nat) (so le wi : Int) (u v : Nat) : Prop := ∃ k, k < c ∧ mcnt σ so le wi (li k) ∧ ((mfwd so ∧ fs (li k) = u ∧ sn (li k) = v) ∨ (mbwd so ∧ sn (li k) = u ∧ fs (li k) = v))
/-- what walk leaves as it was -/
def wKeep (σ s : kS) : Prop := (∀ o, (o < 85 ∨ 90 < o) → o ≠ 14 → s o = σ o) ∧ ∀ k, k ≠ 27 → s 14 k = σ 14 k
/-- what walk answers -/
def wAns (σ s : kS) (n c : Nat) (li fs sn : Nat → Nat) (fr : Nat) (so le wi : Int) (t : Nat) (q dp by' : Nat → Nat) : Prop := bfS s n fr t q dp by' ∧ (∀ i, i < t → q i < n) ∧ (∀ i j, i < t → j < t → q i = q j → i = j) ∧ 0 < t ∧ q 0 = fr ∧ dp fr = 0 ∧
  (∀ v, rch (mE σ c li fs sn so le wi) fr v ↔ ∃ i, i < t ∧ q i = v) ∧ (∀ v, rch (mE σ c li fs sn so le wi) fr v → ds (mE σ c li fs sn so le wi) fr v (dp v)) ∧
  (∀ i, 0 < i → i < t → ∃ j, j < t ∧ mhe σ c li fs sn so le wi 0 (by' (q i)) (q j) ∧ mtg fs sn (by' (q i)) = q i ∧ dp (q i) = dp (q j) + 1)
theorem walk_ok {σ : kS} {n c fr : Nat} {li fs sn : Nat → Nat} {so le wi : Int} (hG : Mg σ n c li fs sn) (hfr : fr < n) :
    wpF F_Md_walk [.inr (.inl 14), .inl (fr : Int), .inl so, .inl le, .inl wi] σ (fun r s => r = none ∧ wKeep σ s ∧ ∃ t q dp by', wAns σ s n c li fs sn fr so le wi t q dp by') := by
  obtain ⟨hn, hcn, hn3, hc9, hli, hinj⟩ := id hG
  unfold F_Md_walk
  rw [wpF_kF]
  refine ⟨rfl, rfl, ?_⟩
  unfold s_Md_walk
  simp only [List.map_cons, List.map_nil]
  refine wpS_seq' (fun Q0 hQ0 => ?_)
  refine wpS_seq' (fun Q1 hQ1 => ?_)
  rw [wpS_trunc]
  refine wpS_seq' (fun Q2 hQ2 => ?_)
  simp only [wpS_skip, wpS_break, wpS_cont, wpS_retV, wpS_throw, wpS_seq, wpS_if, wpS_trunc, yS_let, yS_inc, kgK_i, kgK_r, kok_nil, kok_i0, kok_is, kok_r0, kok_rs, kok_n0, kok_ns, xS_put, xS_putOp, xS_ast0, xS_ast1, xS_astOp, wpS_E, wpS_call, wpS_callS, wpS_ret, kThen_N, kThen_B, kThen_C, kThen_R, kThen_T, kNext_N, kNext_C, kNext_B, kNext_R, wpE_K, wpE_KL, xE_I, xE_R, wpE_J, xE_bin, wpE_ladd, wpE_i2l, xE_get, xE_ald0, xE_ald1, wpE_if, xE_max, xE_min, wpE_len, wpA_nil, wpA_snoc, xE_call, xE_callS, xC_C, xC_L, xC_Z, wpC_and, wpC_or, wpC_not, wpC_if, kcmp_0, kcmp_1, kcmp_2, kcmp_3, kcmp_4, kcmp_5, rR_inj, kgO_some, kgO_add, kgO_sub, kgO_mul, kgO_div, kgO_rem, kgO_and, kvI_inl, kvJ_inl, kgI_0, kgI_s, kgR_0, kgR_s, kst_nil, kst_0, kst_s, kNLl_nil, kNLl_i, kNLl_r, kNLl_n, ktag_i, ktag_r, List.length_cons, List.length_nil, List.take_succ_cons, List.take_zero, List.take_nil, List.nil_append, List.cons_append, decide_eq_true_eq, Bool.not_eq_true, Bool.not_eq_true', decide_eq_false_iff_not, ne_eq, Decidable.not_not, true_and, and_true, Nat.reduceAdd, Nat.reduceLeDiff, Nat.reduceEqDiff, Nat.le_refl, not_true_eq_false, not_false_eq_true, reduceIte, eq_self, Int.reduceNeg, Int.reduceEq, Int.reduceLT, Int.reduceLE, Nat.zero_le, Nat.one_ne_zero]
  rw [hQ2]
  refine kThen_N.mpr ((wk1_ok hn hn3).mono ?_)
  rintro r L1 s1 ⟨rfl, hL1, k1, z1⟩
  rw [hL1, hQ1]
  refine kThen_N.mpr ?_
  have G1 : Mg s1 n c li fs sn := by
    refine ⟨by rw [k1 14 (by decide) (by decide)]; exact hn, by rw [k1 14 (by decide) (by decide)]; exact hcn, hn3, hc9, fun k hk => ?_, hinj⟩
    rw [k1 77 (by decide) (by decide), k1 71 (by decide) (by decide), k1 72 (by decide) (by decide)]
    exact hli k hk
  refine wpS_seq' (fun Q3 hQ3 => ?_)
  rw [wpS_trunc]
  refine wpS_seq' (fun Q4 hQ4 => ?_)
  have hc1 : s1 14 10 = (c : Int) := G1.2.1
  simp only [wpS_skip, wpS_break, wpS_cont, wpS_retV, wpS_throw, wpS_seq, wpS_if, wpS_trunc, yS_let, yS_inc, kgK_i, kgK_r, kok_nil, kok_i0, kok_is, kok_r0, kok_rs, kok_n0, kok_ns, xS_put, xS_putOp, xS_ast0, xS_ast1, xS_astOp, wpS_E, wpS_call, wpS_callS, wpS_ret, kThen_N, kThen_B, kThen_C, kThen_R, kThen_T, kNext_N, kNext_C, kNext_B, kNext_R, wpE_K, wpE_KL, xE_I, xE_R, wpE_J, xE_bin, wpE_ladd, wpE_i2l, xE_get, xE_ald0, xE_ald1, wpE_if, xE_max, xE_min, wpE_len, wpA_nil, wpA_snoc, xE_call, xE_callS, xC_C, xC_L, xC_Z, wpC_and, wpC_or, wpC_not, wpC_if, kcmp_0, kcmp_1, kcmp_2, kcmp_3, kcmp_4, kcmp_5, rR_inj, kgO_some, kgO_add, kgO_sub, kgO_mul, kgO_div, kgO_rem, kgO_and, kvI_inl, kvJ_inl, kgI_0, kgI_s, kgR_0, kgR_s, kst_nil, kst_0, kst_s, kNLl_nil, kNLl_i, kNLl_r, kNLl_n, ktag_i, ktag_r, List.length_cons, List.length_nil, List.take_succ_cons, List.take_zero, List.take_nil, List.nil_append, List.cons_append, decide_eq_true_eq, Bool.not_eq_true, Bool.not_eq_true', decide_eq_false_iff_not, ne_eq, Decidable.not_not, true_and, and_true, Nat.reduceAdd, Nat.reduceLeDiff, Nat.reduceEqDiff, Nat.le_refl, not_true_eq_false, not_false_eq_true, reduceIte, eq_self, Int.reduceNeg, Int.reduceEq, Int.reduceLT, Int.reduceLE, Nat.zero_le, Nat.one_ne_zero, ev_model, ev_model_arr, hc1]
  refine ⟨by omega, ?_⟩
  rw [hQ4]
  refine kThen_N.mpr ((wk2_ok G1 (fun v hv => (z1 v hv).2)).mono ?_)
  rintro r L2 s2 ⟨rfl, hL2, k2, al, hal⟩
  rw [hL2, hQ3]
  refine kThen_N.mpr ?_
  have hag : ∀ e v, mhe s1 c li fs sn so le wi 0 e v ↔ mhe σ c li fs sn so le wi 0 e v := by
    intro e v
    unfold mhe
    constructor <;> (rintro ⟨k, g1, g2, g3, g4⟩; refine ⟨k, g1, g2, ?_, g4⟩)
    · exact (mcnt_agree (k1 73 (by decide) (by decide)) (k1 74 (by decide) (by decide)) (k1 75 (by decide) (by decide))).mp g3
    · exact (mcnt_agree (k1 73 (by decide) (by decide)) (k1 74 (by decide) (by decide)) (k1 75 (by decide) (by decide))).mpr g3
  obtain ⟨al', hal'⟩ : ∃ al' : Nat → List Nat, al' = fun v => if v < n then al v else [] := ⟨_, rfl⟩
  have m1 : ∀ v e, e ∈ al' v ↔ v < n ∧ mhe σ c li fs sn so le wi 0 e v := by
    intro v e
    rw [hal']
    by_cases h : v < n
    · simp only [h, if_true, true_and]; rw [(hal v h).2 e]; exact hag e v
    · simp [h]
  have hA : bfA s2 n al' (mtg fs sn) := by
    intro v hv e he
    obtain ⟨-, k, g1, g2, g3, g4⟩ := (m1 v e).mp he
    obtain ⟨l1, l2, l3, l4, l5, l6⟩ := hli k g2
    have e72 : s2 72 (li k) = sn (li k) := by rw [k2 72 (by decide) (by decide), k1 72 (by decide) (by decide)]; exact l4
    have e71 : s2 71 (li k) = fs (li k) := by rw [k2 71 (by decide) (by decide), k1 71 (by decide) (by decide)]; exact l3
    unfold mtg
    rcases g4 with ⟨-, rfl, -⟩ | ⟨-, rfl, -⟩
    · have q1 : (2 * li k) % 2 = 0 := by omega
      have q2 : (2 * li k) / 2 = li k := by omega
      rw [if_pos q1, q2]
      exact ⟨by omega, l6, fun _ => e72, fun q => by omega⟩
    · have q1 : ¬ (2 * li k + 1) % 2 = 0 := by omega
      have q2 : (2 * li k + 1) / 2 = li k := by omega
      rw [if_neg q1, q2]
      exact ⟨by omega, l5, fun q => absurd q q1, fun _ => e71⟩
  have hch : ∀ v, v < n → chn s2 (s2 89 v) (al' v) := by
    intro v hv
    rw [hal']; simp only [hv, if_true]; exact (hal v hv).1
  have hbE : ∀ u v, bE al' (mtg fs sn) u v ↔ mE σ c li fs sn so le wi u v := by
    intro u v
    constructor
    · rintro ⟨e, he, rfl⟩
      obtain ⟨-, k, g1, g2, g3, g4⟩ := (m1 u e).mp he
      refine ⟨k, g2, g3, ?_⟩
      unfold mtg
      rcases g4 with ⟨q0, rfl, q⟩ | ⟨q0, rfl, q⟩
      · left; refine ⟨q0, q, ?_⟩; rw [if_pos (by omega), show (2 * li k) / 2 = li k by omega]
      · right; refine ⟨q0, q, ?_⟩; rw [if_neg (by omega), show (2 * li k + 1) / 2 = li k by omega]
    · rintro ⟨k, g2, g3, g4⟩
      obtain ⟨l1, l2, l3, l4, l5, l6⟩ := hli k g2
      rcases g4 with ⟨q0, q1, q2⟩ | ⟨q0, q1, q2⟩
      · refine ⟨2 * li k, (m1 _ _).mpr ⟨by omega, k, by omega, g2, g3, Or.inl ⟨q0, rfl, q1⟩⟩, ?_⟩
        unfold mtg; rw [if_pos (by omega), show (2 * li k) / 2 = li k by omega]; exact q2
      · refine ⟨2 * li k + 1, (m1 _ _).mpr ⟨by omega, k, by omega, g2, g3, Or.inr ⟨q0, rfl, q1⟩⟩, ?_⟩
        unfold mtg; rw [if_neg (by omega), show (2 * li k + 1) / 2 = li k by omega]; exact q2
  have hEE : bE al' (mtg fs sn) = mE σ c li fs sn so le wi := by funext u v; exact propext (hbE u v)
  obtain ⟨s3, hs3⟩ : ∃ s3, s3 = kup (kup (kup (kup (kup s2 14 27 1) 86 0 (fr : Int)) 85 fr 1) 87 fr (-1)) 88 fr 0 := ⟨_, rfl⟩
  have hK3 : bfK s2 s3 := by
    rw [hs3]
    exact bfK_kup (bfK_kup (bfK_kup (bfK_kup (bfK_kup ⟨fun _ _ _ _ _ _ => rfl, fun _ _ => rfl⟩ (Or.inr ⟨rfl, rfl⟩)) (Or.inl (by omega))) (Or.inl (by omega))) (Or.inl (by omega))) (Or.inl (by omega))
  have hS3 : bfS s3 n fr 1 (fun _ => fr) (fun _ => 0) (fun _ => 0) := by
    rw [hs3]
    refine ⟨by simp [kup], fun i hi => ?_, fun v hv => ?_, by simp [kup], fun i h0 h1 => by omega⟩
    · have : i = 0 := by omega
      subst this
      simp [kup]
    · have z : s2 85 v = 0 := by rw [k2 85 (by decide) (by decide)]; exact (z1 v hv).1
      rw [kup_ne (by decide), kup_ne (by decide), kup_eq]
      by_cases h : v = fr
      · rw [if_pos h]; exact ⟨Or.inr rfl, fun _ => ⟨0, by omega, h.symm⟩, fun _ => rfl⟩
      · rw [if_neg h, kup_ne (by decide), kup_ne (by decide), z]
        refine ⟨Or.inl rfl, fun q => by omega, fun ⟨i, _, q⟩ => absurd q.symm h⟩
  have tail : wpS (sTrunc 5 (sSeq (sLet 0 5 (eK (0))) l_Md_walk_4)) [some (.inr (.inl 14)), some (.inl (fr : Int)), some (.inl so), some (.inl le), some (.inl wi)] s3 Q0 := by
    rw [wpS_trunc]
    refine wpS_seq' (fun Q5 hQ5 => ?_)
    simp only [wpS_skip, wpS_break, wpS_cont, wpS_retV, wpS_throw, wpS_seq, wpS_if, wpS_trunc, yS_let, yS_inc, kgK_i, kgK_r, kok_nil, kok_i0, kok_is, kok_r0, kok_rs, kok_n0, kok_ns, xS_put, xS_putOp, xS_ast0, xS_ast1, xS_astOp, wpS_E, wpS_call, wpS_callS, wpS_ret, kThen_N, kThen_B, kThen_C, kThen_R, kThen_T, kNext_N, kNext_C, kNext_B, kNext_R, wpE_K, wpE_KL, xE_I, xE_R, wpE_J, xE_bin, wpE_ladd, wpE_i2l, xE_get, xE_ald0, xE_ald1, wpE_if, xE_max, xE_min, wpE_len, wpA_nil, wpA_snoc, xE_call, xE_callS, xC_C, xC_L, xC_Z, wpC_and, wpC_or, wpC_not, wpC_if, kcmp_0, kcmp_1, kcmp_2, kcmp_3, kcmp_4, kcmp_5, rR_inj, kgO_some, kgO_add, kgO_sub, kgO_mul, kgO_div, kgO_rem, kgO_and, kvI_inl, kvJ_inl, kgI_0, kgI_s, kgR_0, kgR_s, kst_nil, kst_0, kst_s, kNLl_nil, kNLl_i, kNLl_r, kNLl_n, ktag_i, ktag_r, List.length_cons, List.length_nil, List.take_succ_cons, List.take_zero, List.take_nil, List.nil_append, List.cons_append, decide_eq_true_eq, Bool.not_eq_true, Bool.not_eq_true', decide_eq_false_iff_not, ne_eq, Decidable.not_not, true_and, and_true, Nat.reduceAdd, Nat.reduceLeDiff, Nat.reduceEqDiff, Nat.le_refl, not_true_eq_false, not_false_eq_true, reduceIte, eq_self, Int.reduceNeg, Int.reduceEq, Int.reduceLT, Int.reduceLE, Nat.zero_le, Nat.one_ne_zero]
    rw [hQ5]
    refine kThen_N.mpr ((wk4_ok hA hn3 hfr hch hK3 ⟨_, _, _, bf_start hfr rfl, hS3⟩).mono ?_)
    rintro r L4 s4 ⟨rfl, hL4, hK4, t, q, dp, by', B, S⟩
    rw [hL4, hQ0]
    refine kThen_N.mpr (wpS_retV.mpr ⟨none, rfl, rfl, rfl, ?_, t, q, dp, by', ?_⟩)
    · refine ⟨fun o ho h14 => ?_, fun k hk => ?_⟩
      · rw [hK4.1 o (by omega) (by omega) (by omega) (by omega) h14, k2 o (by omega) (by omega), k1 o (by omega) (by omega)]
      · rw [hK4.2 k hk, k2 14 (by decide) (by decide), k1 14 (by decide) (by decide)]
    · obtain ⟨e1, e2⟩ := bf_end B
      obtain ⟨b1, b2, b3, b4, b5, b6, b7, b8, b9, b10, b11, b12⟩ := B
      rw [hEE] at e1 e2
      refine ⟨S, b5, b6, b1, b3, b4, e1, e2, fun i h0 h1 => ?_⟩
      obtain ⟨j, g1, g2, g3, g4⟩ := b11 i h0 h1
      exact ⟨j, g1, ((m1 _ _).mp g2).2, g3, g4⟩
  refine wpS_seq' (fun Q6 hQ6 => ?_)
  simp only [wpS_skip, wpS_break, wpS_cont, wpS_retV, wpS_throw, wpS_seq, wpS_if, wpS_trunc, yS_let, yS_inc, kgK_i, kgK_r, kok_nil, kok_i0, kok_is, kok_r0, kok_rs, kok_n0, kok_ns, xS_put, xS_putOp, xS_ast0, xS_ast1, xS_astOp, wpS_E, wpS_call, wpS_callS, wpS_ret, kThen_N, kThen_B, kThen_C, kThen_R, kThen_T, kNext_N, kNext_C, kNext_B, kNext_R, wpE_K, wpE_KL, xE_I, xE_R, wpE_J, xE_bin, wpE_ladd, wpE_i2l, xE_get, xE_ald0, xE_ald1, wpE_if, xE_max, xE_min, wpE_len, wpA_nil, wpA_snoc, xE_call, xE_callS, xC_C, xC_L, xC_Z, wpC_and, wpC_or, wpC_not, wpC_if, kcmp_0, kcmp_1, kcmp_2, kcmp_3, kcmp_4, kcmp_5, rR_inj, kgO_some, kgO_add, kgO_sub, kgO_mul, kgO_div, kgO_rem, kgO_and, kvI_inl, kvJ_inl, kgI_0, kgI_s, kgR_0, kgR_s, kst_nil, kst_0, kst_s, kNLl_nil, kNLl_i, kNLl_r, kNLl_n, ktag_i, ktag_r, List.length_cons, List.length_nil, List.take_succ_cons, List.take_zero, List.take_nil, List.nil_append, List.cons_append, decide_eq_true_eq, Bool.not_eq_true, Bool.not_eq_true', decide_eq_false_iff_not, ne_eq, Decidable.not_not, true_and, and_true, Nat.reduceAdd, Nat.reduceLeDiff, Nat.reduceEqDiff, Nat.le_refl, not_true_eq_false, not_false_eq_true, reduceIte, eq_self, Int.reduceNeg, Int.reduceEq, Int.reduceLT, Int.reduceLE, Nat.zero_le, Nat.one_ne_zero, ev_model, ev_model_arr]
  rw [hQ6]
  refine kThen_N.mpr (wpS_seq' (fun Q7 hQ7 => ?_))
  simp only [wpS_skip, wpS_break, wpS_cont, wpS_retV, wpS_throw, wpS_seq, wpS_if, wpS_trunc, yS_let, yS_inc, kgK_i, kgK_r, kok_nil, kok_i0, kok_is, kok_r0, kok_rs, kok_n0, kok_ns, xS_put, xS_putOp, xS_ast0, xS_ast1, xS_astOp, wpS_E, wpS_call, wpS_callS, wpS_ret, kThen_N, kThen_B, kThen_C, kThen_R, kThen_T, kNext_N, kNext_C, kNext_B, kNext_R, wpE_K, wpE_KL, xE_I, xE_R, wpE_J, xE_bin, wpE_ladd, wpE_i2l, xE_get, xE_ald0, xE_ald1, wpE_if, xE_max, xE_min, wpE_len, wpA_nil, wpA_snoc, xE_call, xE_callS, xC_C, xC_L, xC_Z, wpC_and, wpC_or, wpC_not, wpC_if, kcmp_0, kcmp_1, kcmp_2, kcmp_3, kcmp_4, kcmp_5, rR_inj, kgO_some, kgO_add, kgO_sub, kgO_mul, kgO_div, kgO_rem, kgO_and, kvI_inl, kvJ_inl, kgI_0, kgI_s, kgR_0, kgR_s, kst_nil, kst_0, kst_s, kNLl_nil, kNLl_i, kNLl_r, kNLl_n, ktag_i, ktag_r, List.length_cons, List.length_nil, List.take_succ_cons, List.take_zero, List.take_nil, List.nil_append, List.cons_append, decide_eq_true_eq, Bool.not_eq_true, Bool.not_eq_true', decide_eq_false_iff_not, ne_eq, Decidable.not_not, true_and, and_true, Nat.reduceAdd, Nat.reduceLeDiff, Nat.reduceEqDiff, Nat.le_refl, not_true_eq_false, not_false_eq_true, reduceIte, eq_self, Int.reduceNeg, Int.reduceEq, Int.reduceLT, Int.reduceLE, Nat.zero_le, Nat.one_ne_zero, ev_model, ev_model_arr]
  refine ⟨by omega, ?_⟩
  rw [hQ7]
  refine kThen_N.mpr (wpS_seq' (fun Q8 hQ8 => ?_))
  simp only [wpS_skip, wpS_break, wpS_cont, wpS_retV, wpS_throw, wpS_seq, wpS_if, wpS_trunc, yS_let, yS_inc, kgK_i, kgK_r, kok_nil, kok_i0, kok_is, kok_r0, kok_rs, kok_n0, kok_ns, xS_put, xS_putOp, xS_ast0, xS_ast1, xS_astOp, wpS_E, wpS_call, wpS_callS, wpS_ret, kThen_N, kThen_B, kThen_C, kThen_R, kThen_T, kNext_N, kNext_C, kNext_B, kNext_R, wpE_K, wpE_KL, xE_I, xE_R, wpE_J, xE_bin, wpE_ladd, wpE_i2l, xE_get, xE_ald0, xE_ald1, wpE_if, xE_max, xE_min, wpE_len, wpA_nil, wpA_snoc, xE_call, xE_callS, xC_C, xC_L, xC_Z, wpC_and, wpC_or, wpC_not, wpC_if, kcmp_0, kcmp_1, kcmp_2, kcmp_3, kcmp_4, kcmp_5, rR_inj, kgO_some, kgO_add, kgO_sub, kgO_mul, kgO_div, kgO_rem, kgO_and, kvI_inl, kvJ_inl, kgI_0, kgI_s, kgR_0, kgR_s, kst_nil, kst_0, kst_s, kNLl_nil, kNLl_i, kNLl_r, kNLl_n, ktag_i, ktag_r, List.length_cons, List.length_nil, List.take_succ_cons, List.take_zero, List.take_nil, List.nil_append, List.cons_append, decide_eq_true_eq, Bool.not_eq_true, Bool.not_eq_true', decide_eq_false_iff_not, ne_eq, Decidable.not_not, true_and, and_true, Nat.reduceAdd, Nat.reduceLeDiff, Nat.reduceEqDiff, Nat.le_refl, not_true_eq_false, not_false_eq_true, reduceIte, eq_self, Int.reduceNeg, Int.reduceEq, Int.reduceLT, Int.reduceLE, Nat.zero_le, Nat.one_ne_zero, ev_model, ev_model_arr, Int.toNat_natCast]
  refine ⟨by omega, Or.inr trivial, ?_⟩
  rw [hQ8]
  refine kThen_N.mpr (wpS_seq' (fun Q9 hQ9 => ?_))
  simp only [wpS_skip, wpS_break, wpS_cont, wpS_retV, wpS_throw, wpS_seq, wpS_if, wpS_trunc, yS_let, yS_inc, kgK_i, kgK_r, kok_nil, kok_i0, kok_is, kok_r0, kok_rs, kok_n0, kok_ns, xS_put, xS_putOp, xS_ast0, xS_ast1, xS_astOp, wpS_E, wpS_call, wpS_callS, wpS_ret, kThen_N, kThen_B, kThen_C, kThen_R, kThen_T, kNext_N, kNext_C, kNext_B, kNext_R, wpE_K, wpE_KL, xE_I, xE_R, wpE_J, xE_bin, wpE_ladd, wpE_i2l, xE_get, xE_ald0, xE_ald1, wpE_if, xE_max, xE_min, wpE_len, wpA_nil, wpA_snoc, xE_call, xE_callS, xC_C, xC_L, xC_Z, wpC_and, wpC_or, wpC_not, wpC_if, kcmp_0, kcmp_1, kcmp_2, kcmp_3, kcmp_4, kcmp_5, rR_inj, kgO_some, kgO_add, kgO_sub, kgO_mul, kgO_div, kgO_rem, kgO_and, kvI_inl, kvJ_inl, kgI_0, kgI_s, kgR_0, kgR_s, kst_nil, kst_0, kst_s, kNLl_nil, kNLl_i, kNLl_r, kNLl_n, ktag_i, ktag_r, List.length_cons, List.length_nil, List.take_succ_cons, List.take_zero, List.take_nil, List.nil_append, List.cons_append, decide_eq_true_eq, Bool.not_eq_true, Bool.not_eq_true', decide_eq_false_iff_not, ne_eq, Decidable.not_not, true_and, and_true, Nat.reduceAdd, Nat.reduceLeDiff, Nat.reduceEqDiff, Nat.le_refl, not_true_eq_false, not_false_eq_true, reduceIte, eq_self, Int.reduceNeg, Int.reduceEq, Int.reduceLT, Int.reduceLE, Nat.zero_le, Nat.one_ne_zero, ev_model, ev_model_arr, Int.toNat_natCast]
  refine ⟨by omega, ?_⟩
  rw [hQ9]
  refine kThen_N.mpr (wpS_seq' (fun Q10 hQ10 => ?_))
  simp only [wpS_skip, wpS_break, wpS_cont, wpS_retV, wpS_throw, wpS_seq, wpS_if, wpS_trunc, yS_let, yS_inc, kgK_i, kgK_r, kok_nil, kok_i0, kok_is, kok_r0, kok_rs, kok_n0, kok_ns, xS_put, xS_putOp, xS_ast0, xS_ast1, xS_astOp, wpS_E, wpS_call, wpS_callS, wpS_ret, kThen_N, kThen_B, kThen_C, kThen_R, kThen_T, kNext_N, kNext_C, kNext_B, kNext_R, wpE_K, wpE_KL, xE_I, xE_R, wpE_J, xE_bin, wpE_ladd, wpE_i2l, xE_get, xE_ald0, xE_ald1, wpE_if, xE_max, xE_min, wpE_len, wpA_nil, wpA_snoc, xE_call, xE_callS, xC_C, xC_L, xC_Z, wpC_and, wpC_or, wpC_not, wpC_if, kcmp_0, kcmp_1, kcmp_2, kcmp_3, kcmp_4, kcmp_5, rR_inj, kgO_some, kgO_add, kgO_sub, kgO_mul, kgO_div, kgO_rem, kgO_and, kvI_inl, kvJ_inl, kgI_0, kgI_s, kgR_0, kgR_s, kst_nil, kst_0, kst_s, kNLl_nil, kNLl_i, kNLl_r, kNLl_n, ktag_i, ktag_r, List.length_cons, List.length_nil, List.take_succ_cons, List.take_zero, List.take_nil, List.nil_append, List.cons_append, decide_eq_true_eq, Bool.not_eq_true, Bool.not_eq_true', decide_eq_false_iff_not, ne_eq, Decidable.not_not, true_and, and_true, Nat.reduceAdd, Nat.reduceLeDiff, Nat.reduceEqDiff, Nat.le_refl, not_true_eq_false, not_false_eq_true, reduceIte, eq_self, Int.reduceNeg, Int.reduceEq, Int.reduceLT, Int.reduceLE, Nat.zero_le, Nat.one_ne_zero, ev_model, ev_model_arr, Int.toNat_natCast]
  refine ⟨by omega, ?_⟩
  rw [hQ10]
  refine kThen_N.mpr ?_
  rw [hs3] at tail
  exact tail
