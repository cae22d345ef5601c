/-! THE CLASS'S ROW: setRight, reaches -/
theorem rch_plus {O O' : Nat → Prop} {fs sn : Nat → Nat} {x a b : Nat} (hO : ∀ y, O' y ↔ O y ∨ y = x) (hx : fs x = a ∧ sn x = b) (hno : ¬ rch (dE O fs sn) b a) :
    (∀ v, rch (dE O' fs sn) b v ↔ rch (dE O fs sn) b v) ∧ (∀ v, rch (dE O' fs sn) v a ↔ rch (dE O fs sn) v a) := by
  have up : ∀ u v, dE O fs sn u v → dE O' fs sn u v := fun u v ⟨y, h1, h2⟩ => ⟨y, (hO y).mpr (Or.inl h1), h2⟩
  refine ⟨fun v => ⟨fun hr => ?_, fun hr => hr.mono up⟩, fun v => ⟨fun hr => ?_, fun hr => hr.mono up⟩⟩
  · refine rch.closed (S := fun v => rch (dE O fs sn) b v) ?_ (rch.rfl' b) hr
    rintro p q hp ⟨y, hy, rfl, rfl⟩
    rcases (hO y).mp hy with w | rfl
    · exact hp.snoc ⟨y, w, rfl, rfl⟩
    · rw [hx.1] at hp; exact absurd hp hno
  · have h2 : rch (fun u v => dE O' fs sn v u) a v := hr.flip
    have h3 : rch (dE O fs sn) v a := by
      refine rch.closed (S := fun v => rch (dE O fs sn) v a) ?_ (rch.rfl' a) h2
      rintro p q hp ⟨y, hy, rfl, rfl⟩
      rcases (hO y).mp hy with w | rfl
      · exact rch.cons ⟨y, w, rfl, rfl⟩ hp
      · rw [hx.2] at hp; exact absurd hp hno
    exact h3
theorem setRight_ok {σ : kS} {n c ar a b x : Nat} {li fs sn od : Nat → Nat} {lo : Nat → Int} {O : Nat → Prop} (hG : gOk n c ar li fs sn) (hW : Wb σ n c ar li fs sn) (hlo : ∀ x, σ 33 x = lo x) (hR : Rw σ n od)
    (hO : ∀ y, (th c li y ∧ lo y = 0) ↔ (O y ∨ y = x)) (hx : fs x = a ∧ sn x = b) (hOr : rsp O fs sn (ivO n od)) (hno : ¬ rch (dE O fs sn) b a) (hab : a ≠ b) :
    wpF F_Row_setRight [.inr (.inl 7), .inl (a : Int), .inl (b : Int)] σ (fun r s => r = none ∧ (∀ o k, ¬ (34 ≤ o ∧ o ≤ 39) → s o k = σ o k) ∧ Rw s n (reOd n O fs sn od a b)) := by
  have hn3 := hG.1
  have hxx := (hO x).mpr (Or.inr rfl)
  obtain ⟨x1, x2, x3, x4⟩ := th_lt hG hxx.1
  have ha : a < n := by rw [← hx.1]; exact x3
  have hb : b < n := by rw [← hx.2]; exact x4
  have hOn : ∀ y, O y → fs y < n ∧ sn y < n := fun y hy => (th_lt hG ((hO y).mpr (Or.inl hy)).1).2.2
  obtain ⟨r1, r2, r3⟩ := id hR
  obtain ⟨lw, hlw⟩ : ∃ lw, lw = ivO n od b := ⟨_, rfl⟩
  obtain ⟨hg, hhg⟩ : ∃ hg, hg = ivO n od a := ⟨_, rfl⟩
  have e35a : σ 35 a = hg := by rw [hhg]; exact r2 a ha
  have e35b : σ 35 b = lw := by rw [hlw]; exact r2 b hb
  have hlwn : lw < n := by rw [hlw]; exact (r3.2 b hb).1
  have hhgn : hg < n := by rw [hhg]; exact (r3.2 a ha).1
  obtain ⟨new, hnew⟩ : ∃ new, new = reOd n O fs sn od a b := ⟨_, rfl⟩
  rw [← hnew]
  obtain ⟨ok1, ok2, ok3⟩ := reOd_ok r3 hOr hOn ha hb hab hno
  rw [← hnew] at ok1 ok2 ok3
  unfold F_Row_setRight
  rw [wpF_kF]
  refine ⟨rfl, rfl, ?_⟩
  unfold s_Row_setRight
  simp only [List.map_cons, List.map_nil]
  refine wpS_seq' (fun Q0 hQ0 => ?_)
  refine wpS_seq' (fun Q101 hQ101 => ?_)
  simp only [wpS_skip, wpS_break, wpS_cont, wpS_retV, wpS_throw, wpS_seq, wpS_if, wpS_trunc, yS_let, yS_inc, kgK_i, kgK_r, kok_nil, kok_i0, kok_is, kok_r0, kok_rs, kok_n0, kok_ns, xS_put, xS_putOp, xS_ast0, xS_ast1, xS_astOp, wpS_E, wpS_call, wpS_callS, wpS_ret, kThen_N, kThen_B, kThen_C, kThen_R, kThen_T, kNext_N, kNext_C, kNext_B, kNext_R, wpE_K, wpE_KL, xE_I, xE_R, wpE_J, xE_bin, wpE_ladd, wpE_i2l, xE_get, xE_ald0, xE_ald1, wpE_if, xE_max, xE_min, wpE_len, wpA_nil, wpA_snoc, xE_call, xE_callS, xC_C, xC_L, xC_Z, wpC_and, wpC_or, wpC_not, wpC_if, kcmp_0, kcmp_1, kcmp_2, kcmp_3, kcmp_4, kcmp_5, rR_inj, kgO_some, kgO_add, kgO_sub, kgO_mul, kgO_div, kgO_rem, kgO_and, kvI_inl, kvJ_inl, kgI_0, kgI_s, kgR_0, kgR_s, kst_nil, kst_0, kst_s, kNLl_nil, kNLl_i, kNLl_r, kNLl_n, ktag_i, ktag_r, List.length_cons, List.length_nil, List.take_succ_cons, List.take_zero, List.take_nil, List.nil_append, List.cons_append, decide_eq_true_eq, Bool.not_eq_true, Bool.not_eq_true', decide_eq_false_iff_not, ne_eq, Decidable.not_not, true_and, and_true, Nat.reduceAdd, Nat.reduceLeDiff, Nat.reduceEqDiff, Nat.le_refl, not_true_eq_false, not_false_eq_true, reduceIte, eq_self, Int.reduceNeg, Int.reduceEq, Int.reduceLT, Int.reduceLE, Nat.zero_le, Nat.one_ne_zero, ev_row, ev_row_arr, Int.toNat_natCast, e35b]
  repeat refine And.intro (by omega) ?_
  rw [hQ101]
  clear hQ101 Q101
  refine kThen_N.mpr ?_
  refine wpS_seq' (fun Q102 hQ102 => ?_)
  simp only [wpS_skip, wpS_break, wpS_cont, wpS_retV, wpS_throw, wpS_seq, wpS_if, wpS_trunc, yS_let, yS_inc, kgK_i, kgK_r, kok_nil, kok_i0, kok_is, kok_r0, kok_rs, kok_n0, kok_ns, xS_put, xS_putOp, xS_ast0, xS_ast1, xS_astOp, wpS_E, wpS_call, wpS_callS, wpS_ret, kThen_N, kThen_B, kThen_C, kThen_R, kThen_T, kNext_N, kNext_C, kNext_B, kNext_R, wpE_K, wpE_KL, xE_I, xE_R, wpE_J, xE_bin, wpE_ladd, wpE_i2l, xE_get, xE_ald0, xE_ald1, wpE_if, xE_max, xE_min, wpE_len, wpA_nil, wpA_snoc, xE_call, xE_callS, xC_C, xC_L, xC_Z, wpC_and, wpC_or, wpC_not, wpC_if, kcmp_0, kcmp_1, kcmp_2, kcmp_3, kcmp_4, kcmp_5, rR_inj, kgO_some, kgO_add, kgO_sub, kgO_mul, kgO_div, kgO_rem, kgO_and, kvI_inl, kvJ_inl, kgI_0, kgI_s, kgR_0, kgR_s, kst_nil, kst_0, kst_s, kNLl_nil, kNLl_i, kNLl_r, kNLl_n, ktag_i, ktag_r, List.length_cons, List.length_nil, List.take_succ_cons, List.take_zero, List.take_nil, List.nil_append, List.cons_append, decide_eq_true_eq, Bool.not_eq_true, Bool.not_eq_true', decide_eq_false_iff_not, ne_eq, Decidable.not_not, true_and, and_true, Nat.reduceAdd, Nat.reduceLeDiff, Nat.reduceEqDiff, Nat.le_refl, not_true_eq_false, not_false_eq_true, reduceIte, eq_self, Int.reduceNeg, Int.reduceEq, Int.reduceLT, Int.reduceLE, Nat.zero_le, Nat.one_ne_zero, ev_row, ev_row_arr, Int.toNat_natCast, e35a]
  repeat refine And.intro (by omega) ?_
  rw [hQ102]
  clear hQ102 Q102
  refine kThen_N.mpr ?_
  by_cases hlt : hg < lw
  · have c1 : (hg : Int) < (lw : Int) := by omega
    refine wpS_seq' (fun Q103 hQ103 => ?_)
    simp only [wpS_skip, wpS_break, wpS_cont, wpS_retV, wpS_throw, wpS_seq, wpS_if, wpS_trunc, yS_let, yS_inc, kgK_i, kgK_r, kok_nil, kok_i0, kok_is, kok_r0, kok_rs, kok_n0, kok_ns, xS_put, xS_putOp, xS_ast0, xS_ast1, xS_astOp, wpS_E, wpS_call, wpS_callS, wpS_ret, kThen_N, kThen_B, kThen_C, kThen_R, kThen_T, kNext_N, kNext_C, kNext_B, kNext_R, wpE_K, wpE_KL, xE_I, xE_R, wpE_J, xE_bin, wpE_ladd, wpE_i2l, xE_get, xE_ald0, xE_ald1, wpE_if, xE_max, xE_min, wpE_len, wpA_nil, wpA_snoc, xE_call, xE_callS, xC_C, xC_L, xC_Z, wpC_and, wpC_or, wpC_not, wpC_if, kcmp_0, kcmp_1, kcmp_2, kcmp_3, kcmp_4, kcmp_5, rR_inj, kgO_some, kgO_add, kgO_sub, kgO_mul, kgO_div, kgO_rem, kgO_and, kvI_inl, kvJ_inl, kgI_0, kgI_s, kgR_0, kgR_s, kst_nil, kst_0, kst_s, kNLl_nil, kNLl_i, kNLl_r, kNLl_n, ktag_i, ktag_r, List.length_cons, List.length_nil, List.take_succ_cons, List.take_zero, List.take_nil, List.nil_append, List.cons_append, decide_eq_true_eq, Bool.not_eq_true, Bool.not_eq_true', decide_eq_false_iff_not, ne_eq, Decidable.not_not, true_and, and_true, Nat.reduceAdd, Nat.reduceLeDiff, Nat.reduceEqDiff, Nat.le_refl, not_true_eq_false, not_false_eq_true, reduceIte, eq_self, Int.reduceNeg, Int.reduceEq, Int.reduceLT, Int.reduceLE, Nat.zero_le, Nat.one_ne_zero, c1, decide_true, decide_false, Bool.false_eq_true, if_true, if_false, true_and, and_true, not_true_eq_false, not_false_eq_true]
    rw [hQ103, hQ0]
    have e : new = od := by rw [hnew]; unfold reOd; rw [if_pos (by rw [← hlw, ← hhg]; exact hlt)]
    refine kThen_R.mpr (kThen_R.mpr ⟨none, rfl, rfl, rfl, fun _ _ _ => rfl, ?_⟩)
    rw [e]; exact hR
  · have c1 : ¬ (hg : Int) < (lw : Int) := by omega
    refine wpS_seq' (fun Q104 hQ104 => ?_)
    simp only [wpS_skip, wpS_break, wpS_cont, wpS_retV, wpS_throw, wpS_seq, wpS_if, wpS_trunc, yS_let, yS_inc, kgK_i, kgK_r, kok_nil, kok_i0, kok_is, kok_r0, kok_rs, kok_n0, kok_ns, xS_put, xS_putOp, xS_ast0, xS_ast1, xS_astOp, wpS_E, wpS_call, wpS_callS, wpS_ret, kThen_N, kThen_B, kThen_C, kThen_R, kThen_T, kNext_N, kNext_C, kNext_B, kNext_R, wpE_K, wpE_KL, xE_I, xE_R, wpE_J, xE_bin, wpE_ladd, wpE_i2l, xE_get, xE_ald0, xE_ald1, wpE_if, xE_max, xE_min, wpE_len, wpA_nil, wpA_snoc, xE_call, xE_callS, xC_C, xC_L, xC_Z, wpC_and, wpC_or, wpC_not, wpC_if, kcmp_0, kcmp_1, kcmp_2, kcmp_3, kcmp_4, kcmp_5, rR_inj, kgO_some, kgO_add, kgO_sub, kgO_mul, kgO_div, kgO_rem, kgO_and, kvI_inl, kvJ_inl, kgI_0, kgI_s, kgR_0, kgR_s, kst_nil, kst_0, kst_s, kNLl_nil, kNLl_i, kNLl_r, kNLl_n, ktag_i, ktag_r, List.length_cons, List.length_nil, List.take_succ_cons, List.take_zero, List.take_nil, List.nil_append, List.cons_append, decide_eq_true_eq, Bool.not_eq_true, Bool.not_eq_true', decide_eq_false_iff_not, ne_eq, Decidable.not_not, true_and, and_true, Nat.reduceAdd, Nat.reduceLeDiff, Nat.reduceEqDiff, Nat.le_refl, not_true_eq_false, not_false_eq_true, reduceIte, eq_self, Int.reduceNeg, Int.reduceEq, Int.reduceLT, Int.reduceLE, Nat.zero_le, Nat.one_ne_zero, c1, decide_true, decide_false, Bool.false_eq_true, if_true, if_false, true_and, and_true, not_true_eq_false, not_false_eq_true]
    rw [hQ104]
    clear hQ104
    refine kThen_N.mpr ?_
    obtain ⟨P1, hP1⟩ : ∃ P1, P1 = oP1 n O fs sn od a b := ⟨_, rfl⟩
    obtain ⟨P2, hP2⟩ : ∃ P2, P2 = oP2 n O fs sn od a b := ⟨_, rfl⟩
    have hd : ∀ p, ¬ (P1 p ∧ P2 p) := by rw [hP1, hP2]; exact oP_dis hno
    have hne : new = newOd P1 P2 n od := by rw [hnew, hP1, hP2]; unfold reOd; rw [if_neg (by rw [← hlw, ← hhg]; exact hlt)]
    obtain ⟨pls1, pls2⟩ := rch_plus hO hx hno
    have hbn : (∀ p, P1 p → lw ≤ p ∧ p ≤ hg) ∧ (∀ p, P2 p → lw ≤ p ∧ p ≤ hg) := by
      rw [hP1, hP2, hlw, hhg]; exact ⟨fun p h => h.2.2, fun p h => h.2.2⟩
    have hsum := @cntP_sum P1 P2 n (fun k _ => hd k)
    have hbnd := @cntP_bound (fun k => P1 k ∨ P2 k) n
    -- ahead
    refine wpS_seq' (fun Q105 hQ105 => ?_)
    simp only [wpS_skip, wpS_break, wpS_cont, wpS_retV, wpS_throw, wpS_seq, wpS_if, wpS_trunc, yS_let, yS_inc, kgK_i, kgK_r, kok_nil, kok_i0, kok_is, kok_r0, kok_rs, kok_n0, kok_ns, xS_put, xS_putOp, xS_ast0, xS_ast1, xS_astOp, wpS_E, wpS_call, wpS_callS, wpS_ret, kThen_N, kThen_B, kThen_C, kThen_R, kThen_T, kNext_N, kNext_C, kNext_B, kNext_R, wpE_K, wpE_KL, xE_I, xE_R, wpE_J, xE_bin, wpE_ladd, wpE_i2l, xE_get, xE_ald0, xE_ald1, wpE_if, xE_max, xE_min, wpE_len, wpA_nil, wpA_snoc, xE_call, xE_callS, xC_C, xC_L, xC_Z, wpC_and, wpC_or, wpC_not, wpC_if, kcmp_0, kcmp_1, kcmp_2, kcmp_3, kcmp_4, kcmp_5, rR_inj, kgO_some, kgO_add, kgO_sub, kgO_mul, kgO_div, kgO_rem, kgO_and, kvI_inl, kvJ_inl, kgI_0, kgI_s, kgR_0, kgR_s, kst_nil, kst_0, kst_s, kNLl_nil, kNLl_i, kNLl_r, kNLl_n, ktag_i, ktag_r, List.length_cons, List.length_nil, List.take_succ_cons, List.take_zero, List.take_nil, List.nil_append, List.cons_append, decide_eq_true_eq, Bool.not_eq_true, Bool.not_eq_true', decide_eq_false_iff_not, ne_eq, Decidable.not_not, true_and, and_true, Nat.reduceAdd, Nat.reduceLeDiff, Nat.reduceEqDiff, Nat.le_refl, not_true_eq_false, not_false_eq_true, reduceIte, eq_self, Int.reduceNeg, Int.reduceEq, Int.reduceLT, Int.reduceLE, Nat.zero_le, Nat.one_ne_zero, ev_row, ev_web]
    refine (spreadFwd_ok hG hW hlo hb).mono ?_
    rintro r s1 ⟨rfl, a1, a2, a3, a4⟩
    refine ⟨rfl, ?_⟩
    rw [hQ105]
    clear hQ105
    refine kThen_N.mpr ?_
    have hW1 := hW.agree (s' := s1) (fun o k ho => a1 o k (by unfold isWb at ho; omega) (by unfold isWb at ho; omega))
    have hlo1 : ∀ x, s1 33 x = lo x := fun x => by rw [a1 _ _ (by decide) (by decide)]; exact hlo x
    refine wpS_seq' (fun Q106 hQ106 => ?_)
    simp only [wpS_skip, wpS_break, wpS_cont, wpS_retV, wpS_throw, wpS_seq, wpS_if, wpS_trunc, yS_let, yS_inc, kgK_i, kgK_r, kok_nil, kok_i0, kok_is, kok_r0, kok_rs, kok_n0, kok_ns, xS_put, xS_putOp, xS_ast0, xS_ast1, xS_astOp, wpS_E, wpS_call, wpS_callS, wpS_ret, kThen_N, kThen_B, kThen_C, kThen_R, kThen_T, kNext_N, kNext_C, kNext_B, kNext_R, wpE_K, wpE_KL, xE_I, xE_R, wpE_J, xE_bin, wpE_ladd, wpE_i2l, xE_get, xE_ald0, xE_ald1, wpE_if, xE_max, xE_min, wpE_len, wpA_nil, wpA_snoc, xE_call, xE_callS, xC_C, xC_L, xC_Z, wpC_and, wpC_or, wpC_not, wpC_if, kcmp_0, kcmp_1, kcmp_2, kcmp_3, kcmp_4, kcmp_5, rR_inj, kgO_some, kgO_add, kgO_sub, kgO_mul, kgO_div, kgO_rem, kgO_and, kvI_inl, kvJ_inl, kgI_0, kgI_s, kgR_0, kgR_s, kst_nil, kst_0, kst_s, kNLl_nil, kNLl_i, kNLl_r, kNLl_n, ktag_i, ktag_r, List.length_cons, List.length_nil, List.take_succ_cons, List.take_zero, List.take_nil, List.nil_append, List.cons_append, decide_eq_true_eq, Bool.not_eq_true, Bool.not_eq_true', decide_eq_false_iff_not, ne_eq, Decidable.not_not, true_and, and_true, Nat.reduceAdd, Nat.reduceLeDiff, Nat.reduceEqDiff, Nat.le_refl, not_true_eq_false, not_false_eq_true, reduceIte, eq_self, Int.reduceNeg, Int.reduceEq, Int.reduceLT, Int.reduceLE, Nat.zero_le, Nat.one_ne_zero, ev_row, ev_web]
    refine (spreadBwd_ok hG hW1 hlo1 ha).mono ?_
    rintro r s2 ⟨rfl, b1, b2, b3, b4⟩
    refine ⟨rfl, ?_⟩
    rw [hQ106]
    clear hQ106
    refine kThen_N.mpr ?_
    have k2 : ∀ o k, o ≠ 36 → o ≠ 37 → o ≠ 39 → s2 o k = σ o k := fun o k o1 o2 o3 => by rw [b1 o k o2 o3, a1 o k o1 o3]
    have fw : ∀ v, v < n → (s2 36 v ≠ -1 ↔ rch (dE O fs sn) b v) := by
      intro v hv
      rw [b1 _ _ (by decide) (by decide), ← pls1 v]
      constructor
      · intro q; exact Classical.byContradiction fun w => q (a3 v (by omega) w)
      · intro q
        obtain ⟨d, hdd⟩ := q.ds
        rw [a2 v d hdd]; omega
    have bw : ∀ v, v < n → (s2 37 v ≠ -1 ↔ rch (dE O fs sn) v a) := by
      intro v hv
      rw [← pls2 v]
      constructor
      · intro q; exact rch.flip_iff.mp (Classical.byContradiction fun w => q (b3 v (by omega) w))
      · intro q
        obtain ⟨d, hdd⟩ := (rch.flip_iff.mpr q).ds
        rw [b2 v d hdd]; omega
    have hR2 : Rw s2 n od := ⟨fun p hp => by rw [k2 _ _ (by decide) (by decide) (by decide)]; exact r1 p hp, fun v hv => by rw [k2 _ _ (by decide) (by decide) (by decide)]; exact r2 v hv, r3⟩
    have q1 : ∀ p, lw ≤ p → p ≤ hg → (P1 p ↔ s2 37 (od p) ≠ -1) := by
      intro p h1 h2
      rw [bw _ (r3.1 p (by omega)).1, hP1]
      rw [hlw] at h1; rw [hhg] at h2
      have := hhgn; rw [hhg] at this
      exact ⟨fun q => q.2.1, fun q => ⟨by omega, q, h1, h2⟩⟩
    have q2 : ∀ p, lw ≤ p → p ≤ hg → (P2 p ↔ s2 36 (od p) ≠ -1) := by
      intro p h1 h2
      rw [fw _ (r3.1 p (by omega)).1, hP2]
      rw [hlw] at h1; rw [hhg] at h2
      have := hhgn; rw [hhg] at this
      exact ⟨fun q => q.2.1, fun q => ⟨by omega, q, h1, h2⟩⟩
    refine wpS_seq' (fun Q107 hQ107 => ?_)
    simp only [wpS_skip, wpS_break, wpS_cont, wpS_retV, wpS_throw, wpS_seq, wpS_if, wpS_trunc, yS_let, yS_inc, kgK_i, kgK_r, kok_nil, kok_i0, kok_is, kok_r0, kok_rs, kok_n0, kok_ns, xS_put, xS_putOp, xS_ast0, xS_ast1, xS_astOp, wpS_E, wpS_call, wpS_callS, wpS_ret, kThen_N, kThen_B, kThen_C, kThen_R, kThen_T, kNext_N, kNext_C, kNext_B, kNext_R, wpE_K, wpE_KL, xE_I, xE_R, wpE_J, xE_bin, wpE_ladd, wpE_i2l, xE_get, xE_ald0, xE_ald1, wpE_if, xE_max, xE_min, wpE_len, wpA_nil, wpA_snoc, xE_call, xE_callS, xC_C, xC_L, xC_Z, wpC_and, wpC_or, wpC_not, wpC_if, kcmp_0, kcmp_1, kcmp_2, kcmp_3, kcmp_4, kcmp_5, rR_inj, kgO_some, kgO_add, kgO_sub, kgO_mul, kgO_div, kgO_rem, kgO_and, kvI_inl, kvJ_inl, kgI_0, kgI_s, kgR_0, kgR_s, kst_nil, kst_0, kst_s, kNLl_nil, kNLl_i, kNLl_r, kNLl_n, ktag_i, ktag_r, List.length_cons, List.length_nil, List.take_succ_cons, List.take_zero, List.take_nil, List.nil_append, List.cons_append, decide_eq_true_eq, Bool.not_eq_true, Bool.not_eq_true', decide_eq_false_iff_not, ne_eq, Decidable.not_not, true_and, and_true, Nat.reduceAdd, Nat.reduceLeDiff, Nat.reduceEqDiff, Nat.le_refl, not_true_eq_false, not_false_eq_true, reduceIte, eq_self, Int.reduceNeg, Int.reduceEq, Int.reduceLT, Int.reduceLE, Nat.zero_le, Nat.one_ne_zero, ev_row]
    refine (pick37_ok (h0 := 0) hn3 hR2 (by omega) hhgn (by omega) hbn.1 q1).mono ?_
    rintro r s3 ⟨rfl, c2, c3, c4⟩
    rw [kgO_some]
    simp only [wpS_skip, wpS_break, wpS_cont, wpS_retV, wpS_throw, wpS_seq, wpS_if, wpS_trunc, yS_let, yS_inc, kgK_i, kgK_r, kok_nil, kok_i0, kok_is, kok_r0, kok_rs, kok_n0, kok_ns, xS_put, xS_putOp, xS_ast0, xS_ast1, xS_astOp, wpS_E, wpS_call, wpS_callS, wpS_ret, kThen_N, kThen_B, kThen_C, kThen_R, kThen_T, kNext_N, kNext_C, kNext_B, kNext_R, wpE_K, wpE_KL, xE_I, xE_R, wpE_J, xE_bin, wpE_ladd, wpE_i2l, xE_get, xE_ald0, xE_ald1, wpE_if, xE_max, xE_min, wpE_len, wpA_nil, wpA_snoc, xE_call, xE_callS, xC_C, xC_L, xC_Z, wpC_and, wpC_or, wpC_not, wpC_if, kcmp_0, kcmp_1, kcmp_2, kcmp_3, kcmp_4, kcmp_5, rR_inj, kgO_some, kgO_add, kgO_sub, kgO_mul, kgO_div, kgO_rem, kgO_and, kvI_inl, kvJ_inl, kgI_0, kgI_s, kgR_0, kgR_s, kst_nil, kst_0, kst_s, kNLl_nil, kNLl_i, kNLl_r, kNLl_n, ktag_i, ktag_r, List.length_cons, List.length_nil, List.take_succ_cons, List.take_zero, List.take_nil, List.nil_append, List.cons_append, decide_eq_true_eq, Bool.not_eq_true, Bool.not_eq_true', decide_eq_false_iff_not, ne_eq, Decidable.not_not, true_and, and_true, Nat.reduceAdd, Nat.reduceLeDiff, Nat.reduceEqDiff, Nat.le_refl, not_true_eq_false, not_false_eq_true, reduceIte, eq_self, Int.reduceNeg, Int.reduceEq, Int.reduceLT, Int.reduceLE, Nat.zero_le, Nat.one_ne_zero]
    rw [hQ107]
    clear hQ107
    refine kThen_N.mpr ?_
    have hR3 : Rw s3 n od := ⟨fun p hp => by rw [c2 _ _ (by decide)]; exact hR2.1 p hp, fun v hv => by rw [c2 _ _ (by decide)]; exact hR2.2.1 v hv, r3⟩
    simp only [Nat.zero_add] at c3 ⊢
    refine wpS_seq' (fun Q108 hQ108 => ?_)
    simp only [wpS_skip, wpS_break, wpS_cont, wpS_retV, wpS_throw, wpS_seq, wpS_if, wpS_trunc, yS_let, yS_inc, kgK_i, kgK_r, kok_nil, kok_i0, kok_is, kok_r0, kok_rs, kok_n0, kok_ns, xS_put, xS_putOp, xS_ast0, xS_ast1, xS_astOp, wpS_E, wpS_call, wpS_callS, wpS_ret, kThen_N, kThen_B, kThen_C, kThen_R, kThen_T, kNext_N, kNext_C, kNext_B, kNext_R, wpE_K, wpE_KL, xE_I, xE_R, wpE_J, xE_bin, wpE_ladd, wpE_i2l, xE_get, xE_ald0, xE_ald1, wpE_if, xE_max, xE_min, wpE_len, wpA_nil, wpA_snoc, xE_call, xE_callS, xC_C, xC_L, xC_Z, wpC_and, wpC_or, wpC_not, wpC_if, kcmp_0, kcmp_1, kcmp_2, kcmp_3, kcmp_4, kcmp_5, rR_inj, kgO_some, kgO_add, kgO_sub, kgO_mul, kgO_div, kgO_rem, kgO_and, kvI_inl, kvJ_inl, kgI_0, kgI_s, kgR_0, kgR_s, kst_nil, kst_0, kst_s, kNLl_nil, kNLl_i, kNLl_r, kNLl_n, ktag_i, ktag_r, List.length_cons, List.length_nil, List.take_succ_cons, List.take_zero, List.take_nil, List.nil_append, List.cons_append, decide_eq_true_eq, Bool.not_eq_true, Bool.not_eq_true', decide_eq_false_iff_not, ne_eq, Decidable.not_not, true_and, and_true, Nat.reduceAdd, Nat.reduceLeDiff, Nat.reduceEqDiff, Nat.le_refl, not_true_eq_false, not_false_eq_true, reduceIte, eq_self, Int.reduceNeg, Int.reduceEq, Int.reduceLT, Int.reduceLE, Nat.zero_le, Nat.one_ne_zero, ev_row]
    refine (pick36_ok (h0 := cntP P1 n) hn3 hR3 (by omega) hhgn (by omega) hbn.2 (fun p h1 h2 => by rw [c2 _ _ (by decide)]; exact q2 p h1 h2)).mono ?_
    rintro r s4 ⟨rfl, d2, d3, d4⟩
    rw [kgO_some]
    simp only [wpS_skip, wpS_break, wpS_cont, wpS_retV, wpS_throw, wpS_seq, wpS_if, wpS_trunc, yS_let, yS_inc, kgK_i, kgK_r, kok_nil, kok_i0, kok_is, kok_r0, kok_rs, kok_n0, kok_ns, xS_put, xS_putOp, xS_ast0, xS_ast1, xS_astOp, wpS_E, wpS_call, wpS_callS, wpS_ret, kThen_N, kThen_B, kThen_C, kThen_R, kThen_T, kNext_N, kNext_C, kNext_B, kNext_R, wpE_K, wpE_KL, xE_I, xE_R, wpE_J, xE_bin, wpE_ladd, wpE_i2l, xE_get, xE_ald0, xE_ald1, wpE_if, xE_max, xE_min, wpE_len, wpA_nil, wpA_snoc, xE_call, xE_callS, xC_C, xC_L, xC_Z, wpC_and, wpC_or, wpC_not, wpC_if, kcmp_0, kcmp_1, kcmp_2, kcmp_3, kcmp_4, kcmp_5, rR_inj, kgO_some, kgO_add, kgO_sub, kgO_mul, kgO_div, kgO_rem, kgO_and, kvI_inl, kvJ_inl, kgI_0, kgI_s, kgR_0, kgR_s, kst_nil, kst_0, kst_s, kNLl_nil, kNLl_i, kNLl_r, kNLl_n, ktag_i, ktag_r, List.length_cons, List.length_nil, List.take_succ_cons, List.take_zero, List.take_nil, List.nil_append, List.cons_append, decide_eq_true_eq, Bool.not_eq_true, Bool.not_eq_true', decide_eq_false_iff_not, ne_eq, Decidable.not_not, true_and, and_true, Nat.reduceAdd, Nat.reduceLeDiff, Nat.reduceEqDiff, Nat.le_refl, not_true_eq_false, not_false_eq_true, reduceIte, eq_self, Int.reduceNeg, Int.reduceEq, Int.reduceLT, Int.reduceLE, Nat.zero_le, Nat.one_ne_zero]
    rw [hQ108]
    clear hQ108
    refine kThen_N.mpr ?_
    obtain ⟨M, hM⟩ : ∃ M : Nat → Prop, M = fun k => P1 k ∨ P2 k := ⟨_, rfl⟩
    rw [← hsum, ← hM]
    rw [← hM] at hbnd
    have hMp : ∀ p, M p ↔ P1 p ∨ P2 p := fun p => by rw [hM]
    have T : ∀ q, q < n → M q → s4 38 (rkP P1 P2 n q) = od q := by
      intro q hq hm
      by_cases w : P1 q
      · rw [rk_1 w, d4 _ (cntP_lt hq w)]; exact c3 q w
      · rw [rk_2 w]; exact d3 q (((hMp q).mp hm).elim (fun e => absurd e w) id)
    have k4 : ∀ o k, ¬ (36 ≤ o ∧ o ≤ 39) → s4 o k = σ o k := fun o k h => by rw [d2 o k (by omega), c2 o k (by omega), k2 o k (by omega) (by omega) (by omega)]
    have Tn : ∀ p, p < n → M p → s4 38 (cntP M p) = new p := by
      intro p hp hm
      obtain ⟨u1, u2, u3⟩ := src_1 hd hp ((hMp p).mp hm)
      have := T _ u1 ((hMp _).mpr u2)
      rw [u3] at this
      rw [hM, this, hne]
      rfl
    have marks : ∀ p, lw ≤ p → p ≤ hg → (M p ↔ (s4 37 (od p) ≠ -1 ∨ s4 36 (od p) ≠ -1)) := by
      intro p h1 h2
      rw [hMp, q1 p h1 h2, q2 p h1 h2, d2 _ _ (by decide), c2 _ _ (by decide), d2 _ _ (by decide), c2 _ _ (by decide)]
    have hMw : ∀ p, M p → lw ≤ p ∧ p ≤ hg := fun p hm => ((hMp p).mp hm).elim (hbn.1 p) (hbn.2 p)
    have unm : ∀ p, ¬ M p → new p = od p := by
      intro p hm
      rw [hne]
      show od (srcP P1 P2 n p) = od p
      rw [src_2 (fun q => hm ((hMp p).mpr q))]
    clear T c3 c4 d3 d4 c2 d2 a1 a2 a3 a4 b1 b2 b3 b4 q1 q2 hsum hR2 hR3 fw bw
    refine wpS_seq' (fun Q109 hQ109 => ?_)
    simp only [wpS_skip, wpS_break, wpS_cont, wpS_retV, wpS_throw, wpS_seq, wpS_if, wpS_trunc, yS_let, yS_inc, kgK_i, kgK_r, kok_nil, kok_i0, kok_is, kok_r0, kok_rs, kok_n0, kok_ns, xS_put, xS_putOp, xS_ast0, xS_ast1, xS_astOp, wpS_E, wpS_call, wpS_callS, wpS_ret, kThen_N, kThen_B, kThen_C, kThen_R, kThen_T, kNext_N, kNext_C, kNext_B, kNext_R, wpE_K, wpE_KL, xE_I, xE_R, wpE_J, xE_bin, wpE_ladd, wpE_i2l, xE_get, xE_ald0, xE_ald1, wpE_if, xE_max, xE_min, wpE_len, wpA_nil, wpA_snoc, xE_call, xE_callS, xC_C, xC_L, xC_Z, wpC_and, wpC_or, wpC_not, wpC_if, kcmp_0, kcmp_1, kcmp_2, kcmp_3, kcmp_4, kcmp_5, rR_inj, kgO_some, kgO_add, kgO_sub, kgO_mul, kgO_div, kgO_rem, kgO_and, kvI_inl, kvJ_inl, kgI_0, kgI_s, kgR_0, kgR_s, kst_nil, kst_0, kst_s, kNLl_nil, kNLl_i, kNLl_r, kNLl_n, ktag_i, ktag_r, List.length_cons, List.length_nil, List.take_succ_cons, List.take_zero, List.take_nil, List.nil_append, List.cons_append, decide_eq_true_eq, Bool.not_eq_true, Bool.not_eq_true', decide_eq_false_iff_not, ne_eq, Decidable.not_not, true_and, and_true, Nat.reduceAdd, Nat.reduceLeDiff, Nat.reduceEqDiff, Nat.le_refl, not_true_eq_false, not_false_eq_true, reduceIte, eq_self, Int.reduceNeg, Int.reduceEq, Int.reduceLT, Int.reduceLE, Nat.zero_le, Nat.one_ne_zero]
    repeat refine And.intro (by omega) ?_
    rw [hQ109]
    clear hQ109 Q109
    refine kThen_N.mpr ?_
    refine wpS_gen (fun Q1 hQ1 => ?_)
    unfold l_Row_setRight_1
    obtain ⟨tot, htot⟩ : ∃ tot, tot = cntP M n := ⟨_, rfl⟩
    rw [← htot] at hbnd ⊢
    refine wpS_fortG (fun m L s => L = [some (.inr (.inl 7)), some (.inl (a : Int)), some (.inl (b : Int)), some (.inl (lw : Int)), some (.inl (hg : Int)), some (.inl (tot : Int)), some (.inl (cntP M (lw + m) : Int))] ∧ (∀ o k, o ≠ 34 → o ≠ 35 → s o k = s4 o k) ∧ (∀ q, q < n → s 34 q = if q < lw + m then (new q : Int) else od q) ∧ (∀ q, q < lw + m → M q → s 35 (new q) = (q : Int)) ∧ (∀ v, v < n → (∀ q, q < lw + m → M q → new q ≠ v) → s 35 v = (ivO n od v : Int))) (fun m => ((lw + m : Nat) : Int)) (hg + 1 - lw) rfl rfl ?_ ?_ ?_ ?_
    · simp only [wpS_skip, wpS_break, wpS_cont, wpS_retV, wpS_throw, wpS_seq, wpS_if, wpS_trunc, yS_let, yS_inc, kgK_i, kgK_r, kok_nil, kok_i0, kok_is, kok_r0, kok_rs, kok_n0, kok_ns, xS_put, xS_putOp, xS_ast0, xS_ast1, xS_astOp, wpS_E, wpS_call, wpS_callS, wpS_ret, kThen_N, kThen_B, kThen_C, kThen_R, kThen_T, kNext_N, kNext_C, kNext_B, kNext_R, wpE_K, wpE_KL, xE_I, xE_R, wpE_J, xE_bin, wpE_ladd, wpE_i2l, xE_get, xE_ald0, xE_ald1, wpE_if, xE_max, xE_min, wpE_len, wpA_nil, wpA_snoc, xE_call, xE_callS, xC_C, xC_L, xC_Z, wpC_and, wpC_or, wpC_not, wpC_if, kcmp_0, kcmp_1, kcmp_2, kcmp_3, kcmp_4, kcmp_5, rR_inj, kgO_some, kgO_add, kgO_sub, kgO_mul, kgO_div, kgO_rem, kgO_and, kvI_inl, kvJ_inl, kgI_0, kgI_s, kgR_0, kgR_s, kst_nil, kst_0, kst_s, kNLl_nil, kNLl_i, kNLl_r, kNLl_n, ktag_i, ktag_r, List.length_cons, List.length_nil, List.take_succ_cons, List.take_zero, List.take_nil, List.nil_append, List.cons_append, decide_eq_true_eq, Bool.not_eq_true, Bool.not_eq_true', decide_eq_false_iff_not, ne_eq, Decidable.not_not, true_and, and_true, Nat.reduceAdd, Nat.reduceLeDiff, Nat.reduceEqDiff, Nat.le_refl, not_true_eq_false, not_false_eq_true, reduceIte, eq_self, Int.reduceNeg, Int.reduceEq, Int.reduceLT, Int.reduceLE, Nat.zero_le, Nat.one_ne_zero]; trivial
    · have e : cntP M (lw + 0) = 0 := cntP_zero (fun k hk hp => by have := (hMw k hp).1; omega)
      rw [e]
      refine ⟨rfl, fun _ _ _ _ => rfl, fun q hq => ?_, fun q hq hm => by have := (hMw q hm).1; omega, fun v hv _ => ?_⟩
      · rw [k4 _ _ (by omega), r1 q hq]
        split
        · rw [unm q (fun hm => by have := (hMw q hm).1; omega)]
        · rfl
      · rw [k4 _ _ (by omega)]; exact r2 v hv
    · rintro m L s ⟨rfl, -⟩; exact ⟨rfl, rfl⟩
    · rintro m L s hm ⟨rfl, S1, S2, S3, S4⟩
      obtain ⟨p, hp⟩ : ∃ p, p = lw + m := ⟨_, rfl⟩
      have hp1 : lw + (m + 1) = p + 1 := by omega
      rw [hp1]
      rw [← hp] at S2 S3 S4 ⊢
      have hmn := @cntP_mono M p n (by omega)
      rw [← htot] at hmn
      obtain ⟨us, hus⟩ : ∃ us, us = cntP M p := ⟨_, rfl⟩
      rw [← hus] at hmn ⊢
      by_cases hc : p ≤ hg ∧ us < tot
      · have c1 : (p : Int) ≤ (hg : Int) := by omega
        have c2 : (us : Int) < (tot : Int) := by omega
        refine wpC_gen (fun Q2 hQ2 => ?_)
        simp only [wpS_skip, wpS_break, wpS_cont, wpS_retV, wpS_throw, wpS_seq, wpS_if, wpS_trunc, yS_let, yS_inc, kgK_i, kgK_r, kok_nil, kok_i0, kok_is, kok_r0, kok_rs, kok_n0, kok_ns, xS_put, xS_putOp, xS_ast0, xS_ast1, xS_astOp, wpS_E, wpS_call, wpS_callS, wpS_ret, kThen_N, kThen_B, kThen_C, kThen_R, kThen_T, kNext_N, kNext_C, kNext_B, kNext_R, wpE_K, wpE_KL, xE_I, xE_R, wpE_J, xE_bin, wpE_ladd, wpE_i2l, xE_get, xE_ald0, xE_ald1, wpE_if, xE_max, xE_min, wpE_len, wpA_nil, wpA_snoc, xE_call, xE_callS, xC_C, xC_L, xC_Z, wpC_and, wpC_or, wpC_not, wpC_if, kcmp_0, kcmp_1, kcmp_2, kcmp_3, kcmp_4, kcmp_5, rR_inj, kgO_some, kgO_add, kgO_sub, kgO_mul, kgO_div, kgO_rem, kgO_and, kvI_inl, kvJ_inl, kgI_0, kgI_s, kgR_0, kgR_s, kst_nil, kst_0, kst_s, kNLl_nil, kNLl_i, kNLl_r, kNLl_n, ktag_i, ktag_r, List.length_cons, List.length_nil, List.take_succ_cons, List.take_zero, List.take_nil, List.nil_append, List.cons_append, decide_eq_true_eq, Bool.not_eq_true, Bool.not_eq_true', decide_eq_false_iff_not, ne_eq, Decidable.not_not, true_and, and_true, Nat.reduceAdd, Nat.reduceLeDiff, Nat.reduceEqDiff, Nat.le_refl, not_true_eq_false, not_false_eq_true, reduceIte, eq_self, Int.reduceNeg, Int.reduceEq, Int.reduceLT, Int.reduceLE, Nat.zero_le, Nat.one_ne_zero, c1, c2, decide_true, decide_false, Bool.false_eq_true, if_true, if_false, true_and, and_true, not_true_eq_false, not_false_eq_true]
        rw [hQ2]
        refine ⟨rfl, Or.inl ⟨rfl, by omega, by omega, by omega, by omega, ?_⟩⟩
        have hpn : p < n := by omega
        have e34 : s 34 p = od p := by rw [S2 p hpn, if_neg (by omega)]
        have hod := (r3.1 p hpn).1
        have e37 : s 37 (od p) = s4 37 (od p) := S1 _ _ (by decide) (by decide)
        have e36 : s 36 (od p) = s4 36 (od p) := S1 _ _ (by decide) (by decide)
        have mk := marks p (by omega) hc.1
        rw [wpS_trunc]
        refine wpS_seq' (fun Q110 hQ110 => ?_)
        simp only [wpS_skip, wpS_break, wpS_cont, wpS_retV, wpS_throw, wpS_seq, wpS_if, wpS_trunc, yS_let, yS_inc, kgK_i, kgK_r, kok_nil, kok_i0, kok_is, kok_r0, kok_rs, kok_n0, kok_ns, xS_put, xS_putOp, xS_ast0, xS_ast1, xS_astOp, wpS_E, wpS_call, wpS_callS, wpS_ret, kThen_N, kThen_B, kThen_C, kThen_R, kThen_T, kNext_N, kNext_C, kNext_B, kNext_R, wpE_K, wpE_KL, xE_I, xE_R, wpE_J, xE_bin, wpE_ladd, wpE_i2l, xE_get, xE_ald0, xE_ald1, wpE_if, xE_max, xE_min, wpE_len, wpA_nil, wpA_snoc, xE_call, xE_callS, xC_C, xC_L, xC_Z, wpC_and, wpC_or, wpC_not, wpC_if, kcmp_0, kcmp_1, kcmp_2, kcmp_3, kcmp_4, kcmp_5, rR_inj, kgO_some, kgO_add, kgO_sub, kgO_mul, kgO_div, kgO_rem, kgO_and, kvI_inl, kvJ_inl, kgI_0, kgI_s, kgR_0, kgR_s, kst_nil, kst_0, kst_s, kNLl_nil, kNLl_i, kNLl_r, kNLl_n, ktag_i, ktag_r, List.length_cons, List.length_nil, List.take_succ_cons, List.take_zero, List.take_nil, List.nil_append, List.cons_append, decide_eq_true_eq, Bool.not_eq_true, Bool.not_eq_true', decide_eq_false_iff_not, ne_eq, Decidable.not_not, true_and, and_true, Nat.reduceAdd, Nat.reduceLeDiff, Nat.reduceEqDiff, Nat.le_refl, not_true_eq_false, not_false_eq_true, reduceIte, eq_self, Int.reduceNeg, Int.reduceEq, Int.reduceLT, Int.reduceLE, Nat.zero_le, Nat.one_ne_zero, ev_row, ev_row_arr, Int.toNat_natCast, e34]
        repeat refine And.intro (by omega) ?_
        rw [hQ110]
        clear hQ110 Q110
        refine kThen_N.mpr ?_
        refine wpS_gen (fun Q3 hQ3 => ?_)
        have skip : ¬ M p → Q3 rN [some (.inr (.inl 7)), some (.inl (a : Int)), some (.inl (b : Int)), some (.inl (lw : Int)), some (.inl (hg : Int)), some (.inl (tot : Int)), some (.inl (us : Int)), some (.inl (p : Int)), some (.inl (od p : Int))] s := by
          intro hnm
          rw [hQ3]
          refine kStep_N (P := [some (.inr (.inl 7)), some (.inl (a : Int)), some (.inl (b : Int)), some (.inl (lw : Int)), some (.inl (hg : Int)), some (.inl (tot : Int)), some (.inl (us : Int))]) rfl ⟨by rw [cntP_succ_neg hnm, hus], S1, fun q hq => ?_, fun q hq hm => ?_, fun v hv hall => S4 v hv (fun q hq hm => hall q (by omega) hm)⟩
          · rw [S2 q hq]
            by_cases e : q = p
            · subst e; rw [if_neg (by omega), if_pos (by omega), unm q hnm]
            · by_cases e2 : q < p
              · rw [if_pos e2, if_pos (by omega)]
              · rw [if_neg e2, if_neg (by omega)]
          · by_cases e : q = p
            · subst e; exact absurd hm hnm
            · exact S3 q (by omega) hm
        have doit : M p → Q3 rN [some (.inr (.inl 7)), some (.inl (a : Int)), some (.inl (b : Int)), some (.inl (lw : Int)), some (.inl (hg : Int)), some (.inl (tot : Int)), some (.inl ((us : Int) + 1)), some (.inl (p : Int)), some (.inl (od p : Int))] (kup (kup s 34 p (new p : Int)) 35 (new p) (p : Int)) := by
          intro hmm
          rw [hQ3]
          refine kStep_N (P := [some (.inr (.inl 7)), some (.inl (a : Int)), some (.inl (b : Int)), some (.inl (lw : Int)), some (.inl (hg : Int)), some (.inl (tot : Int)), some (.inl ((us : Int) + 1))]) rfl ⟨?_, fun o k o1 o2 => by rw [kup_ne o2, kup_ne o1]; exact S1 o k o1 o2, fun q hq => ?_, fun q hq hm => ?_, fun v hv hall => ?_⟩
          · rw [cntP_succ_pos hmm, hus]; rfl
          · rw [kup_ne (by decide), kup_eq]
            by_cases e : q = p
            · subst e; rw [if_pos rfl, if_pos (by omega)]
            · rw [if_neg e, S2 q hq]
              by_cases e2 : q < p
              · rw [if_pos e2, if_pos (by omega)]
              · rw [if_neg e2, if_neg (by omega)]
          · rw [kup_eq]
            by_cases e : q = p
            · subst e; rw [if_pos rfl]
            · have hqn : q < n := by omega
              have hnq : new q ≠ new p := fun h => e (by rw [← (ok1.1 q hqn).2, ← (ok1.1 p hpn).2, h])
              rw [if_neg hnq, kup_ne (by decide)]; exact S3 q (by omega) hm
          · rw [kup_eq, if_neg (fun h => hall p (by omega) hmm h.symm), kup_ne (by decide)]
            exact S4 v hv (fun q hq hm => hall q (by omega) hm)
        by_cases hmm : M p
        · have e38 : s 38 us = new p := by rw [S1 _ _ (by decide) (by decide), hus]; exact Tn p hpn hmm
          have hnp := (ok1.1 p hpn).1
          have := doit hmm
          have e38' : kup s 34 p (new p : Int) 38 us = new p := by rw [kup_ne (by decide)]; exact e38
          simp only [wpS_skip, wpS_break, wpS_cont, wpS_retV, wpS_throw, wpS_seq, wpS_if, wpS_trunc, yS_let, yS_inc, kgK_i, kgK_r, kok_nil, kok_i0, kok_is, kok_r0, kok_rs, kok_n0, kok_ns, xS_put, xS_putOp, xS_ast0, xS_ast1, xS_astOp, wpS_E, wpS_call, wpS_callS, wpS_ret, kThen_N, kThen_B, kThen_C, kThen_R, kThen_T, kNext_N, kNext_C, kNext_B, kNext_R, wpE_K, wpE_KL, xE_I, xE_R, wpE_J, xE_bin, wpE_ladd, wpE_i2l, xE_get, xE_ald0, xE_ald1, wpE_if, xE_max, xE_min, wpE_len, wpA_nil, wpA_snoc, xE_call, xE_callS, xC_C, xC_L, xC_Z, wpC_and, wpC_or, wpC_not, wpC_if, kcmp_0, kcmp_1, kcmp_2, kcmp_3, kcmp_4, kcmp_5, rR_inj, kgO_some, kgO_add, kgO_sub, kgO_mul, kgO_div, kgO_rem, kgO_and, kvI_inl, kvJ_inl, kgI_0, kgI_s, kgR_0, kgR_s, kst_nil, kst_0, kst_s, kNLl_nil, kNLl_i, kNLl_r, kNLl_n, ktag_i, ktag_r, List.length_cons, List.length_nil, List.take_succ_cons, List.take_zero, List.take_nil, List.nil_append, List.cons_append, decide_eq_true_eq, Bool.not_eq_true, Bool.not_eq_true', decide_eq_false_iff_not, ne_eq, Decidable.not_not, true_and, and_true, Nat.reduceAdd, Nat.reduceLeDiff, Nat.reduceEqDiff, Nat.le_refl, not_true_eq_false, not_false_eq_true, reduceIte, eq_self, Int.reduceNeg, Int.reduceEq, Int.reduceLT, Int.reduceLE, Nat.zero_le, Nat.one_ne_zero, ev_row, ev_row_arr, Int.toNat_natCast, e37, e36, e38, e38']
          rcases mk.mp hmm with w | w
          · simp only [w, decide_true, decide_false, Bool.false_eq_true, if_true, if_false, true_and, and_true, not_true_eq_false, not_false_eq_true]
            repeat refine And.intro (by omega) ?_
            exact this
          · by_cases w2 : s4 37 (od p) = -1
            · simp only [w, w2, decide_true, decide_false, Bool.false_eq_true, if_true, if_false, true_and, and_true, not_true_eq_false, not_false_eq_true]
              repeat refine And.intro (by omega) ?_
              exact this
            · simp only [w2, decide_true, decide_false, Bool.false_eq_true, if_true, if_false, true_and, and_true, not_true_eq_false, not_false_eq_true]
              repeat refine And.intro (by omega) ?_
              exact this
        · have w1 : s4 37 (od p) = -1 := Classical.byContradiction fun w => hmm (mk.mpr (Or.inl w))
          have w2 : s4 36 (od p) = -1 := Classical.byContradiction fun w => hmm (mk.mpr (Or.inr w))
          simp only [wpS_skip, wpS_break, wpS_cont, wpS_retV, wpS_throw, wpS_seq, wpS_if, wpS_trunc, yS_let, yS_inc, kgK_i, kgK_r, kok_nil, kok_i0, kok_is, kok_r0, kok_rs, kok_n0, kok_ns, xS_put, xS_putOp, xS_ast0, xS_ast1, xS_astOp, wpS_E, wpS_call, wpS_callS, wpS_ret, kThen_N, kThen_B, kThen_C, kThen_R, kThen_T, kNext_N, kNext_C, kNext_B, kNext_R, wpE_K, wpE_KL, xE_I, xE_R, wpE_J, xE_bin, wpE_ladd, wpE_i2l, xE_get, xE_ald0, xE_ald1, wpE_if, xE_max, xE_min, wpE_len, wpA_nil, wpA_snoc, xE_call, xE_callS, xC_C, xC_L, xC_Z, wpC_and, wpC_or, wpC_not, wpC_if, kcmp_0, kcmp_1, kcmp_2, kcmp_3, kcmp_4, kcmp_5, rR_inj, kgO_some, kgO_add, kgO_sub, kgO_mul, kgO_div, kgO_rem, kgO_and, kvI_inl, kvJ_inl, kgI_0, kgI_s, kgR_0, kgR_s, kst_nil, kst_0, kst_s, kNLl_nil, kNLl_i, kNLl_r, kNLl_n, ktag_i, ktag_r, List.length_cons, List.length_nil, List.take_succ_cons, List.take_zero, List.take_nil, List.nil_append, List.cons_append, decide_eq_true_eq, Bool.not_eq_true, Bool.not_eq_true', decide_eq_false_iff_not, ne_eq, Decidable.not_not, true_and, and_true, Nat.reduceAdd, Nat.reduceLeDiff, Nat.reduceEqDiff, Nat.le_refl, not_true_eq_false, not_false_eq_true, reduceIte, eq_self, Int.reduceNeg, Int.reduceEq, Int.reduceLT, Int.reduceLE, Nat.zero_le, Nat.one_ne_zero, ev_row, ev_row_arr, Int.toNat_natCast, e37, e36, w1, w2, decide_true, decide_false, Bool.false_eq_true, if_true, if_false, true_and, and_true, not_true_eq_false, not_false_eq_true]
          repeat refine And.intro (by omega) ?_
          exact skip hmm
      · have hend : ∀ p', p ≤ p' → p' < n → ¬ M p' := by
          intro p' h1 h3 h2
          have h5 := hMw p' h2
          by_cases h4 : p ≤ hg
          · have h6 := cntP_lt h3 h2
            have h7 := @cntP_mono M _ _ h1
            rw [← htot] at h6
            rw [← hus] at h7
            omega
          · omega
        have fin : Q1 rN [some (.inr (.inl 7)), some (.inl (a : Int)), some (.inl (b : Int)), some (.inl (lw : Int)), some (.inl (hg : Int)), some (.inl (tot : Int)), some (.inl (us : Int))] s := by
          rw [hQ1]
          rw [hQ0]
          refine kThen_N.mpr (wpS_retV.mpr ⟨none, rfl, rfl, ?_⟩)
          refine ⟨rfl, fun o k ho => by rw [S1 o k (by omega) (by omega), k4 o k (by omega)], fun q hq => ?_, fun v hv => ?_, ok1⟩
          · rw [S2 q hq]
            split
            · rfl
            · rw [unm q (hend q (by omega) hq)]
          · obtain ⟨g1, g2⟩ := ok1.2 v hv
            by_cases hm : M (ivO n new v)
            · have hlt : ivO n new v < p := by
                rcases Nat.lt_or_ge (ivO n new v) p with w | w
                · exact w
                · exact absurd hm (hend _ w g1)
              have := S3 _ hlt hm
              rw [g2] at this
              exact this
            · have e1 : od (ivO n new v) = v := by rw [← unm _ hm]; exact g2
              have e2 : ivO n od v = ivO n new v := by
                have := (r3.1 _ g1).2
                rw [e1] at this
                exact this
              rw [S4 v hv (fun q hq hm2 e => hm ?_), e2]
              have hqn : q < n := by have := (hMw q hm2).2; omega
              have := (ok1.1 q hqn).2
              rw [e] at this
              rw [this]; exact hm2
        by_cases h4 : p ≤ hg
        · have c1 : (p : Int) ≤ (hg : Int) := by omega
          have c2 : ¬ (us : Int) < (tot : Int) := by omega
          refine wpC_gen (fun Q2 hQ2 => ?_)
          simp only [wpS_skip, wpS_break, wpS_cont, wpS_retV, wpS_throw, wpS_seq, wpS_if, wpS_trunc, yS_let, yS_inc, kgK_i, kgK_r, kok_nil, kok_i0, kok_is, kok_r0, kok_rs, kok_n0, kok_ns, xS_put, xS_putOp, xS_ast0, xS_ast1, xS_astOp, wpS_E, wpS_call, wpS_callS, wpS_ret, kThen_N, kThen_B, kThen_C, kThen_R, kThen_T, kNext_N, kNext_C, kNext_B, kNext_R, wpE_K, wpE_KL, xE_I, xE_R, wpE_J, xE_bin, wpE_ladd, wpE_i2l, xE_get, xE_ald0, xE_ald1, wpE_if, xE_max, xE_min, wpE_len, wpA_nil, wpA_snoc, xE_call, xE_callS, xC_C, xC_L, xC_Z, wpC_and, wpC_or, wpC_not, wpC_if, kcmp_0, kcmp_1, kcmp_2, kcmp_3, kcmp_4, kcmp_5, rR_inj, kgO_some, kgO_add, kgO_sub, kgO_mul, kgO_div, kgO_rem, kgO_and, kvI_inl, kvJ_inl, kgI_0, kgI_s, kgR_0, kgR_s, kst_nil, kst_0, kst_s, kNLl_nil, kNLl_i, kNLl_r, kNLl_n, ktag_i, ktag_r, List.length_cons, List.length_nil, List.take_succ_cons, List.take_zero, List.take_nil, List.nil_append, List.cons_append, decide_eq_true_eq, Bool.not_eq_true, Bool.not_eq_true', decide_eq_false_iff_not, ne_eq, Decidable.not_not, true_and, and_true, Nat.reduceAdd, Nat.reduceLeDiff, Nat.reduceEqDiff, Nat.le_refl, not_true_eq_false, not_false_eq_true, reduceIte, eq_self, Int.reduceNeg, Int.reduceEq, Int.reduceLT, Int.reduceLE, Nat.zero_le, Nat.one_ne_zero, c1, c2, decide_true, decide_false, Bool.false_eq_true, if_true, if_false, true_and, and_true, not_true_eq_false, not_false_eq_true]
          rw [hQ2]
          exact ⟨rfl, Or.inr ⟨rfl, fin⟩⟩
        · have c1 : ¬ (p : Int) ≤ (hg : Int) := by omega
          refine wpC_gen (fun Q2 hQ2 => ?_)
          simp only [wpS_skip, wpS_break, wpS_cont, wpS_retV, wpS_throw, wpS_seq, wpS_if, wpS_trunc, yS_let, yS_inc, kgK_i, kgK_r, kok_nil, kok_i0, kok_is, kok_r0, kok_rs, kok_n0, kok_ns, xS_put, xS_putOp, xS_ast0, xS_ast1, xS_astOp, wpS_E, wpS_call, wpS_callS, wpS_ret, kThen_N, kThen_B, kThen_C, kThen_R, kThen_T, kNext_N, kNext_C, kNext_B, kNext_R, wpE_K, wpE_KL, xE_I, xE_R, wpE_J, xE_bin, wpE_ladd, wpE_i2l, xE_get, xE_ald0, xE_ald1, wpE_if, xE_max, xE_min, wpE_len, wpA_nil, wpA_snoc, xE_call, xE_callS, xC_C, xC_L, xC_Z, wpC_and, wpC_or, wpC_not, wpC_if, kcmp_0, kcmp_1, kcmp_2, kcmp_3, kcmp_4, kcmp_5, rR_inj, kgO_some, kgO_add, kgO_sub, kgO_mul, kgO_div, kgO_rem, kgO_and, kvI_inl, kvJ_inl, kgI_0, kgI_s, kgR_0, kgR_s, kst_nil, kst_0, kst_s, kNLl_nil, kNLl_i, kNLl_r, kNLl_n, ktag_i, ktag_r, List.length_cons, List.length_nil, List.take_succ_cons, List.take_zero, List.take_nil, List.nil_append, List.cons_append, decide_eq_true_eq, Bool.not_eq_true, Bool.not_eq_true', decide_eq_false_iff_not, ne_eq, Decidable.not_not, true_and, and_true, Nat.reduceAdd, Nat.reduceLeDiff, Nat.reduceEqDiff, Nat.le_refl, not_true_eq_false, not_false_eq_true, reduceIte, eq_self, Int.reduceNeg, Int.reduceEq, Int.reduceLT, Int.reduceLE, Nat.zero_le, Nat.one_ne_zero, c1, decide_true, decide_false, Bool.false_eq_true, if_true, if_false, true_and, and_true, not_true_eq_false, not_false_eq_true]
          rw [hQ2]
          exact ⟨rfl, Or.inr ⟨rfl, fin⟩⟩
