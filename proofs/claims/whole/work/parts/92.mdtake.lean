/-! THE REFERENCE'S take -/
section MT2
variable {σ : kS} {n c ar st : Nat} {li fs sn lv od : Nat → Nat} {tr lo wt sp tk : Nat → Int} {sf ss : Nat → Nat} {rt dp : Nat → Nat} {pa up : Nat → Int} {mv : Int}
def remL (q : Nat) (li : Nat → Nat) (k : Nat) : Nat := if k < q then li k else li (k + 1)
theorem gOk_rem {q : Nat} (hG : gOk n c ar li fs sn) (hq : q < c) : gOk n (c - 1) ar (remL q li) fs sn := by
  obtain ⟨h1, h2, h3, h4, h5⟩ := hG
  refine ⟨h1, by omega, h3, fun k hk => ?_, fun i j hij hj => ?_⟩
  · unfold remL
    split
    · exact h4 k (by omega)
    · exact h4 (k + 1) (by omega)
  · unfold remL
    split <;> split
    · exact h5 i j hij (by omega)
    · exact h5 i (j + 1) (by omega) (by omega)
    · omega
    · exact h5 (i + 1) (j + 1) (by omega) (by omega)
theorem th_remL {q x y : Nat} (hG : gOk n c ar li fs sn) (hq : q < c) (hx : li q = x) : th (c - 1) (remL q li) y ↔ th c li y ∧ y ≠ x := by
  rw [← hx]
  exact th_rem hG.inj hq (fun k _ => rfl)
/-- the arrays with the levels and tree arcs as they are now -/
theorem RM.relevel {s : kS} {lv' : Nat → Nat} {tr' : Nat → Int} (h : RM σ n c ar li fs sn lv tr lo) (hs : ∀ o k, o ≠ 73 → o ≠ 74 → ¬ mSc o k → s o k = σ o k) (h1 : ∀ x, s 73 x = (lv' x : Int)) (h2 : ∀ x, s 74 x = tr' x) : RM s n c ar li fs sn lv' tr' lo := by
  obtain ⟨m1, m2, m3, m4, m5, m6, m7, m8, m9, m10⟩ := h
  have f : ∀ o k, (71 ≤ o ∧ o ≤ 77 ∧ o ≠ 73 ∧ o ≠ 74) ∨ (o = 14 ∧ k < 14) → s o k = σ o k := fun o k h => hs o k (by omega) (by omega) (by unfold mSc; omega)
  exact ⟨by rw [f _ _ (by omega)]; exact m1, by rw [f _ _ (by omega)]; exact m2, by rw [f _ _ (by omega)]; exact m3, fun k hk => by rw [f _ _ (by omega)]; exact m4 k hk, fun x => by rw [f _ _ (by omega)]; exact m5 x, fun x => by rw [f _ _ (by omega)]; exact m6 x, h1, h2, fun x => by rw [f _ _ (by omega)]; exact m9 x, fun x hx => by rw [f _ _ (by omega)]; exact m10 x hx⟩
theorem RM.reloose {s : kS} {lo' : Nat → Int} (h : RM σ n c ar li fs sn lv tr lo) (hs : ∀ o k, o ≠ 75 → o ≠ 78 → o ≠ 79 → ¬ mSc o k → s o k = σ o k) (h1 : ∀ x, s 75 x = lo' x) : RM s n c ar li fs sn lv tr lo' := by
  obtain ⟨m1, m2, m3, m4, m5, m6, m7, m8, m9, m10⟩ := h
  have f : ∀ o k, (71 ≤ o ∧ o ≤ 77 ∧ o ≠ 75) ∨ (o = 14 ∧ k < 14) → s o k = σ o k := fun o k h => hs o k (by omega) (by omega) (by omega) (by unfold mSc; omega)
  exact ⟨by rw [f _ _ (by omega)]; exact m1, by rw [f _ _ (by omega)]; exact m2, by rw [f _ _ (by omega)]; exact m3, fun k hk => by rw [f _ _ (by omega)]; exact m4 k hk, fun x => by rw [f _ _ (by omega)]; exact m5 x, fun x => by rw [f _ _ (by omega)]; exact m6 x, fun x => by rw [f _ _ (by omega)]; exact m7 x, fun x => by rw [f _ _ (by omega)]; exact m8 x, h1, fun x hx => by rw [f _ _ (by omega)]; exact m10 x hx⟩
theorem mdTakeBad_ok {a : Int} (hG : gOk n c ar li fs sn) (hM : RM σ n c ar li fs sn lv tr lo) (hno : ¬ (0 ≤ a ∧ a < (ar : Int) ∧ th c li a.toNat)) :
    wpF F_Md_take [.inr (.inl 14), .inl a] σ (fun r s => sK (kup σ 14 22 1) s ∧ r = some (.inl 0)) := by
  unfold F_Md_take
  rw [wpF_kF]
  refine ⟨rfl, rfl, ?_⟩
  unfold s_Md_take
  simp only [List.map_cons, List.map_nil]
  refine wpS_seq' (fun Q101 hQ101 => ?_)
  simp only [wpS_skip, wpS_break, wpS_cont, wpS_retV, wpS_throw, wpS_seq, wpS_if, wpS_trunc, yS_let, yS_inc, kgK_i, kgK_r, kok_nil, kok_i0, kok_is, kok_r0, kok_rs, kok_n0, kok_ns, xS_put, xS_putOp, xS_ast0, xS_ast1, xS_astOp, wpS_E, wpS_call, wpS_callS, wpS_ret, kThen_N, kThen_B, kThen_C, kThen_R, kThen_T, kNext_N, kNext_C, kNext_B, kNext_R, wpE_K, wpE_KL, xE_I, xE_R, wpE_J, xE_bin, wpE_ladd, wpE_i2l, xE_get, xE_ald0, xE_ald1, wpE_if, xE_max, xE_min, wpE_len, wpA_nil, wpA_snoc, xE_call, xE_callS, xC_C, xC_L, xC_Z, wpC_and, wpC_or, wpC_not, wpC_if, kcmp_0, kcmp_1, kcmp_2, kcmp_3, kcmp_4, kcmp_5, rR_inj, kgO_some, kgO_add, kgO_sub, kgO_mul, kgO_div, kgO_rem, kgO_and, kvI_inl, kvJ_inl, kgI_0, kgI_s, kgR_0, kgR_s, kst_nil, kst_0, kst_s, kNLl_nil, kNLl_i, kNLl_r, kNLl_n, ktag_i, ktag_r, List.length_cons, List.length_nil, List.take_succ_cons, List.take_zero, List.take_nil, List.nil_append, List.cons_append, decide_eq_true_eq, Bool.not_eq_true, Bool.not_eq_true', decide_eq_false_iff_not, ne_eq, Decidable.not_not, true_and, and_true, Nat.reduceAdd, Nat.reduceLeDiff, Nat.reduceEqDiff, Nat.le_refl, not_true_eq_false, not_false_eq_true, reduceIte, eq_self, Int.reduceNeg, Int.reduceEq, Int.reduceLT, Int.reduceLE, Nat.zero_le, Nat.one_ne_zero, ev_model]
  repeat refine And.intro (by omega) ?_
  rw [hQ101]
  clear hQ101 Q101
  refine kThen_N.mpr ?_
  obtain ⟨σ0, hσ⟩ : ∃ s, s = kup σ 14 22 0 := ⟨_, rfl⟩
  rw [← hσ]
  have M0 : RM σ0 n c ar li fs sn lv tr lo := by rw [hσ]; exact hM.thrown
  refine wpS_seq' (fun Q102 hQ102 => ?_)
  simp only [wpS_skip, wpS_break, wpS_cont, wpS_retV, wpS_throw, wpS_seq, wpS_if, wpS_trunc, yS_let, yS_inc, kgK_i, kgK_r, kok_nil, kok_i0, kok_is, kok_r0, kok_rs, kok_n0, kok_ns, xS_put, xS_putOp, xS_ast0, xS_ast1, xS_astOp, wpS_E, wpS_call, wpS_callS, wpS_ret, kThen_N, kThen_B, kThen_C, kThen_R, kThen_T, kNext_N, kNext_C, kNext_B, kNext_R, wpE_K, wpE_KL, xE_I, xE_R, wpE_J, xE_bin, wpE_ladd, wpE_i2l, xE_get, xE_ald0, xE_ald1, wpE_if, xE_max, xE_min, wpE_len, wpA_nil, wpA_snoc, xE_call, xE_callS, xC_C, xC_L, xC_Z, wpC_and, wpC_or, wpC_not, wpC_if, kcmp_0, kcmp_1, kcmp_2, kcmp_3, kcmp_4, kcmp_5, rR_inj, kgO_some, kgO_add, kgO_sub, kgO_mul, kgO_div, kgO_rem, kgO_and, kvI_inl, kvJ_inl, kgI_0, kgI_s, kgR_0, kgR_s, kst_nil, kst_0, kst_s, kNLl_nil, kNLl_i, kNLl_r, kNLl_n, ktag_i, ktag_r, List.length_cons, List.length_nil, List.take_succ_cons, List.take_zero, List.take_nil, List.nil_append, List.cons_append, decide_eq_true_eq, Bool.not_eq_true, Bool.not_eq_true', decide_eq_false_iff_not, ne_eq, Decidable.not_not, true_and, and_true, Nat.reduceAdd, Nat.reduceLeDiff, Nat.reduceEqDiff, Nat.le_refl, not_true_eq_false, not_false_eq_true, reduceIte, eq_self, Int.reduceNeg, Int.reduceEq, Int.reduceLT, Int.reduceLE, Nat.zero_le, Nat.one_ne_zero, ev_model]
  refine (mdIsArc_ok hG M0).mono ?_
  rintro r s ⟨hs, hr⟩
  subst s
  obtain ⟨-, rfl⟩ := hr.resolve_left (fun h => hno ⟨h.1, h.2.1, h.2.2.1⟩)
  rw [kgO_some]
  simp only [wpS_skip, wpS_break, wpS_cont, wpS_retV, wpS_throw, wpS_seq, wpS_if, wpS_trunc, yS_let, yS_inc, kgK_i, kgK_r, kok_nil, kok_i0, kok_is, kok_r0, kok_rs, kok_n0, kok_ns, xS_put, xS_putOp, xS_ast0, xS_ast1, xS_astOp, wpS_E, wpS_call, wpS_callS, wpS_ret, kThen_N, kThen_B, kThen_C, kThen_R, kThen_T, kNext_N, kNext_C, kNext_B, kNext_R, wpE_K, wpE_KL, xE_I, xE_R, wpE_J, xE_bin, wpE_ladd, wpE_i2l, xE_get, xE_ald0, xE_ald1, wpE_if, xE_max, xE_min, wpE_len, wpA_nil, wpA_snoc, xE_call, xE_callS, xC_C, xC_L, xC_Z, wpC_and, wpC_or, wpC_not, wpC_if, kcmp_0, kcmp_1, kcmp_2, kcmp_3, kcmp_4, kcmp_5, rR_inj, kgO_some, kgO_add, kgO_sub, kgO_mul, kgO_div, kgO_rem, kgO_and, kvI_inl, kvJ_inl, kgI_0, kgI_s, kgR_0, kgR_s, kst_nil, kst_0, kst_s, kNLl_nil, kNLl_i, kNLl_r, kNLl_n, ktag_i, ktag_r, List.length_cons, List.length_nil, List.take_succ_cons, List.take_zero, List.take_nil, List.nil_append, List.cons_append, decide_eq_true_eq, Bool.not_eq_true, Bool.not_eq_true', decide_eq_false_iff_not, ne_eq, Decidable.not_not, true_and, and_true, Nat.reduceAdd, Nat.reduceLeDiff, Nat.reduceEqDiff, Nat.le_refl, not_true_eq_false, not_false_eq_true, reduceIte, eq_self, Int.reduceNeg, Int.reduceEq, Int.reduceLT, Int.reduceLE, Nat.zero_le, Nat.one_ne_zero, decide_true, decide_false, Bool.false_eq_true, if_true, if_false, true_and, and_true, not_true_eq_false, not_false_eq_true]
  refine bad_ok hσ ?_
  refine ⟨rfl, ?_⟩
  rw [hQ102]
  exact kThen_R.mpr ⟨_, rfl, rfl, sK.refl _, rfl⟩
/-- the loose arcs are looked at, one after the other -/
theorem mdTakeOrd_ok {x : Nat} {z : Int} {Q : kR → kL → kS → Prop} (hG : gOk n c ar li fs sn) (hM : RM σ n c ar li fs sn lv tr lo) (hR : RO σ n od) (hI : oInv n c li fs sn (lo, od))
    (hQ : ∀ s, (∀ o k, o ≠ 75 → o ≠ 78 → o ≠ 79 → ¬ mSd o k → s o k = σ o k) → RM s n c ar li fs sn lv tr (oRun n c li fs sn (lo, od) c).1 → RO s n (oRun n c li fs sn (lo, od) c).2 → Q rN [some (.inr (.inl 14)), some (.inl (x : Int)), some (.inl z)] s) :
    wpS (sTrunc 3 (sSeq (sLet 0 3 (eK (0))) l_Md_take_3)) [some (.inr (.inl 14)), some (.inl (x : Int)), some (.inl z)] σ Q := by
  obtain ⟨hn3, hc9, ha5, hli, -⟩ := id hG
  unfold l_Md_take_3
  refine wpS_fp (fun i s => (∀ o k, o ≠ 75 → o ≠ 78 → o ≠ 79 → ¬ mSd o k → s o k = σ o k) ∧ RM s n c ar li fs sn lv tr (oRun n c li fs sn (lo, od) i).1 ∧ RO s n (oRun n c li fs sn (lo, od) i).2) 0 c rfl rfl ?_ ?_ ?_ ?_ ?_ ?_
  · simp only [wpS_skip, wpS_break, wpS_cont, wpS_retV, wpS_throw, wpS_seq, wpS_if, wpS_trunc, yS_let, yS_inc, kgK_i, kgK_r, kok_nil, kok_i0, kok_is, kok_r0, kok_rs, kok_n0, kok_ns, xS_put, xS_putOp, xS_ast0, xS_ast1, xS_astOp, wpS_E, wpS_call, wpS_callS, wpS_ret, kThen_N, kThen_B, kThen_C, kThen_R, kThen_T, kNext_N, kNext_C, kNext_B, kNext_R, wpE_K, wpE_KL, xE_I, xE_R, wpE_J, xE_bin, wpE_ladd, wpE_i2l, xE_get, xE_ald0, xE_ald1, wpE_if, xE_max, xE_min, wpE_len, wpA_nil, wpA_snoc, xE_call, xE_callS, xC_C, xC_L, xC_Z, wpC_and, wpC_or, wpC_not, wpC_if, kcmp_0, kcmp_1, kcmp_2, kcmp_3, kcmp_4, kcmp_5, rR_inj, kgO_some, kgO_add, kgO_sub, kgO_mul, kgO_div, kgO_rem, kgO_and, kvI_inl, kvJ_inl, kgI_0, kgI_s, kgR_0, kgR_s, kst_nil, kst_0, kst_s, kNLl_nil, kNLl_i, kNLl_r, kNLl_n, ktag_i, ktag_r, List.length_cons, List.length_nil, List.take_succ_cons, List.take_zero, List.take_nil, List.nil_append, List.cons_append, decide_eq_true_eq, Bool.not_eq_true, Bool.not_eq_true', decide_eq_false_iff_not, ne_eq, Decidable.not_not, true_and, and_true, Nat.reduceAdd, Nat.reduceLeDiff, Nat.reduceEqDiff, Nat.le_refl, not_true_eq_false, not_false_eq_true, reduceIte, eq_self, Int.reduceNeg, Int.reduceEq, Int.reduceLT, Int.reduceLE, Nat.zero_le, Nat.one_ne_zero]; trivial
  · omega
  · exact ⟨fun _ _ _ _ _ _ => rfl, hM, hR⟩
  · rintro i s - - ⟨-, M, -⟩
    simp only [wpS_skip, wpS_break, wpS_cont, wpS_retV, wpS_throw, wpS_seq, wpS_if, wpS_trunc, yS_let, yS_inc, kgK_i, kgK_r, kok_nil, kok_i0, kok_is, kok_r0, kok_rs, kok_n0, kok_ns, xS_put, xS_putOp, xS_ast0, xS_ast1, xS_astOp, wpS_E, wpS_call, wpS_callS, wpS_ret, kThen_N, kThen_B, kThen_C, kThen_R, kThen_T, kNext_N, kNext_C, kNext_B, kNext_R, wpE_K, wpE_KL, xE_I, xE_R, wpE_J, xE_bin, wpE_ladd, wpE_i2l, xE_get, xE_ald0, xE_ald1, wpE_if, xE_max, xE_min, wpE_len, wpA_nil, wpA_snoc, xE_call, xE_callS, xC_C, xC_L, xC_Z, wpC_and, wpC_or, wpC_not, wpC_if, kcmp_0, kcmp_1, kcmp_2, kcmp_3, kcmp_4, kcmp_5, rR_inj, kgO_some, kgO_add, kgO_sub, kgO_mul, kgO_div, kgO_rem, kgO_and, kvI_inl, kvJ_inl, kgI_0, kgI_s, kgR_0, kgR_s, kst_nil, kst_0, kst_s, kNLl_nil, kNLl_i, kNLl_r, kNLl_n, ktag_i, ktag_r, List.length_cons, List.length_nil, List.take_succ_cons, List.take_zero, List.take_nil, List.nil_append, List.cons_append, decide_eq_true_eq, Bool.not_eq_true, Bool.not_eq_true', decide_eq_false_iff_not, ne_eq, Decidable.not_not, true_and, and_true, Nat.reduceAdd, Nat.reduceLeDiff, Nat.reduceEqDiff, Nat.le_refl, not_true_eq_false, not_false_eq_true, reduceIte, eq_self, Int.reduceNeg, Int.reduceEq, Int.reduceLT, Int.reduceLE, Nat.zero_le, Nat.one_ne_zero, ev_model, M.2.1]
  · rintro i s - hi ⟨f, M, R⟩
    have hinv := oRun_inv hG hI i (by omega)
    obtain ⟨lo1, hlo1⟩ : ∃ l, l = (oRun n c li fs sn (lo, od) i).1 := ⟨_, rfl⟩
    obtain ⟨od1, hod1⟩ : ∃ l, l = (oRun n c li fs sn (lo, od) i).2 := ⟨_, rfl⟩
    rw [← hlo1] at M
    rw [← hod1] at R
    obtain ⟨hl, hf, hs'⟩ := hli i hi
    have e77 := M.2.2.2.1 i hi
    have hstep : oRun n c li fs sn (lo, od) (i + 1) = oStp n c li fs sn (oRun n c li fs sn (lo, od) i) (li i) := rfl
    obtain ⟨y, hy⟩ : ∃ y, y = li i := ⟨_, rfl⟩
    rw [← hy] at e77 hl hf hs' hstep
    unfold oStp at hstep
    rw [← hlo1, ← hod1] at hstep
    have e75 := M.2.2.2.2.2.2.2.2.1 y
    have e71 := M.2.2.2.2.1 y
    have e72 := M.2.2.2.2.2.1 y
    have h01 : lo1 y = 0 ∨ lo1 y = 1 := by rw [hlo1]; exact hinv.2.2 y
    rw [wpS_trunc]
    refine wpS_seq' (fun Q103 hQ103 => ?_)
    simp only [wpS_skip, wpS_break, wpS_cont, wpS_retV, wpS_throw, wpS_seq, wpS_if, wpS_trunc, yS_let, yS_inc, kgK_i, kgK_r, kok_nil, kok_i0, kok_is, kok_r0, kok_rs, kok_n0, kok_ns, xS_put, xS_putOp, xS_ast0, xS_ast1, xS_astOp, wpS_E, wpS_call, wpS_callS, wpS_ret, kThen_N, kThen_B, kThen_C, kThen_R, kThen_T, kNext_N, kNext_C, kNext_B, kNext_R, wpE_K, wpE_KL, xE_I, xE_R, wpE_J, xE_bin, wpE_ladd, wpE_i2l, xE_get, xE_ald0, xE_ald1, wpE_if, xE_max, xE_min, wpE_len, wpA_nil, wpA_snoc, xE_call, xE_callS, xC_C, xC_L, xC_Z, wpC_and, wpC_or, wpC_not, wpC_if, kcmp_0, kcmp_1, kcmp_2, kcmp_3, kcmp_4, kcmp_5, rR_inj, kgO_some, kgO_add, kgO_sub, kgO_mul, kgO_div, kgO_rem, kgO_and, kvI_inl, kvJ_inl, kgI_0, kgI_s, kgR_0, kgR_s, kst_nil, kst_0, kst_s, kNLl_nil, kNLl_i, kNLl_r, kNLl_n, ktag_i, ktag_r, List.length_cons, List.length_nil, List.take_succ_cons, List.take_zero, List.take_nil, List.nil_append, List.cons_append, decide_eq_true_eq, Bool.not_eq_true, Bool.not_eq_true', decide_eq_false_iff_not, ne_eq, Decidable.not_not, true_and, and_true, Nat.reduceAdd, Nat.reduceLeDiff, Nat.reduceEqDiff, Nat.le_refl, not_true_eq_false, not_false_eq_true, reduceIte, eq_self, Int.reduceNeg, Int.reduceEq, Int.reduceLT, Int.reduceLE, Nat.zero_le, Nat.one_ne_zero, ev_model, ev_model_arr, Int.toNat_natCast, e77]
    repeat refine And.intro (by omega) ?_
    rw [hQ103]
    clear hQ103 Q103
    refine kThen_N.mpr ?_
    refine wpS_gen (fun Q2 hQ2 => ?_)
    have skip : ∀ s2, sK s s2 → (∀ o k, o ≠ 75 → o ≠ 78 → o ≠ 79 → ¬ mSd o k → s2 o k = s o k) → ¬ (lo1 y ≠ 0 ∧ fs y ≠ sn y ∧ ¬ rch (dE (fun y => th c li y ∧ lo1 y = 0) fs sn) (sn y) (fs y)) → Q2 rN [some (.inr (.inl 14)), some (.inl (x : Int)), some (.inl z), some (.inl (i : Int)), some (.inl (y : Int))] s2 := by
      intro s2 k2 f2 hno
      rw [hQ2]
      rw [if_neg hno] at hstep
      refine kStep_N rfl ⟨rfl, fun o k h1 h2 h3 h4 => by rw [f2 o k h1 h2 h3 h4]; exact f o k h1 h2 h3 h4, by rw [hstep, ← hlo1]; exact M.keep k2, ?_⟩
      rw [hstep, ← hod1]
      exact ⟨fun p hp => by rw [k2 _ _ (by unfold mSc; omega)]; exact R.1 p hp, fun p hp => by rw [k2 _ _ (by unfold mSc; omega)]; exact R.2.1 p hp, R.2.2⟩
    rcases h01 with q | q
    · rw [q] at e75
      simp only [wpS_skip, wpS_break, wpS_cont, wpS_retV, wpS_throw, wpS_seq, wpS_if, wpS_trunc, yS_let, yS_inc, kgK_i, kgK_r, kok_nil, kok_i0, kok_is, kok_r0, kok_rs, kok_n0, kok_ns, xS_put, xS_putOp, xS_ast0, xS_ast1, xS_astOp, wpS_E, wpS_call, wpS_callS, wpS_ret, kThen_N, kThen_B, kThen_C, kThen_R, kThen_T, kNext_N, kNext_C, kNext_B, kNext_R, wpE_K, wpE_KL, xE_I, xE_R, wpE_J, xE_bin, wpE_ladd, wpE_i2l, xE_get, xE_ald0, xE_ald1, wpE_if, xE_max, xE_min, wpE_len, wpA_nil, wpA_snoc, xE_call, xE_callS, xC_C, xC_L, xC_Z, wpC_and, wpC_or, wpC_not, wpC_if, kcmp_0, kcmp_1, kcmp_2, kcmp_3, kcmp_4, kcmp_5, rR_inj, kgO_some, kgO_add, kgO_sub, kgO_mul, kgO_div, kgO_rem, kgO_and, kvI_inl, kvJ_inl, kgI_0, kgI_s, kgR_0, kgR_s, kst_nil, kst_0, kst_s, kNLl_nil, kNLl_i, kNLl_r, kNLl_n, ktag_i, ktag_r, List.length_cons, List.length_nil, List.take_succ_cons, List.take_zero, List.take_nil, List.nil_append, List.cons_append, decide_eq_true_eq, Bool.not_eq_true, Bool.not_eq_true', decide_eq_false_iff_not, ne_eq, Decidable.not_not, true_and, and_true, Nat.reduceAdd, Nat.reduceLeDiff, Nat.reduceEqDiff, Nat.le_refl, not_true_eq_false, not_false_eq_true, reduceIte, eq_self, Int.reduceNeg, Int.reduceEq, Int.reduceLT, Int.reduceLE, Nat.zero_le, Nat.one_ne_zero, ev_model, ev_model_arr, Int.toNat_natCast, e75, decide_true, decide_false, Bool.false_eq_true, if_true, if_false, true_and, and_true, not_true_eq_false, not_false_eq_true]
      repeat refine And.intro (by omega) ?_
      exact skip s (sK.refl _) (fun _ _ _ _ _ _ => rfl) (fun h => h.1 q)
    · rw [q] at e75
      by_cases q2 : fs y = sn y
      · have q2' : ((fs y : Int) = (sn y : Int)) = True := eq_true (by omega)
        simp only [wpS_skip, wpS_break, wpS_cont, wpS_retV, wpS_throw, wpS_seq, wpS_if, wpS_trunc, yS_let, yS_inc, kgK_i, kgK_r, kok_nil, kok_i0, kok_is, kok_r0, kok_rs, kok_n0, kok_ns, xS_put, xS_putOp, xS_ast0, xS_ast1, xS_astOp, wpS_E, wpS_call, wpS_callS, wpS_ret, kThen_N, kThen_B, kThen_C, kThen_R, kThen_T, kNext_N, kNext_C, kNext_B, kNext_R, wpE_K, wpE_KL, xE_I, xE_R, wpE_J, xE_bin, wpE_ladd, wpE_i2l, xE_get, xE_ald0, xE_ald1, wpE_if, xE_max, xE_min, wpE_len, wpA_nil, wpA_snoc, xE_call, xE_callS, xC_C, xC_L, xC_Z, wpC_and, wpC_or, wpC_not, wpC_if, kcmp_0, kcmp_1, kcmp_2, kcmp_3, kcmp_4, kcmp_5, rR_inj, kgO_some, kgO_add, kgO_sub, kgO_mul, kgO_div, kgO_rem, kgO_and, kvI_inl, kvJ_inl, kgI_0, kgI_s, kgR_0, kgR_s, kst_nil, kst_0, kst_s, kNLl_nil, kNLl_i, kNLl_r, kNLl_n, ktag_i, ktag_r, List.length_cons, List.length_nil, List.take_succ_cons, List.take_zero, List.take_nil, List.nil_append, List.cons_append, decide_eq_true_eq, Bool.not_eq_true, Bool.not_eq_true', decide_eq_false_iff_not, ne_eq, Decidable.not_not, true_and, and_true, Nat.reduceAdd, Nat.reduceLeDiff, Nat.reduceEqDiff, Nat.le_refl, not_true_eq_false, not_false_eq_true, reduceIte, eq_self, Int.reduceNeg, Int.reduceEq, Int.reduceLT, Int.reduceLE, Nat.zero_le, Nat.one_ne_zero, ev_model, ev_model_arr, Int.toNat_natCast, e75, e71, e72, q2', decide_true, decide_false, Bool.false_eq_true, if_true, if_false, true_and, and_true, not_true_eq_false, not_false_eq_true]
        repeat refine And.intro (by omega) ?_
        exact skip s (sK.refl _) (fun _ _ _ _ _ _ => rfl) (fun h => h.2.1 q2)
      · have q2' : ¬ (fs y : Int) = (sn y : Int) := by omega
        simp only [wpS_skip, wpS_break, wpS_cont, wpS_retV, wpS_throw, wpS_seq, wpS_if, wpS_trunc, yS_let, yS_inc, kgK_i, kgK_r, kok_nil, kok_i0, kok_is, kok_r0, kok_rs, kok_n0, kok_ns, xS_put, xS_putOp, xS_ast0, xS_ast1, xS_astOp, wpS_E, wpS_call, wpS_callS, wpS_ret, kThen_N, kThen_B, kThen_C, kThen_R, kThen_T, kNext_N, kNext_C, kNext_B, kNext_R, wpE_K, wpE_KL, xE_I, xE_R, wpE_J, xE_bin, wpE_ladd, wpE_i2l, xE_get, xE_ald0, xE_ald1, wpE_if, xE_max, xE_min, wpE_len, wpA_nil, wpA_snoc, xE_call, xE_callS, xC_C, xC_L, xC_Z, wpC_and, wpC_or, wpC_not, wpC_if, kcmp_0, kcmp_1, kcmp_2, kcmp_3, kcmp_4, kcmp_5, rR_inj, kgO_some, kgO_add, kgO_sub, kgO_mul, kgO_div, kgO_rem, kgO_and, kvI_inl, kvJ_inl, kgI_0, kgI_s, kgR_0, kgR_s, kst_nil, kst_0, kst_s, kNLl_nil, kNLl_i, kNLl_r, kNLl_n, ktag_i, ktag_r, List.length_cons, List.length_nil, List.take_succ_cons, List.take_zero, List.take_nil, List.nil_append, List.cons_append, decide_eq_true_eq, Bool.not_eq_true, Bool.not_eq_true', decide_eq_false_iff_not, ne_eq, Decidable.not_not, true_and, and_true, Nat.reduceAdd, Nat.reduceLeDiff, Nat.reduceEqDiff, Nat.le_refl, not_true_eq_false, not_false_eq_true, reduceIte, eq_self, Int.reduceNeg, Int.reduceEq, Int.reduceLT, Int.reduceLE, Nat.zero_le, Nat.one_ne_zero, ev_model, ev_model_arr, Int.toNat_natCast, e75, e71, e72, q2', decide_true, decide_false, Bool.false_eq_true, if_true, if_false, true_and, and_true, not_true_eq_false, not_false_eq_true]
        repeat refine And.intro (by omega) ?_
        refine (walkSee_ok hG (M.Mg hG) hs' (mE_ordered M)).mono ?_
        rintro r s2 ⟨rfl, k2, ⟨a85, -, -, -⟩, -⟩
        refine ⟨rfl, ?_⟩
        have M2 := M.keep k2.sK
        have g71 := M2.2.2.2.2.1 y
        obtain ⟨z1, z2⟩ := a85 _ hf
        rcases z1 with z1 | z1
        · have hno : ¬ rch (dE (fun y => th c li y ∧ lo1 y = 0) fs sn) (sn y) (fs y) := fun h => by have := z2.mpr h; omega
          have R2 : RO s2 n od1 := ⟨fun p hp => by rw [k2.sK _ _ (by unfold mSc; omega)]; exact R.1 p hp, fun p hp => by rw [k2.sK _ _ (by unfold mSc; omega)]; exact R.2.1 p hp, R.2.2⟩
          simp only [wpS_skip, wpS_break, wpS_cont, wpS_retV, wpS_throw, wpS_seq, wpS_if, wpS_trunc, yS_let, yS_inc, kgK_i, kgK_r, kok_nil, kok_i0, kok_is, kok_r0, kok_rs, kok_n0, kok_ns, xS_put, xS_putOp, xS_ast0, xS_ast1, xS_astOp, wpS_E, wpS_call, wpS_callS, wpS_ret, kThen_N, kThen_B, kThen_C, kThen_R, kThen_T, kNext_N, kNext_C, kNext_B, kNext_R, wpE_K, wpE_KL, xE_I, xE_R, wpE_J, xE_bin, wpE_ladd, wpE_i2l, xE_get, xE_ald0, xE_ald1, wpE_if, xE_max, xE_min, wpE_len, wpA_nil, wpA_snoc, xE_call, xE_callS, xC_C, xC_L, xC_Z, wpC_and, wpC_or, wpC_not, wpC_if, kcmp_0, kcmp_1, kcmp_2, kcmp_3, kcmp_4, kcmp_5, rR_inj, kgO_some, kgO_add, kgO_sub, kgO_mul, kgO_div, kgO_rem, kgO_and, kvI_inl, kvJ_inl, kgI_0, kgI_s, kgR_0, kgR_s, kst_nil, kst_0, kst_s, kNLl_nil, kNLl_i, kNLl_r, kNLl_n, ktag_i, ktag_r, List.length_cons, List.length_nil, List.take_succ_cons, List.take_zero, List.take_nil, List.nil_append, List.cons_append, decide_eq_true_eq, Bool.not_eq_true, Bool.not_eq_true', decide_eq_false_iff_not, ne_eq, Decidable.not_not, true_and, and_true, Nat.reduceAdd, Nat.reduceLeDiff, Nat.reduceEqDiff, Nat.le_refl, not_true_eq_false, not_false_eq_true, reduceIte, eq_self, Int.reduceNeg, Int.reduceEq, Int.reduceLT, Int.reduceLE, Nat.zero_le, Nat.one_ne_zero, ev_model, ev_model_arr, Int.toNat_natCast, g71, z1, decide_true, decide_false, Bool.false_eq_true, if_true, if_false, true_and, and_true, not_true_eq_false, not_false_eq_true]
          repeat refine And.intro (by omega) ?_
          refine (mdBecome_ok hG M2 R2 (by omega) hf hs' q2 (by rw [hlo1, hod1]; exact hinv.2.1) hno).mono ?_
          rintro r s3 ⟨rfl, f3, l3, R3⟩
          refine ⟨rfl, ?_⟩
          rw [hQ2]
          rw [if_pos ⟨by omega, q2, hno⟩] at hstep
          refine kStep_N rfl ⟨rfl, fun o k h1 h2 h3 h4 => by rw [f3 o k h1 h2 h3 h4, k2.sJ o k h4]; exact f o k h1 h2 h3 h4, ?_, by rw [hstep]; exact R3⟩
          rw [hstep]
          exact M2.reloose (fun o k h1 h2 h3 h4 => f3 o k h1 h2 h3 (by unfold mSc at h4; unfold mSd; omega)) l3
        · simp only [wpS_skip, wpS_break, wpS_cont, wpS_retV, wpS_throw, wpS_seq, wpS_if, wpS_trunc, yS_let, yS_inc, kgK_i, kgK_r, kok_nil, kok_i0, kok_is, kok_r0, kok_rs, kok_n0, kok_ns, xS_put, xS_putOp, xS_ast0, xS_ast1, xS_astOp, wpS_E, wpS_call, wpS_callS, wpS_ret, kThen_N, kThen_B, kThen_C, kThen_R, kThen_T, kNext_N, kNext_C, kNext_B, kNext_R, wpE_K, wpE_KL, xE_I, xE_R, wpE_J, xE_bin, wpE_ladd, wpE_i2l, xE_get, xE_ald0, xE_ald1, wpE_if, xE_max, xE_min, wpE_len, wpA_nil, wpA_snoc, xE_call, xE_callS, xC_C, xC_L, xC_Z, wpC_and, wpC_or, wpC_not, wpC_if, kcmp_0, kcmp_1, kcmp_2, kcmp_3, kcmp_4, kcmp_5, rR_inj, kgO_some, kgO_add, kgO_sub, kgO_mul, kgO_div, kgO_rem, kgO_and, kvI_inl, kvJ_inl, kgI_0, kgI_s, kgR_0, kgR_s, kst_nil, kst_0, kst_s, kNLl_nil, kNLl_i, kNLl_r, kNLl_n, ktag_i, ktag_r, List.length_cons, List.length_nil, List.take_succ_cons, List.take_zero, List.take_nil, List.nil_append, List.cons_append, decide_eq_true_eq, Bool.not_eq_true, Bool.not_eq_true', decide_eq_false_iff_not, ne_eq, Decidable.not_not, true_and, and_true, Nat.reduceAdd, Nat.reduceLeDiff, Nat.reduceEqDiff, Nat.le_refl, not_true_eq_false, not_false_eq_true, reduceIte, eq_self, Int.reduceNeg, Int.reduceEq, Int.reduceLT, Int.reduceLE, Nat.zero_le, Nat.one_ne_zero, ev_model, ev_model_arr, Int.toNat_natCast, g71, z1, decide_true, decide_false, Bool.false_eq_true, if_true, if_false, true_and, and_true, not_true_eq_false, not_false_eq_true]
          repeat refine And.intro (by omega) ?_
          exact skip s2 k2.sK (fun o k _ _ _ h4 => k2.sJ o k h4) (fun h => h.2.2 (z2.mp z1))
  · rintro s ⟨f, M, R⟩
    exact hQ s f M R
theorem mdTake_ok {x q : Nat} {rt' dp' : Nat → Nat} {pa' up' : Nat → Int} (hG : gOk n c ar li fs sn) (hM : RM σ n c ar li fs sn lv tr lo) (hR : RO σ n od) (hI : oInv n c li fs sn (lo, od)) (hw : ∀ v, σ 70 v = wt v) (hHd : Hd n (th c li) fs sn lv tr) (hL : Lb n (th c li) lv) (hq : q < c) (hx : li q = x)
    (hF' : FO n (fun y => th (c - 1) (remL q li) y ∧ (rem n (c - 1) (remL q li) fs sn lv tr x).2 y ≠ 0) fs sn rt' dp' pa' up') (hH' : ∀ y, th (c - 1) (remL q li) y → rt' (fs y) = rt' (sn y)) :
    wpF F_Md_take [.inr (.inl 14), .inl (x : Int)] σ (fun r s => r = some (.inl (cntP (fun v => rt' v = v) n : Int)) ∧ (∀ o k, ¬ mSc o k → ¬ (71 ≤ o ∧ o ≤ 79) → (o ≠ 14 ∨ (k ≠ 10 ∧ k ≠ 16 ∧ k ≠ 17 ∧ k ≠ 22)) → s o k = σ o k) ∧ s 14 17 = 0 ∧ s 14 22 = 0 ∧
      RM s n (c - 1) ar (remL q li) fs sn (rem n (c - 1) (remL q li) fs sn lv tr x).1 (rem n (c - 1) (remL q li) fs sn lv tr x).2 (if lo x ≠ 0 then lo else (oRun n (c - 1) (remL q li) fs sn (lo, od) (c - 1)).1) ∧ RO s n (if lo x ≠ 0 then od else (oRun n (c - 1) (remL q li) fs sn (lo, od) (c - 1)).2) ∧
      ∃ B S, isSet n (nbr (th c li) fs sn) wt B ∧ isSet n (nbr (th (c - 1) (remL q li)) fs sn) wt S ∧ s 14 16 = (cntP (fun v => ¬ (B v ↔ S v)) n : Int)) := by
  obtain ⟨hn3, hc9, ha5, hli, -⟩ := id hG
  have hG' := gOk_rem hG hq
  have hth : ∀ y, th (c - 1) (remL q li) y ↔ th c li y ∧ y ≠ x := fun y => th_remL hG hq hx
  obtain ⟨li', hli'⟩ : ∃ l, l = remL q li := ⟨_, rfl⟩
  obtain ⟨c', hc'⟩ : ∃ l, l = c - 1 := ⟨_, rfl⟩
  rw [← hli', ← hc'] at hG' hF' hH' ⊢
  simp only [← hli', ← hc'] at hth
  obtain ⟨lv', hlv'⟩ : ∃ l, l = (rem n c' li' fs sn lv tr x).1 := ⟨_, rfl⟩
  obtain ⟨tr', htr'⟩ : ∃ l, l = (rem n c' li' fs sn lv tr x).2 := ⟨_, rfl⟩
  rw [← htr'] at hF'
  rw [← hlv', ← htr']
  have hxt : th c li x := ⟨q, hq, hx⟩
  obtain ⟨x1, -, x3, x4⟩ := th_lt hG hxt
  have hxar := th_lt_ar hG hxt
  have hl8 := hL.le hn3 hxt
  have hI' : oInv n c' li' fs sn (lo, od) := ⟨hI.1, fun y hy => hI.2.1 y ⟨((hth y).mp hy.1).1, hy.2⟩, hI.2.2⟩
  unfold F_Md_take
  rw [wpF_kF]
  refine ⟨rfl, rfl, ?_⟩
  unfold s_Md_take
  simp only [List.map_cons, List.map_nil]
  refine wpS_seq' (fun Q104 hQ104 => ?_)
  simp only [wpS_skip, wpS_break, wpS_cont, wpS_retV, wpS_throw, wpS_seq, wpS_if, wpS_trunc, yS_let, yS_inc, kgK_i, kgK_r, kok_nil, kok_i0, kok_is, kok_r0, kok_rs, kok_n0, kok_ns, xS_put, xS_putOp, xS_ast0, xS_ast1, xS_astOp, wpS_E, wpS_call, wpS_callS, wpS_ret, kThen_N, kThen_B, kThen_C, kThen_R, kThen_T, kNext_N, kNext_C, kNext_B, kNext_R, wpE_K, wpE_KL, xE_I, xE_R, wpE_J, xE_bin, wpE_ladd, wpE_i2l, xE_get, xE_ald0, xE_ald1, wpE_if, xE_max, xE_min, wpE_len, wpA_nil, wpA_snoc, xE_call, xE_callS, xC_C, xC_L, xC_Z, wpC_and, wpC_or, wpC_not, wpC_if, kcmp_0, kcmp_1, kcmp_2, kcmp_3, kcmp_4, kcmp_5, rR_inj, kgO_some, kgO_add, kgO_sub, kgO_mul, kgO_div, kgO_rem, kgO_and, kvI_inl, kvJ_inl, kgI_0, kgI_s, kgR_0, kgR_s, kst_nil, kst_0, kst_s, kNLl_nil, kNLl_i, kNLl_r, kNLl_n, ktag_i, ktag_r, List.length_cons, List.length_nil, List.take_succ_cons, List.take_zero, List.take_nil, List.nil_append, List.cons_append, decide_eq_true_eq, Bool.not_eq_true, Bool.not_eq_true', decide_eq_false_iff_not, ne_eq, Decidable.not_not, true_and, and_true, Nat.reduceAdd, Nat.reduceLeDiff, Nat.reduceEqDiff, Nat.le_refl, not_true_eq_false, not_false_eq_true, reduceIte, eq_self, Int.reduceNeg, Int.reduceEq, Int.reduceLT, Int.reduceLE, Nat.zero_le, Nat.one_ne_zero, ev_model]
  repeat refine And.intro (by omega) ?_
  rw [hQ104]
  clear hQ104 Q104
  refine kThen_N.mpr ?_
  obtain ⟨σ0, hσ⟩ : ∃ s, s = kup σ 14 22 0 := ⟨_, rfl⟩
  rw [← hσ]
  have M0 : RM σ0 n c ar li fs sn lv tr lo := by rw [hσ]; exact hM.thrown
  have hσ' : ∀ o k, (o ≠ 14 ∨ k ≠ 22) → σ0 o k = σ o k := fun o k h => by rw [hσ, kup_other h]
  have e22 : σ0 14 22 = 0 := by rw [hσ, kup_eq, if_pos rfl]
  have hw0 : ∀ v, σ0 70 v = wt v := fun v => by rw [hσ' _ _ (Or.inl (by decide))]; exact hw v
  have R0 : RO σ0 n od := ⟨fun p hp => by rw [hσ' _ _ (Or.inl (by decide))]; exact hR.1 p hp, fun p hp => by rw [hσ' _ _ (Or.inl (by decide))]; exact hR.2.1 p hp, hR.2.2⟩
  refine wpS_seq' (fun Q105 hQ105 => ?_)
  simp only [wpS_skip, wpS_break, wpS_cont, wpS_retV, wpS_throw, wpS_seq, wpS_if, wpS_trunc, yS_let, yS_inc, kgK_i, kgK_r, kok_nil, kok_i0, kok_is, kok_r0, kok_rs, kok_n0, kok_ns, xS_put, xS_putOp, xS_ast0, xS_ast1, xS_astOp, wpS_E, wpS_call, wpS_callS, wpS_ret, kThen_N, kThen_B, kThen_C, kThen_R, kThen_T, kNext_N, kNext_C, kNext_B, kNext_R, wpE_K, wpE_KL, xE_I, xE_R, wpE_J, xE_bin, wpE_ladd, wpE_i2l, xE_get, xE_ald0, xE_ald1, wpE_if, xE_max, xE_min, wpE_len, wpA_nil, wpA_snoc, xE_call, xE_callS, xC_C, xC_L, xC_Z, wpC_and, wpC_or, wpC_not, wpC_if, kcmp_0, kcmp_1, kcmp_2, kcmp_3, kcmp_4, kcmp_5, rR_inj, kgO_some, kgO_add, kgO_sub, kgO_mul, kgO_div, kgO_rem, kgO_and, kvI_inl, kvJ_inl, kgI_0, kgI_s, kgR_0, kgR_s, kst_nil, kst_0, kst_s, kNLl_nil, kNLl_i, kNLl_r, kNLl_n, ktag_i, ktag_r, List.length_cons, List.length_nil, List.take_succ_cons, List.take_zero, List.take_nil, List.nil_append, List.cons_append, decide_eq_true_eq, Bool.not_eq_true, Bool.not_eq_true', decide_eq_false_iff_not, ne_eq, Decidable.not_not, true_and, and_true, Nat.reduceAdd, Nat.reduceLeDiff, Nat.reduceEqDiff, Nat.le_refl, not_true_eq_false, not_false_eq_true, reduceIte, eq_self, Int.reduceNeg, Int.reduceEq, Int.reduceLT, Int.reduceLE, Nat.zero_le, Nat.one_ne_zero, ev_model]
  refine (mdIsArc_ok hG M0).mono ?_
  rintro r s ⟨hs, hr⟩
  subst s
  obtain ⟨-, -, -, rfl⟩ := hr.resolve_right (fun h => h.1 ⟨by omega, by omega, by rw [Int.toNat_natCast]; exact hxt⟩)
  rw [kgO_some]
  simp only [wpS_skip, wpS_break, wpS_cont, wpS_retV, wpS_throw, wpS_seq, wpS_if, wpS_trunc, yS_let, yS_inc, kgK_i, kgK_r, kok_nil, kok_i0, kok_is, kok_r0, kok_rs, kok_n0, kok_ns, xS_put, xS_putOp, xS_ast0, xS_ast1, xS_astOp, wpS_E, wpS_call, wpS_callS, wpS_ret, kThen_N, kThen_B, kThen_C, kThen_R, kThen_T, kNext_N, kNext_C, kNext_B, kNext_R, wpE_K, wpE_KL, xE_I, xE_R, wpE_J, xE_bin, wpE_ladd, wpE_i2l, xE_get, xE_ald0, xE_ald1, wpE_if, xE_max, xE_min, wpE_len, wpA_nil, wpA_snoc, xE_call, xE_callS, xC_C, xC_L, xC_Z, wpC_and, wpC_or, wpC_not, wpC_if, kcmp_0, kcmp_1, kcmp_2, kcmp_3, kcmp_4, kcmp_5, rR_inj, kgO_some, kgO_add, kgO_sub, kgO_mul, kgO_div, kgO_rem, kgO_and, kvI_inl, kvJ_inl, kgI_0, kgI_s, kgR_0, kgR_s, kst_nil, kst_0, kst_s, kNLl_nil, kNLl_i, kNLl_r, kNLl_n, ktag_i, ktag_r, List.length_cons, List.length_nil, List.take_succ_cons, List.take_zero, List.take_nil, List.nil_append, List.cons_append, decide_eq_true_eq, Bool.not_eq_true, Bool.not_eq_true', decide_eq_false_iff_not, ne_eq, Decidable.not_not, true_and, and_true, Nat.reduceAdd, Nat.reduceLeDiff, Nat.reduceEqDiff, Nat.le_refl, not_true_eq_false, not_false_eq_true, reduceIte, eq_self, Int.reduceNeg, Int.reduceEq, Int.reduceLT, Int.reduceLE, Nat.zero_le, Nat.one_ne_zero, decide_true, decide_false, Bool.false_eq_true, if_true, if_false, true_and, and_true, not_true_eq_false, not_false_eq_true]
  rw [hQ105]
  clear hQ105
  refine kThen_N.mpr ?_
  refine wpS_seq' (fun Q106 hQ106 => ?_)
  simp only [wpS_skip, wpS_break, wpS_cont, wpS_retV, wpS_throw, wpS_seq, wpS_if, wpS_trunc, yS_let, yS_inc, kgK_i, kgK_r, kok_nil, kok_i0, kok_is, kok_r0, kok_rs, kok_n0, kok_ns, xS_put, xS_putOp, xS_ast0, xS_ast1, xS_astOp, wpS_E, wpS_call, wpS_callS, wpS_ret, kThen_N, kThen_B, kThen_C, kThen_R, kThen_T, kNext_N, kNext_C, kNext_B, kNext_R, wpE_K, wpE_KL, xE_I, xE_R, wpE_J, xE_bin, wpE_ladd, wpE_i2l, xE_get, xE_ald0, xE_ald1, wpE_if, xE_max, xE_min, wpE_len, wpA_nil, wpA_snoc, xE_call, xE_callS, xC_C, xC_L, xC_Z, wpC_and, wpC_or, wpC_not, wpC_if, kcmp_0, kcmp_1, kcmp_2, kcmp_3, kcmp_4, kcmp_5, rR_inj, kgO_some, kgO_add, kgO_sub, kgO_mul, kgO_div, kgO_rem, kgO_and, kvI_inl, kvJ_inl, kgI_0, kgI_s, kgR_0, kgR_s, kst_nil, kst_0, kst_s, kNLl_nil, kNLl_i, kNLl_r, kNLl_n, ktag_i, ktag_r, List.length_cons, List.length_nil, List.take_succ_cons, List.take_zero, List.take_nil, List.nil_append, List.cons_append, decide_eq_true_eq, Bool.not_eq_true, Bool.not_eq_true', decide_eq_false_iff_not, ne_eq, Decidable.not_not, true_and, and_true, Nat.reduceAdd, Nat.reduceLeDiff, Nat.reduceEqDiff, Nat.le_refl, not_true_eq_false, not_false_eq_true, reduceIte, eq_self, Int.reduceNeg, Int.reduceEq, Int.reduceLT, Int.reduceLE, Nat.zero_le, Nat.one_ne_zero]
  refine ⟨rfl, ?_⟩
  refine (mdKeepSet_ok hG M0 hw0).mono ?_
  rintro r s1 ⟨rfl, k1, B, hB, hBI⟩
  refine ⟨rfl, ?_⟩
  rw [hQ106]
  clear hQ106
  refine kThen_N.mpr ?_
  have M1 := M0.keep k1
  obtain ⟨m1, m2, m3, m4, m5, m6, m7, m8, m9, m10⟩ := id M1
  refine wpS_seq' (fun Q107 hQ107 => ?_)
  simp only [wpS_skip, wpS_break, wpS_cont, wpS_retV, wpS_throw, wpS_seq, wpS_if, wpS_trunc, yS_let, yS_inc, kgK_i, kgK_r, kok_nil, kok_i0, kok_is, kok_r0, kok_rs, kok_n0, kok_ns, xS_put, xS_putOp, xS_ast0, xS_ast1, xS_astOp, wpS_E, wpS_call, wpS_callS, wpS_ret, kThen_N, kThen_B, kThen_C, kThen_R, kThen_T, kNext_N, kNext_C, kNext_B, kNext_R, wpE_K, wpE_KL, xE_I, xE_R, wpE_J, xE_bin, wpE_ladd, wpE_i2l, xE_get, xE_ald0, xE_ald1, wpE_if, xE_max, xE_min, wpE_len, wpA_nil, wpA_snoc, xE_call, xE_callS, xC_C, xC_L, xC_Z, wpC_and, wpC_or, wpC_not, wpC_if, kcmp_0, kcmp_1, kcmp_2, kcmp_3, kcmp_4, kcmp_5, rR_inj, kgO_some, kgO_add, kgO_sub, kgO_mul, kgO_div, kgO_rem, kgO_and, kvI_inl, kvJ_inl, kgI_0, kgI_s, kgR_0, kgR_s, kst_nil, kst_0, kst_s, kNLl_nil, kNLl_i, kNLl_r, kNLl_n, ktag_i, ktag_r, List.length_cons, List.length_nil, List.take_succ_cons, List.take_zero, List.take_nil, List.nil_append, List.cons_append, decide_eq_true_eq, Bool.not_eq_true, Bool.not_eq_true', decide_eq_false_iff_not, ne_eq, Decidable.not_not, true_and, and_true, Nat.reduceAdd, Nat.reduceLeDiff, Nat.reduceEqDiff, Nat.le_refl, not_true_eq_false, not_false_eq_true, reduceIte, eq_self, Int.reduceNeg, Int.reduceEq, Int.reduceLT, Int.reduceLE, Nat.zero_le, Nat.one_ne_zero, ev_model, ev_model_arr, Int.toNat_natCast]
  repeat refine And.intro (by first | omega | (simp; done)) ?_
  rw [hQ107]
  clear hQ107 Q107
  refine kThen_N.mpr ?_
  refine wpS_seq' (fun Q108 hQ108 => ?_)
  simp only [wpS_skip, wpS_break, wpS_cont, wpS_retV, wpS_throw, wpS_seq, wpS_if, wpS_trunc, yS_let, yS_inc, kgK_i, kgK_r, kok_nil, kok_i0, kok_is, kok_r0, kok_rs, kok_n0, kok_ns, xS_put, xS_putOp, xS_ast0, xS_ast1, xS_astOp, wpS_E, wpS_call, wpS_callS, wpS_ret, kThen_N, kThen_B, kThen_C, kThen_R, kThen_T, kNext_N, kNext_C, kNext_B, kNext_R, wpE_K, wpE_KL, xE_I, xE_R, wpE_J, xE_bin, wpE_ladd, wpE_i2l, xE_get, xE_ald0, xE_ald1, wpE_if, xE_max, xE_min, wpE_len, wpA_nil, wpA_snoc, xE_call, xE_callS, xC_C, xC_L, xC_Z, wpC_and, wpC_or, wpC_not, wpC_if, kcmp_0, kcmp_1, kcmp_2, kcmp_3, kcmp_4, kcmp_5, rR_inj, kgO_some, kgO_add, kgO_sub, kgO_mul, kgO_div, kgO_rem, kgO_and, kvI_inl, kvJ_inl, kgI_0, kgI_s, kgR_0, kgR_s, kst_nil, kst_0, kst_s, kNLl_nil, kNLl_i, kNLl_r, kNLl_n, ktag_i, ktag_r, List.length_cons, List.length_nil, List.take_succ_cons, List.take_zero, List.take_nil, List.nil_append, List.cons_append, decide_eq_true_eq, Bool.not_eq_true, Bool.not_eq_true', decide_eq_false_iff_not, ne_eq, Decidable.not_not, true_and, and_true, Nat.reduceAdd, Nat.reduceLeDiff, Nat.reduceEqDiff, Nat.le_refl, not_true_eq_false, not_false_eq_true, reduceIte, eq_self, Int.reduceNeg, Int.reduceEq, Int.reduceLT, Int.reduceLE, Nat.zero_le, Nat.one_ne_zero]
  repeat refine And.intro (by omega) ?_
  rw [hQ108]
  clear hQ108 Q108
  refine kThen_N.mpr ?_
  obtain ⟨s2, hs2⟩ : ∃ s2, s2 = kup s1 76 x 0 := ⟨_, rfl⟩
  rw [← hs2]
  have f2 : ∀ o k, o ≠ 76 → s2 o k = s1 o k := fun o k h => by rw [hs2, kup_ne h]
  -- where it stands
  refine wpS_seq' (fun Q1 hQ1 => ?_)
  have found : Q1 rN [some (.inr (.inl 14)), some (.inl (x : Int)), some (.inl (q : Int))] s2 → wpS l_Md_take_1 [some (.inr (.inl 14)), some (.inl (x : Int)), some (.inl 0)] s2 Q1 := by
    intro h
    unfold l_Md_take_1
    refine wpS_for (fun m L s => ∃ k : Nat, m = q - k ∧ k ≤ q ∧ L = [some (.inr (.inl 14)), some (.inl (x : Int)), some (.inl (k : Int))] ∧ s = s2) ?_ q _ _ ⟨0, rfl, Nat.zero_le _, rfl, rfl⟩
    rintro m L s ⟨k, rfl, hk, rfl, hs⟩
    subst s
    have e77 : s2 77 k = (li k : Int) := by rw [f2 _ _ (by decide)]; exact m4 k (by omega)
    refine wpC_gen (fun Q2 hQ2 => ?_)
    by_cases e : k = q
    · have e' : ((li k : Int) = (x : Int)) = True := eq_true (by rw [e, hx])
      simp only [wpS_skip, wpS_break, wpS_cont, wpS_retV, wpS_throw, wpS_seq, wpS_if, wpS_trunc, yS_let, yS_inc, kgK_i, kgK_r, kok_nil, kok_i0, kok_is, kok_r0, kok_rs, kok_n0, kok_ns, xS_put, xS_putOp, xS_ast0, xS_ast1, xS_astOp, wpS_E, wpS_call, wpS_callS, wpS_ret, kThen_N, kThen_B, kThen_C, kThen_R, kThen_T, kNext_N, kNext_C, kNext_B, kNext_R, wpE_K, wpE_KL, xE_I, xE_R, wpE_J, xE_bin, wpE_ladd, wpE_i2l, xE_get, xE_ald0, xE_ald1, wpE_if, xE_max, xE_min, wpE_len, wpA_nil, wpA_snoc, xE_call, xE_callS, xC_C, xC_L, xC_Z, wpC_and, wpC_or, wpC_not, wpC_if, kcmp_0, kcmp_1, kcmp_2, kcmp_3, kcmp_4, kcmp_5, rR_inj, kgO_some, kgO_add, kgO_sub, kgO_mul, kgO_div, kgO_rem, kgO_and, kvI_inl, kvJ_inl, kgI_0, kgI_s, kgR_0, kgR_s, kst_nil, kst_0, kst_s, kNLl_nil, kNLl_i, kNLl_r, kNLl_n, ktag_i, ktag_r, List.length_cons, List.length_nil, List.take_succ_cons, List.take_zero, List.take_nil, List.nil_append, List.cons_append, decide_eq_true_eq, Bool.not_eq_true, Bool.not_eq_true', decide_eq_false_iff_not, ne_eq, Decidable.not_not, true_and, and_true, Nat.reduceAdd, Nat.reduceLeDiff, Nat.reduceEqDiff, Nat.le_refl, not_true_eq_false, not_false_eq_true, reduceIte, eq_self, Int.reduceNeg, Int.reduceEq, Int.reduceLT, Int.reduceLE, Nat.zero_le, Nat.one_ne_zero, ev_model, ev_model_arr, Int.toNat_natCast, e77, e', decide_true, decide_false, Bool.false_eq_true, if_true, if_false, true_and, and_true, not_true_eq_false, not_false_eq_true]
      repeat refine And.intro (by omega) ?_
      rw [hQ2]
      show ite (false = true) _ _
      rw [if_neg (by decide)]
      rw [e]; exact h
    · have e' : ¬ (li k : Int) = (x : Int) := fun h => e (hG.inj k q (by omega) hq (by omega))
      simp only [wpS_skip, wpS_break, wpS_cont, wpS_retV, wpS_throw, wpS_seq, wpS_if, wpS_trunc, yS_let, yS_inc, kgK_i, kgK_r, kok_nil, kok_i0, kok_is, kok_r0, kok_rs, kok_n0, kok_ns, xS_put, xS_putOp, xS_ast0, xS_ast1, xS_astOp, wpS_E, wpS_call, wpS_callS, wpS_ret, kThen_N, kThen_B, kThen_C, kThen_R, kThen_T, kNext_N, kNext_C, kNext_B, kNext_R, wpE_K, wpE_KL, xE_I, xE_R, wpE_J, xE_bin, wpE_ladd, wpE_i2l, xE_get, xE_ald0, xE_ald1, wpE_if, xE_max, xE_min, wpE_len, wpA_nil, wpA_snoc, xE_call, xE_callS, xC_C, xC_L, xC_Z, wpC_and, wpC_or, wpC_not, wpC_if, kcmp_0, kcmp_1, kcmp_2, kcmp_3, kcmp_4, kcmp_5, rR_inj, kgO_some, kgO_add, kgO_sub, kgO_mul, kgO_div, kgO_rem, kgO_and, kvI_inl, kvJ_inl, kgI_0, kgI_s, kgR_0, kgR_s, kst_nil, kst_0, kst_s, kNLl_nil, kNLl_i, kNLl_r, kNLl_n, ktag_i, ktag_r, List.length_cons, List.length_nil, List.take_succ_cons, List.take_zero, List.take_nil, List.nil_append, List.cons_append, decide_eq_true_eq, Bool.not_eq_true, Bool.not_eq_true', decide_eq_false_iff_not, ne_eq, Decidable.not_not, true_and, and_true, Nat.reduceAdd, Nat.reduceLeDiff, Nat.reduceEqDiff, Nat.le_refl, not_true_eq_false, not_false_eq_true, reduceIte, eq_self, Int.reduceNeg, Int.reduceEq, Int.reduceLT, Int.reduceLE, Nat.zero_le, Nat.one_ne_zero, ev_model, ev_model_arr, Int.toNat_natCast, e77, e', decide_true, decide_false, Bool.false_eq_true, if_true, if_false, true_and, and_true, not_true_eq_false, not_false_eq_true]
      repeat refine And.intro (by omega) ?_
      rw [hQ2]
      show ite (true = true) _ _
      rw [if_pos rfl]
      simp only [wpS_skip, wpS_break, wpS_cont, wpS_retV, wpS_throw, wpS_seq, wpS_if, wpS_trunc, yS_let, yS_inc, kgK_i, kgK_r, kok_nil, kok_i0, kok_is, kok_r0, kok_rs, kok_n0, kok_ns, xS_put, xS_putOp, xS_ast0, xS_ast1, xS_astOp, wpS_E, wpS_call, wpS_callS, wpS_ret, kThen_N, kThen_B, kThen_C, kThen_R, kThen_T, kNext_N, kNext_C, kNext_B, kNext_R, wpE_K, wpE_KL, xE_I, xE_R, wpE_J, xE_bin, wpE_ladd, wpE_i2l, xE_get, xE_ald0, xE_ald1, wpE_if, xE_max, xE_min, wpE_len, wpA_nil, wpA_snoc, xE_call, xE_callS, xC_C, xC_L, xC_Z, wpC_and, wpC_or, wpC_not, wpC_if, kcmp_0, kcmp_1, kcmp_2, kcmp_3, kcmp_4, kcmp_5, rR_inj, kgO_some, kgO_add, kgO_sub, kgO_mul, kgO_div, kgO_rem, kgO_and, kvI_inl, kvJ_inl, kgI_0, kgI_s, kgR_0, kgR_s, kst_nil, kst_0, kst_s, kNLl_nil, kNLl_i, kNLl_r, kNLl_n, ktag_i, ktag_r, List.length_cons, List.length_nil, List.take_succ_cons, List.take_zero, List.take_nil, List.nil_append, List.cons_append, decide_eq_true_eq, Bool.not_eq_true, Bool.not_eq_true', decide_eq_false_iff_not, ne_eq, Decidable.not_not, true_and, and_true, Nat.reduceAdd, Nat.reduceLeDiff, Nat.reduceEqDiff, Nat.le_refl, not_true_eq_false, not_false_eq_true, reduceIte, eq_self, Int.reduceNeg, Int.reduceEq, Int.reduceLT, Int.reduceLE, Nat.zero_le, Nat.one_ne_zero]
      repeat refine And.intro (by omega) ?_
      exact ⟨q - (k + 1), by omega, k + 1, rfl, by omega, rfl⟩
  refine found ?_
  clear found
  rw [hQ1]
  clear hQ1 Q1
  refine kThen_N.mpr ?_
  have e10 : s2 14 10 = (c : Int) := by rw [f2 _ _ (by decide)]; exact m2
  refine wpS_seq' (fun Q109 hQ109 => ?_)
  simp only [wpS_skip, wpS_break, wpS_cont, wpS_retV, wpS_throw, wpS_seq, wpS_if, wpS_trunc, yS_let, yS_inc, kgK_i, kgK_r, kok_nil, kok_i0, kok_is, kok_r0, kok_rs, kok_n0, kok_ns, xS_put, xS_putOp, xS_ast0, xS_ast1, xS_astOp, wpS_E, wpS_call, wpS_callS, wpS_ret, kThen_N, kThen_B, kThen_C, kThen_R, kThen_T, kNext_N, kNext_C, kNext_B, kNext_R, wpE_K, wpE_KL, xE_I, xE_R, wpE_J, xE_bin, wpE_ladd, wpE_i2l, xE_get, xE_ald0, xE_ald1, wpE_if, xE_max, xE_min, wpE_len, wpA_nil, wpA_snoc, xE_call, xE_callS, xC_C, xC_L, xC_Z, wpC_and, wpC_or, wpC_not, wpC_if, kcmp_0, kcmp_1, kcmp_2, kcmp_3, kcmp_4, kcmp_5, rR_inj, kgO_some, kgO_add, kgO_sub, kgO_mul, kgO_div, kgO_rem, kgO_and, kvI_inl, kvJ_inl, kgI_0, kgI_s, kgR_0, kgR_s, kst_nil, kst_0, kst_s, kNLl_nil, kNLl_i, kNLl_r, kNLl_n, ktag_i, ktag_r, List.length_cons, List.length_nil, List.take_succ_cons, List.take_zero, List.take_nil, List.nil_append, List.cons_append, decide_eq_true_eq, Bool.not_eq_true, Bool.not_eq_true', decide_eq_false_iff_not, ne_eq, Decidable.not_not, true_and, and_true, Nat.reduceAdd, Nat.reduceLeDiff, Nat.reduceEqDiff, Nat.le_refl, not_true_eq_false, not_false_eq_true, reduceIte, eq_self, Int.reduceNeg, Int.reduceEq, Int.reduceLT, Int.reduceLE, Nat.zero_le, Nat.one_ne_zero, ev_model, e10]
  repeat refine And.intro (by omega) ?_
  rw [hQ109]
  clear hQ109 Q109
  refine kThen_N.mpr ?_
  have ec : (c : Int) - 1 = (c' : Int) := by omega
  rw [ec]
  obtain ⟨s3, hs3⟩ : ∃ s3, s3 = kup s2 14 10 (c' : Int) := ⟨_, rfl⟩
  rw [← hs3]
  have f3 : ∀ o k, (o ≠ 14 ∨ k ≠ 10) → s3 o k = s2 o k := fun o k h => by rw [hs3, kup_other h]
  have g10 : s3 14 10 = (c' : Int) := by rw [hs3, kup_eq, if_pos rfl]
  -- closed up
  refine wpS_seq' (fun Q1 hQ1 => ?_)
  have closed : (∀ s4, (∀ o k, o ≠ 77 → s4 o k = s3 o k) → (∀ k, k < c' → s4 77 k = (li' k : Int)) → Q1 rN [some (.inr (.inl 14)), some (.inl (x : Int)), some (.inl (c' : Int))] s4) → wpS l_Md_take_2 [some (.inr (.inl 14)), some (.inl (x : Int)), some (.inl (q : Int))] s3 Q1 := by
    intro h
    unfold l_Md_take_2
    refine wpS_for (fun m L s => ∃ k : Nat, m = c' - k ∧ q ≤ k ∧ k ≤ c' ∧ L = [some (.inr (.inl 14)), some (.inl (x : Int)), some (.inl (k : Int))] ∧ (∀ o k, o ≠ 77 → s o k = s3 o k) ∧ (∀ j, j < k → s 77 j = (li' j : Int)) ∧ ∀ j, k ≤ j → j < c → s 77 j = (li j : Int)) ?_ (c' - q) _ _ ⟨q, rfl, Nat.le_refl _, by omega, rfl, fun _ _ _ => rfl, fun j hj => ?_, fun j h1 h2 => ?_⟩
    · rintro m L s ⟨k, rfl, h1, h2, rfl, g1, g2, g3⟩
      have e10 : s 14 10 = (c' : Int) := by rw [g1 _ _ (by decide)]; exact g10
      refine wpC_gen (fun Q2 hQ2 => ?_)
      by_cases e : k < c'
      · have e' : (k : Int) < (c' : Int) := by omega
        simp only [wpS_skip, wpS_break, wpS_cont, wpS_retV, wpS_throw, wpS_seq, wpS_if, wpS_trunc, yS_let, yS_inc, kgK_i, kgK_r, kok_nil, kok_i0, kok_is, kok_r0, kok_rs, kok_n0, kok_ns, xS_put, xS_putOp, xS_ast0, xS_ast1, xS_astOp, wpS_E, wpS_call, wpS_callS, wpS_ret, kThen_N, kThen_B, kThen_C, kThen_R, kThen_T, kNext_N, kNext_C, kNext_B, kNext_R, wpE_K, wpE_KL, xE_I, xE_R, wpE_J, xE_bin, wpE_ladd, wpE_i2l, xE_get, xE_ald0, xE_ald1, wpE_if, xE_max, xE_min, wpE_len, wpA_nil, wpA_snoc, xE_call, xE_callS, xC_C, xC_L, xC_Z, wpC_and, wpC_or, wpC_not, wpC_if, kcmp_0, kcmp_1, kcmp_2, kcmp_3, kcmp_4, kcmp_5, rR_inj, kgO_some, kgO_add, kgO_sub, kgO_mul, kgO_div, kgO_rem, kgO_and, kvI_inl, kvJ_inl, kgI_0, kgI_s, kgR_0, kgR_s, kst_nil, kst_0, kst_s, kNLl_nil, kNLl_i, kNLl_r, kNLl_n, ktag_i, ktag_r, List.length_cons, List.length_nil, List.take_succ_cons, List.take_zero, List.take_nil, List.nil_append, List.cons_append, decide_eq_true_eq, Bool.not_eq_true, Bool.not_eq_true', decide_eq_false_iff_not, ne_eq, Decidable.not_not, true_and, and_true, Nat.reduceAdd, Nat.reduceLeDiff, Nat.reduceEqDiff, Nat.le_refl, not_true_eq_false, not_false_eq_true, reduceIte, eq_self, Int.reduceNeg, Int.reduceEq, Int.reduceLT, Int.reduceLE, Nat.zero_le, Nat.one_ne_zero, ev_model, e10, e', decide_true, decide_false, Bool.false_eq_true, if_true, if_false, true_and, and_true, not_true_eq_false, not_false_eq_true]
        rw [hQ2]
        show ite (true = true) _ _
        rw [if_pos rfl]
        have e77 := g3 (k + 1) (by omega) (by omega)
        have ek : ((k : Int) + 1).toNat = k + 1 := by omega
        simp only [wpS_skip, wpS_break, wpS_cont, wpS_retV, wpS_throw, wpS_seq, wpS_if, wpS_trunc, yS_let, yS_inc, kgK_i, kgK_r, kok_nil, kok_i0, kok_is, kok_r0, kok_rs, kok_n0, kok_ns, xS_put, xS_putOp, xS_ast0, xS_ast1, xS_astOp, wpS_E, wpS_call, wpS_callS, wpS_ret, kThen_N, kThen_B, kThen_C, kThen_R, kThen_T, kNext_N, kNext_C, kNext_B, kNext_R, wpE_K, wpE_KL, xE_I, xE_R, wpE_J, xE_bin, wpE_ladd, wpE_i2l, xE_get, xE_ald0, xE_ald1, wpE_if, xE_max, xE_min, wpE_len, wpA_nil, wpA_snoc, xE_call, xE_callS, xC_C, xC_L, xC_Z, wpC_and, wpC_or, wpC_not, wpC_if, kcmp_0, kcmp_1, kcmp_2, kcmp_3, kcmp_4, kcmp_5, rR_inj, kgO_some, kgO_add, kgO_sub, kgO_mul, kgO_div, kgO_rem, kgO_and, kvI_inl, kvJ_inl, kgI_0, kgI_s, kgR_0, kgR_s, kst_nil, kst_0, kst_s, kNLl_nil, kNLl_i, kNLl_r, kNLl_n, ktag_i, ktag_r, List.length_cons, List.length_nil, List.take_succ_cons, List.take_zero, List.take_nil, List.nil_append, List.cons_append, decide_eq_true_eq, Bool.not_eq_true, Bool.not_eq_true', decide_eq_false_iff_not, ne_eq, Decidable.not_not, true_and, and_true, Nat.reduceAdd, Nat.reduceLeDiff, Nat.reduceEqDiff, Nat.le_refl, not_true_eq_false, not_false_eq_true, reduceIte, eq_self, Int.reduceNeg, Int.reduceEq, Int.reduceLT, Int.reduceLE, Nat.zero_le, Nat.one_ne_zero, ev_model, ev_model_arr, Int.toNat_natCast, ek, e77]
        repeat refine And.intro (by omega) ?_
        refine ⟨c' - (k + 1), by omega, k + 1, rfl, by omega, by omega, rfl, fun o k h => by rw [kup_ne h]; exact g1 o k h, fun j hj => ?_, fun j h3 h4 => ?_⟩
        · rw [kup_eq]
          by_cases ej : j = k
          · rw [if_pos ej, ej, hli']
            unfold remL
            rw [if_neg (by omega)]
          · rw [if_neg ej]; exact g2 j (by omega)
        · rw [kup_eq, if_neg (by omega)]; exact g3 j (by omega) h4
      · have e' : ¬ (k : Int) < (c' : Int) := by omega
        simp only [wpS_skip, wpS_break, wpS_cont, wpS_retV, wpS_throw, wpS_seq, wpS_if, wpS_trunc, yS_let, yS_inc, kgK_i, kgK_r, kok_nil, kok_i0, kok_is, kok_r0, kok_rs, kok_n0, kok_ns, xS_put, xS_putOp, xS_ast0, xS_ast1, xS_astOp, wpS_E, wpS_call, wpS_callS, wpS_ret, kThen_N, kThen_B, kThen_C, kThen_R, kThen_T, kNext_N, kNext_C, kNext_B, kNext_R, wpE_K, wpE_KL, xE_I, xE_R, wpE_J, xE_bin, wpE_ladd, wpE_i2l, xE_get, xE_ald0, xE_ald1, wpE_if, xE_max, xE_min, wpE_len, wpA_nil, wpA_snoc, xE_call, xE_callS, xC_C, xC_L, xC_Z, wpC_and, wpC_or, wpC_not, wpC_if, kcmp_0, kcmp_1, kcmp_2, kcmp_3, kcmp_4, kcmp_5, rR_inj, kgO_some, kgO_add, kgO_sub, kgO_mul, kgO_div, kgO_rem, kgO_and, kvI_inl, kvJ_inl, kgI_0, kgI_s, kgR_0, kgR_s, kst_nil, kst_0, kst_s, kNLl_nil, kNLl_i, kNLl_r, kNLl_n, ktag_i, ktag_r, List.length_cons, List.length_nil, List.take_succ_cons, List.take_zero, List.take_nil, List.nil_append, List.cons_append, decide_eq_true_eq, Bool.not_eq_true, Bool.not_eq_true', decide_eq_false_iff_not, ne_eq, Decidable.not_not, true_and, and_true, Nat.reduceAdd, Nat.reduceLeDiff, Nat.reduceEqDiff, Nat.le_refl, not_true_eq_false, not_false_eq_true, reduceIte, eq_self, Int.reduceNeg, Int.reduceEq, Int.reduceLT, Int.reduceLE, Nat.zero_le, Nat.one_ne_zero, ev_model, e10, e', decide_true, decide_false, Bool.false_eq_true, if_true, if_false, true_and, and_true, not_true_eq_false, not_false_eq_true]
        rw [hQ2]
        show ite (false = true) _ _
        rw [if_neg (by decide)]
        have : k = c' := by omega
        subst this
        exact h s g1 g2
    · rw [f3 _ _ (Or.inl (by decide)), f2 _ _ (by decide), m4 j (by omega), hli']
      unfold remL
      rw [if_pos hj]
    · rw [f3 _ _ (Or.inl (by decide)), f2 _ _ (by decide), m4 j h2]
  refine closed (fun s4 f4 l4 => ?_)
  clear closed
  rw [hQ1]
  clear hQ1 Q1
  refine kThen_N.mpr ?_
  have fr4 : ∀ o k, o ≠ 76 → o ≠ 77 → (o ≠ 14 ∨ k ≠ 10) → s4 o k = s1 o k := fun o k h1 h2 h3 => by rw [f4 o k h2, f3 o k h3, f2 o k h1]
  have M4 : RM s4 n c' ar li' fs sn lv tr lo := by
    refine ⟨by rw [fr4 _ _ (by decide) (by decide) (by decide)]; exact m1, by rw [f4 _ _ (by decide)]; exact g10, by rw [fr4 _ _ (by decide) (by decide) (by decide)]; exact m3, l4, fun y => by rw [fr4 _ _ (by decide) (by decide) (Or.inl (by decide))]; exact m5 y, fun y => by rw [fr4 _ _ (by decide) (by decide) (Or.inl (by decide))]; exact m6 y, fun y => by rw [fr4 _ _ (by decide) (by decide) (Or.inl (by decide))]; exact m7 y, fun y => by rw [fr4 _ _ (by decide) (by decide) (Or.inl (by decide))]; exact m8 y, fun y => by rw [fr4 _ _ (by decide) (by decide) (Or.inl (by decide))]; exact m9 y, fun y hy => ?_⟩
    rw [f4 _ _ (by decide), f3 _ _ (Or.inl (by decide)), hs2, kup_eq, hth]
    by_cases e : y = x
    · rw [if_pos e]; exact ⟨Or.inl rfl, fun h => absurd h (by decide), fun h => absurd e h.2⟩
    · rw [if_neg e]
      obtain ⟨z1, z2⟩ := m10 y hy
      exact ⟨z1, fun h => ⟨z2.mp h, e⟩, fun h => z2.mpr h.1⟩
  have R4 : RO s4 n od := ⟨fun p hp => by rw [fr4 _ _ (by decide) (by decide) (Or.inl (by decide)), k1 _ _ (by unfold mSc; omega)]; exact R0.1 p hp, fun p hp => by rw [fr4 _ _ (by decide) (by decide) (Or.inl (by decide)), k1 _ _ (by unfold mSc; omega)]; exact R0.2.1 p hp, hR.2.2⟩
  have B4 : ∀ v, v < n → (s4 100 v = 0 ∨ s4 100 v = 1) ∧ (s4 100 v = 1 ↔ B v) := fun v hv => by rw [fr4 _ _ (by decide) (by decide) (Or.inl (by decide))]; exact hB v hv
  have F4 : ∀ o k, ¬ mSc o k → ¬ (76 ≤ o ∧ o ≤ 77) → (o ≠ 14 ∨ k ≠ 10) → s4 o k = σ0 o k := fun o k h1 h2 h3 => by rw [fr4 o k (by omega) (by omega) h3, k1 o k h1]
  have tx4 : s4 74 x = tr x := M4.2.2.2.2.2.2.2.1 x
  clear m1 m2 m3 m4 m5 m6 m7 m8 m9 m10 f4 f3 f2 hs2 hs3 l4 g10 e10 hB fr4
  -- another tree arc
  refine wpS_seq' (fun Q1 hQ1 => ?_)
  have mended : ∀ s5, (∀ o k, o ≠ 73 → o ≠ 74 → ¬ mSd o k → s5 o k = s4 o k) → RM s5 n c' ar li' fs sn lv' tr' lo → Q1 rN [some (.inr (.inl 14)), some (.inl (x : Int)), some (.inl (c' : Int))] s5 := by
    intro s5 f5 M5
    rw [hQ1]
    clear hQ1
    refine kThen_N.mpr ?_
    have R5 : RO s5 n od := ⟨fun p hp => by rw [f5 _ _ (by decide) (by decide) (by unfold mSd; omega)]; exact R4.1 p hp, fun p hp => by rw [f5 _ _ (by decide) (by decide) (by unfold mSd; omega)]; exact R4.2.1 p hp, hR.2.2⟩
    have lx5 : s5 75 x = lo x := M5.2.2.2.2.2.2.2.2.1 x
    refine wpS_seq' (fun Q2 hQ2 => ?_)
    have fin : ∀ s6, (∀ o k, o ≠ 75 → o ≠ 78 → o ≠ 79 → ¬ mSd o k → s6 o k = s5 o k) → RM s6 n c' ar li' fs sn lv' tr' (if lo x ≠ 0 then lo else (oRun n c' li' fs sn (lo, od) c').1) → RO s6 n (if lo x ≠ 0 then od else (oRun n c' li' fs sn (lo, od) c').2) → Q2 rN [some (.inr (.inl 14)), some (.inl (x : Int)), some (.inl (c' : Int))] s6 := by
      intro s6 f6 M6 R6
      rw [hQ2]
      clear hQ2
      refine kThen_N.mpr ?_
      refine wpS_seq' (fun Q110 hQ110 => ?_)
      simp only [wpS_skip, wpS_break, wpS_cont, wpS_retV, wpS_throw, wpS_seq, wpS_if, wpS_trunc, yS_let, yS_inc, kgK_i, kgK_r, kok_nil, kok_i0, kok_is, kok_r0, kok_rs, kok_n0, kok_ns, xS_put, xS_putOp, xS_ast0, xS_ast1, xS_astOp, wpS_E, wpS_call, wpS_callS, wpS_ret, kThen_N, kThen_B, kThen_C, kThen_R, kThen_T, kNext_N, kNext_C, kNext_B, kNext_R, wpE_K, wpE_KL, xE_I, xE_R, wpE_J, xE_bin, wpE_ladd, wpE_i2l, xE_get, xE_ald0, xE_ald1, wpE_if, xE_max, xE_min, wpE_len, wpA_nil, wpA_snoc, xE_call, xE_callS, xC_C, xC_L, xC_Z, wpC_and, wpC_or, wpC_not, wpC_if, kcmp_0, kcmp_1, kcmp_2, kcmp_3, kcmp_4, kcmp_5, rR_inj, kgO_some, kgO_add, kgO_sub, kgO_mul, kgO_div, kgO_rem, kgO_and, kvI_inl, kvJ_inl, kgI_0, kgI_s, kgR_0, kgR_s, kst_nil, kst_0, kst_s, kNLl_nil, kNLl_i, kNLl_r, kNLl_n, ktag_i, ktag_r, List.length_cons, List.length_nil, List.take_succ_cons, List.take_zero, List.take_nil, List.nil_append, List.cons_append, decide_eq_true_eq, Bool.not_eq_true, Bool.not_eq_true', decide_eq_false_iff_not, ne_eq, Decidable.not_not, true_and, and_true, Nat.reduceAdd, Nat.reduceLeDiff, Nat.reduceEqDiff, Nat.le_refl, not_true_eq_false, not_false_eq_true, reduceIte, eq_self, Int.reduceNeg, Int.reduceEq, Int.reduceLT, Int.reduceLE, Nat.zero_le, Nat.one_ne_zero, ev_model]
      repeat refine And.intro (by omega) ?_
      rw [hQ110]
      clear hQ110 Q110
      refine kThen_N.mpr ?_
      refine wpS_seq' (fun Q111 hQ111 => ?_)
      simp only [wpS_skip, wpS_break, wpS_cont, wpS_retV, wpS_throw, wpS_seq, wpS_if, wpS_trunc, yS_let, yS_inc, kgK_i, kgK_r, kok_nil, kok_i0, kok_is, kok_r0, kok_rs, kok_n0, kok_ns, xS_put, xS_putOp, xS_ast0, xS_ast1, xS_astOp, wpS_E, wpS_call, wpS_callS, wpS_ret, kThen_N, kThen_B, kThen_C, kThen_R, kThen_T, kNext_N, kNext_C, kNext_B, kNext_R, wpE_K, wpE_KL, xE_I, xE_R, wpE_J, xE_bin, wpE_ladd, wpE_i2l, xE_get, xE_ald0, xE_ald1, wpE_if, xE_max, xE_min, wpE_len, wpA_nil, wpA_snoc, xE_call, xE_callS, xC_C, xC_L, xC_Z, wpC_and, wpC_or, wpC_not, wpC_if, kcmp_0, kcmp_1, kcmp_2, kcmp_3, kcmp_4, kcmp_5, rR_inj, kgO_some, kgO_add, kgO_sub, kgO_mul, kgO_div, kgO_rem, kgO_and, kvI_inl, kvJ_inl, kgI_0, kgI_s, kgR_0, kgR_s, kst_nil, kst_0, kst_s, kNLl_nil, kNLl_i, kNLl_r, kNLl_n, ktag_i, ktag_r, List.length_cons, List.length_nil, List.take_succ_cons, List.take_zero, List.take_nil, List.nil_append, List.cons_append, decide_eq_true_eq, Bool.not_eq_true, Bool.not_eq_true', decide_eq_false_iff_not, ne_eq, Decidable.not_not, true_and, and_true, Nat.reduceAdd, Nat.reduceLeDiff, Nat.reduceEqDiff, Nat.le_refl, not_true_eq_false, not_false_eq_true, reduceIte, eq_self, Int.reduceNeg, Int.reduceEq, Int.reduceLT, Int.reduceLE, Nat.zero_le, Nat.one_ne_zero, ev_model]
      have M7 : RM (kup s6 14 17 0) n c' ar li' fs sn lv' tr' (if lo x ≠ 0 then lo else (oRun n c' li' fs sn (lo, od) c').1) := M6.agree (fun o k ho => kup_other (by omega))
      refine (mdDiffer_ok (B := B) (wt := wt) hG' M7 (fun v => ?_) (fun v hv => ?_)).mono ?_
      · rw [kup_ne (by decide), f6 _ _ (by decide) (by decide) (by decide) (by unfold mSd; omega), f5 _ _ (by decide) (by decide) (by unfold mSd; omega), F4 _ _ (by unfold mSc; omega) (by decide) (Or.inl (by decide))]; exact hw0 v
      · rw [kup_ne (by decide), f6 _ _ (by decide) (by decide) (by decide) (by unfold mSd; omega), f5 _ _ (by decide) (by decide) (by unfold mSd; omega)]; exact B4 v hv
      rintro r s8 ⟨k8, S, hS, rfl⟩
      rw [kgO_some]
      simp only [wpS_skip, wpS_break, wpS_cont, wpS_retV, wpS_throw, wpS_seq, wpS_if, wpS_trunc, yS_let, yS_inc, kgK_i, kgK_r, kok_nil, kok_i0, kok_is, kok_r0, kok_rs, kok_n0, kok_ns, xS_put, xS_putOp, xS_ast0, xS_ast1, xS_astOp, wpS_E, wpS_call, wpS_callS, wpS_ret, kThen_N, kThen_B, kThen_C, kThen_R, kThen_T, kNext_N, kNext_C, kNext_B, kNext_R, wpE_K, wpE_KL, xE_I, xE_R, wpE_J, xE_bin, wpE_ladd, wpE_i2l, xE_get, xE_ald0, xE_ald1, wpE_if, xE_max, xE_min, wpE_len, wpA_nil, wpA_snoc, xE_call, xE_callS, xC_C, xC_L, xC_Z, wpC_and, wpC_or, wpC_not, wpC_if, kcmp_0, kcmp_1, kcmp_2, kcmp_3, kcmp_4, kcmp_5, rR_inj, kgO_some, kgO_add, kgO_sub, kgO_mul, kgO_div, kgO_rem, kgO_and, kvI_inl, kvJ_inl, kgI_0, kgI_s, kgR_0, kgR_s, kst_nil, kst_0, kst_s, kNLl_nil, kNLl_i, kNLl_r, kNLl_n, ktag_i, ktag_r, List.length_cons, List.length_nil, List.take_succ_cons, List.take_zero, List.take_nil, List.nil_append, List.cons_append, decide_eq_true_eq, Bool.not_eq_true, Bool.not_eq_true', decide_eq_false_iff_not, ne_eq, Decidable.not_not, true_and, and_true, Nat.reduceAdd, Nat.reduceLeDiff, Nat.reduceEqDiff, Nat.le_refl, not_true_eq_false, not_false_eq_true, reduceIte, eq_self, Int.reduceNeg, Int.reduceEq, Int.reduceLT, Int.reduceLE, Nat.zero_le, Nat.one_ne_zero, ev_model]
      rw [hQ111]
      clear hQ111
      refine kThen_N.mpr ?_
      obtain ⟨s9, hs9⟩ : ∃ s9, s9 = kup s8 14 16 (cntP (fun v => ¬ (B v ↔ S v)) n : Int) := ⟨_, rfl⟩
      rw [← hs9]
      have M9 : RM s9 n c' ar li' fs sn lv' tr' (if lo x ≠ 0 then lo else (oRun n c' li' fs sn (lo, od) c').1) := by rw [hs9]; exact (M7.keep k8).agree (fun o k ho => kup_other (by omega))
      refine wpS_gen (fun Q3 hQ3 => ?_)
      simp only [wpS_skip, wpS_break, wpS_cont, wpS_retV, wpS_throw, wpS_seq, wpS_if, wpS_trunc, yS_let, yS_inc, kgK_i, kgK_r, kok_nil, kok_i0, kok_is, kok_r0, kok_rs, kok_n0, kok_ns, xS_put, xS_putOp, xS_ast0, xS_ast1, xS_astOp, wpS_E, wpS_call, wpS_callS, wpS_ret, kThen_N, kThen_B, kThen_C, kThen_R, kThen_T, kNext_N, kNext_C, kNext_B, kNext_R, wpE_K, wpE_KL, xE_I, xE_R, wpE_J, xE_bin, wpE_ladd, wpE_i2l, xE_get, xE_ald0, xE_ald1, wpE_if, xE_max, xE_min, wpE_len, wpA_nil, wpA_snoc, xE_call, xE_callS, xC_C, xC_L, xC_Z, wpC_and, wpC_or, wpC_not, wpC_if, kcmp_0, kcmp_1, kcmp_2, kcmp_3, kcmp_4, kcmp_5, rR_inj, kgO_some, kgO_add, kgO_sub, kgO_mul, kgO_div, kgO_rem, kgO_and, kvI_inl, kvJ_inl, kgI_0, kgI_s, kgR_0, kgR_s, kst_nil, kst_0, kst_s, kNLl_nil, kNLl_i, kNLl_r, kNLl_n, ktag_i, ktag_r, List.length_cons, List.length_nil, List.take_succ_cons, List.take_zero, List.take_nil, List.nil_append, List.cons_append, decide_eq_true_eq, Bool.not_eq_true, Bool.not_eq_true', decide_eq_false_iff_not, ne_eq, Decidable.not_not, true_and, and_true, Nat.reduceAdd, Nat.reduceLeDiff, Nat.reduceEqDiff, Nat.le_refl, not_true_eq_false, not_false_eq_true, reduceIte, eq_self, Int.reduceNeg, Int.reduceEq, Int.reduceLT, Int.reduceLE, Nat.zero_le, Nat.one_ne_zero]
      refine ⟨rfl, ?_⟩
      refine (mdPartsNow_ok hG' M9 hF' hH').mono ?_
      rintro r s10 ⟨k10, rfl⟩
      rw [kgO_some]
      refine ⟨rfl, ?_⟩
      rw [hQ3]
      have fr : ∀ o k, ¬ mSc o k → o ≠ 75 → o ≠ 78 → o ≠ 79 → (o ≠ 14 ∨ (k ≠ 16 ∧ k ≠ 17)) → s10 o k = s5 o k := fun o k h1 h2 h3 h4 h5 => by
        rw [k10 o k h1, hs9, kup_other (by omega), k8 o k h1, kup_other (by omega), f6 o k h2 h3 h4 (by unfold mSc at h1; unfold mSd; omega)]
      refine ⟨_, rfl, rfl, rfl, fun o k h1 h2 h3 => ?_, ?_, ?_, M9.keep k10, ⟨fun p hp => ?_, fun p hp => ?_, R6.2.2⟩, B, S, hBI, hS, ?_⟩
      · rw [fr o k h1 (by omega) (by omega) (by omega) (by omega), f5 o k (by omega) (by omega) (by unfold mSc at h1; unfold mSd; omega), F4 o k h1 (by omega) (by omega), hσ' o k (by omega)]
      · rw [k10 _ _ (by unfold mSc; omega), hs9, kup_eq, if_neg (by decide), k8 _ _ (by unfold mSc; omega), kup_eq, if_pos rfl]
      · rw [fr _ _ (by unfold mSc; omega) (by decide) (by decide) (by decide) (by decide), f5 _ _ (by decide) (by decide) (by unfold mSd; omega), F4 _ _ (by unfold mSc; omega) (by decide) (by decide)]; exact e22
      · rw [k10 _ _ (by unfold mSc; omega), hs9, kup_ne (by decide), k8 _ _ (by unfold mSc; omega), kup_ne (by decide)]; exact R6.1 p hp
      · rw [k10 _ _ (by unfold mSc; omega), hs9, kup_ne (by decide), k8 _ _ (by unfold mSc; omega), kup_ne (by decide)]; exact R6.2.1 p hp
      · rw [k10 _ _ (by unfold mSc; omega), hs9, kup_eq, if_pos rfl]
    by_cases ql : lo x = 0
    · rw [ql] at lx5
      rw [if_neg (fun h => h ql), if_neg (fun h => h ql)] at fin
      refine wpS_gen (fun Q4 hQ4 => ?_)
      have go : wpS (sTrunc 3 (sSeq (sLet 0 3 (eK (0))) l_Md_take_3)) [some (.inr (.inl 14)), some (.inl (x : Int)), some (.inl (c' : Int))] s5 Q4 := by
        refine mdTakeOrd_ok hG' M5 R5 hI' (fun s6 f6 M6 R6 => ?_)
        rw [hQ4]
        exact fin s6 f6 M6 R6
      rw [wpS_if]
      simp only [wpS_skip, wpS_break, wpS_cont, wpS_retV, wpS_throw, wpS_seq, wpS_if, wpS_trunc, yS_let, yS_inc, kgK_i, kgK_r, kok_nil, kok_i0, kok_is, kok_r0, kok_rs, kok_n0, kok_ns, xS_put, xS_putOp, xS_ast0, xS_ast1, xS_astOp, wpS_E, wpS_call, wpS_callS, wpS_ret, kThen_N, kThen_B, kThen_C, kThen_R, kThen_T, kNext_N, kNext_C, kNext_B, kNext_R, wpE_K, wpE_KL, xE_I, xE_R, wpE_J, xE_bin, wpE_ladd, wpE_i2l, xE_get, xE_ald0, xE_ald1, wpE_if, xE_max, xE_min, wpE_len, wpA_nil, wpA_snoc, xE_call, xE_callS, xC_C, xC_L, xC_Z, wpC_and, wpC_or, wpC_not, wpC_if, kcmp_0, kcmp_1, kcmp_2, kcmp_3, kcmp_4, kcmp_5, rR_inj, kgO_some, kgO_add, kgO_sub, kgO_mul, kgO_div, kgO_rem, kgO_and, kvI_inl, kvJ_inl, kgI_0, kgI_s, kgR_0, kgR_s, kst_nil, kst_0, kst_s, kNLl_nil, kNLl_i, kNLl_r, kNLl_n, ktag_i, ktag_r, List.length_cons, List.length_nil, List.take_succ_cons, List.take_zero, List.take_nil, List.nil_append, List.cons_append, decide_eq_true_eq, Bool.not_eq_true, Bool.not_eq_true', decide_eq_false_iff_not, ne_eq, Decidable.not_not, true_and, and_true, Nat.reduceAdd, Nat.reduceLeDiff, Nat.reduceEqDiff, Nat.le_refl, not_true_eq_false, not_false_eq_true, reduceIte, eq_self, Int.reduceNeg, Int.reduceEq, Int.reduceLT, Int.reduceLE, Nat.zero_le, Nat.one_ne_zero, ev_model, ev_model_arr, Int.toNat_natCast, lx5, decide_true, decide_false, Bool.false_eq_true, if_true, if_false, true_and, and_true, not_true_eq_false, not_false_eq_true] at go ⊢
      repeat refine And.intro (by omega) ?_
      exact go
    · rw [if_pos ql, if_pos ql] at fin
      simp only [wpS_skip, wpS_break, wpS_cont, wpS_retV, wpS_throw, wpS_seq, wpS_if, wpS_trunc, yS_let, yS_inc, kgK_i, kgK_r, kok_nil, kok_i0, kok_is, kok_r0, kok_rs, kok_n0, kok_ns, xS_put, xS_putOp, xS_ast0, xS_ast1, xS_astOp, wpS_E, wpS_call, wpS_callS, wpS_ret, kThen_N, kThen_B, kThen_C, kThen_R, kThen_T, kNext_N, kNext_C, kNext_B, kNext_R, wpE_K, wpE_KL, xE_I, xE_R, wpE_J, xE_bin, wpE_ladd, wpE_i2l, xE_get, xE_ald0, xE_ald1, wpE_if, xE_max, xE_min, wpE_len, wpA_nil, wpA_snoc, xE_call, xE_callS, xC_C, xC_L, xC_Z, wpC_and, wpC_or, wpC_not, wpC_if, kcmp_0, kcmp_1, kcmp_2, kcmp_3, kcmp_4, kcmp_5, rR_inj, kgO_some, kgO_add, kgO_sub, kgO_mul, kgO_div, kgO_rem, kgO_and, kvI_inl, kvJ_inl, kgI_0, kgI_s, kgR_0, kgR_s, kst_nil, kst_0, kst_s, kNLl_nil, kNLl_i, kNLl_r, kNLl_n, ktag_i, ktag_r, List.length_cons, List.length_nil, List.take_succ_cons, List.take_zero, List.take_nil, List.nil_append, List.cons_append, decide_eq_true_eq, Bool.not_eq_true, Bool.not_eq_true', decide_eq_false_iff_not, ne_eq, Decidable.not_not, true_and, and_true, Nat.reduceAdd, Nat.reduceLeDiff, Nat.reduceEqDiff, Nat.le_refl, not_true_eq_false, not_false_eq_true, reduceIte, eq_self, Int.reduceNeg, Int.reduceEq, Int.reduceLT, Int.reduceLE, Nat.zero_le, Nat.one_ne_zero, ev_model, ev_model_arr, Int.toNat_natCast, lx5, ql, decide_true, decide_false, Bool.false_eq_true, if_true, if_false, true_and, and_true, not_true_eq_false, not_false_eq_true]
      repeat refine And.intro (by omega) ?_
      exact fin s5 (fun _ _ _ _ _ _ => rfl) M5 R5
  by_cases qt : tr x = 0
  · simp only [wpS_skip, wpS_break, wpS_cont, wpS_retV, wpS_throw, wpS_seq, wpS_if, wpS_trunc, yS_let, yS_inc, kgK_i, kgK_r, kok_nil, kok_i0, kok_is, kok_r0, kok_rs, kok_n0, kok_ns, xS_put, xS_putOp, xS_ast0, xS_ast1, xS_astOp, wpS_E, wpS_call, wpS_callS, wpS_ret, kThen_N, kThen_B, kThen_C, kThen_R, kThen_T, kNext_N, kNext_C, kNext_B, kNext_R, wpE_K, wpE_KL, xE_I, xE_R, wpE_J, xE_bin, wpE_ladd, wpE_i2l, xE_get, xE_ald0, xE_ald1, wpE_if, xE_max, xE_min, wpE_len, wpA_nil, wpA_snoc, xE_call, xE_callS, xC_C, xC_L, xC_Z, wpC_and, wpC_or, wpC_not, wpC_if, kcmp_0, kcmp_1, kcmp_2, kcmp_3, kcmp_4, kcmp_5, rR_inj, kgO_some, kgO_add, kgO_sub, kgO_mul, kgO_div, kgO_rem, kgO_and, kvI_inl, kvJ_inl, kgI_0, kgI_s, kgR_0, kgR_s, kst_nil, kst_0, kst_s, kNLl_nil, kNLl_i, kNLl_r, kNLl_n, ktag_i, ktag_r, List.length_cons, List.length_nil, List.take_succ_cons, List.take_zero, List.take_nil, List.nil_append, List.cons_append, decide_eq_true_eq, Bool.not_eq_true, Bool.not_eq_true', decide_eq_false_iff_not, ne_eq, Decidable.not_not, true_and, and_true, Nat.reduceAdd, Nat.reduceLeDiff, Nat.reduceEqDiff, Nat.le_refl, not_true_eq_false, not_false_eq_true, reduceIte, eq_self, Int.reduceNeg, Int.reduceEq, Int.reduceLT, Int.reduceLE, Nat.zero_le, Nat.one_ne_zero, ev_model, ev_model_arr, Int.toNat_natCast, tx4, qt, decide_true, decide_false, Bool.false_eq_true, if_true, if_false, true_and, and_true, not_true_eq_false, not_false_eq_true]
    repeat refine And.intro (by omega) ?_
    have e : rem n c' li' fs sn lv tr x = (lv, tr) := by unfold rem; rw [if_pos qt]
    refine mended s4 (fun _ _ _ _ _ => rfl) ?_
    rw [hlv', htr', e]
    exact M4
  · simp only [wpS_skip, wpS_break, wpS_cont, wpS_retV, wpS_throw, wpS_seq, wpS_if, wpS_trunc, yS_let, yS_inc, kgK_i, kgK_r, kok_nil, kok_i0, kok_is, kok_r0, kok_rs, kok_n0, kok_ns, xS_put, xS_putOp, xS_ast0, xS_ast1, xS_astOp, wpS_E, wpS_call, wpS_callS, wpS_ret, kThen_N, kThen_B, kThen_C, kThen_R, kThen_T, kNext_N, kNext_C, kNext_B, kNext_R, wpE_K, wpE_KL, xE_I, xE_R, wpE_J, xE_bin, wpE_ladd, wpE_i2l, xE_get, xE_ald0, xE_ald1, wpE_if, xE_max, xE_min, wpE_len, wpA_nil, wpA_snoc, xE_call, xE_callS, xC_C, xC_L, xC_Z, wpC_and, wpC_or, wpC_not, wpC_if, kcmp_0, kcmp_1, kcmp_2, kcmp_3, kcmp_4, kcmp_5, rR_inj, kgO_some, kgO_add, kgO_sub, kgO_mul, kgO_div, kgO_rem, kgO_and, kvI_inl, kvJ_inl, kgI_0, kgI_s, kgR_0, kgR_s, kst_nil, kst_0, kst_s, kNLl_nil, kNLl_i, kNLl_r, kNLl_n, ktag_i, ktag_r, List.length_cons, List.length_nil, List.take_succ_cons, List.take_zero, List.take_nil, List.nil_append, List.cons_append, decide_eq_true_eq, Bool.not_eq_true, Bool.not_eq_true', decide_eq_false_iff_not, ne_eq, Decidable.not_not, true_and, and_true, Nat.reduceAdd, Nat.reduceLeDiff, Nat.reduceEqDiff, Nat.le_refl, not_true_eq_false, not_false_eq_true, reduceIte, eq_self, Int.reduceNeg, Int.reduceEq, Int.reduceLT, Int.reduceLE, Nat.zero_le, Nat.one_ne_zero, ev_model, ev_model_arr, Int.toNat_natCast, tx4, qt, decide_true, decide_false, Bool.false_eq_true, if_true, if_false, true_and, and_true, not_true_eq_false, not_false_eq_true]
    repeat refine And.intro (by omega) ?_
    have e : rem n c' li' fs sn lv tr x = mnd n c' li' fs sn (fs x) (sn x) (lv x + 1) lv tr := by unfold rem; rw [if_neg qt]
    refine (mdReplace_ok hG' M4 (fun y hy => by have := hL.le hn3 ((hth y).mp hy).1; omega) (by omega) (by omega) x3 x4 (Sg_start hHd hxt qt hth)).mono ?_
    rintro r s5 ⟨rfl, f5, l5, t5⟩
    refine ⟨rfl, ?_⟩
    refine mended s5 f5 ?_
    rw [hlv', htr', e]
    exact M4.relevel (fun o k h1 h2 h3 => f5 o k h1 h2 (by unfold mSc at h3; unfold mSd; omega)) l5 t5
end MT2
