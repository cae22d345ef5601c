/-! weigh, clear, node -/
section AX
variable {σ : kS} {n c ar st rl : Nat} {li fs sn lv od rt dp rg : Nat → Nat} {tr lo wt sp tk pa up : Nat → Int} {sf ss : Nat → Nat} {mv sx : Int} {S : Nat → Prop}
theorem JV.mono {A A' : Int} (h : JV σ A) (hle : A ≤ A') : JV σ A' := by
  obtain ⟨n, c, ar, st, rl, li, fs, sn, lv, od, rt, dp, rg, tr, lo, wt, sp, tk, pa, up, sf, ss, mv, sx, S, hg, hC, hP, hO, hR, hrl, hA⟩ := h
  exact ⟨n, c, ar, st, rl, li, fs, sn, lv, od, rt, dp, rg, tr, lo, wt, sp, tk, pa, up, sf, ss, mv, sx, S, hg, hC, hP, hO, hR, hrl, by omega⟩
theorem cnt_sets {N : Nat → Nat → Prop} {N' : Nat → Nat → Prop} {wt' : Nat → Int} {B S' B' : Nat → Prop} (h1 : isSet n N wt S) (h2 : isSet n N wt B) (h3 : isSet n N' wt' S') (h4 : isSet n N' wt' B') : cntP (fun v => ¬ (S v ↔ S' v)) n = cntP (fun v => ¬ (B v ↔ B' v)) n :=
  cntP_congr (fun v hv => by rw [h1.uniq h2 v hv, h3.uniq h4 v hv])
theorem jWeigh {v w A : Int} (h : JV σ A) : wpS s_KP_weigh [some (.inr (.inl 0)), some (.inl v), some (.inl w)] σ (fun r _ s => refC F_Md_weigh [.inr (.inl 14), .inl v, .inl w] A (fun _ => 1) r s) := by
  obtain ⟨n, c, ar, st, rl, li, fs, sn, lv, od, rt, dp, rg, tr, lo, wt, sp, tk, pa, up, sf, ss, mv, sx, S, hg, hC, hP, hO, hR, hrl, hA⟩ := h
  obtain ⟨hG, hHd, hLb, ht01, hI, hSet⟩ := id hg
  obtain ⟨c0, c12, cW, cT, cL, cR, cG, ⟨rk, cC⟩, cS, cAg, cSd, cTw, cSt⟩ := id hC
  unfold s_KP_weigh
  refine wpS_seq' (fun Q0 hQ0 => ?_)
  rw [wpS_if]
  refine (chk1 hC.n3).mono ?_
  rintro t s ⟨hs, ht⟩
  subst s
  by_cases q : 0 ≤ v ∧ v < (n : Int)
  · rw [if_neg (fun h => ht.mp h q)]
    simp only [wpS_skip, wpS_break, wpS_cont, wpS_retV, wpS_throw, wpS_seq, wpS_if, wpS_trunc, yS_let, yS_inc, kgK_i, kgK_r, kok_nil, kok_i0, kok_is, kok_r0, kok_rs, kok_n0, kok_ns, xS_put, xS_putOp, xS_ast0, xS_ast1, xS_astOp, wpS_E, wpS_call, wpS_callS, wpS_ret, kThen_N, kThen_B, kThen_C, kThen_R, kThen_T, kNext_N, kNext_C, kNext_B, kNext_R, wpE_K, wpE_KL, xE_I, xE_R, wpE_J, xE_bin, wpE_ladd, wpE_i2l, xE_get, xE_ald0, xE_ald1, wpE_if, xE_max, xE_min, wpE_len, wpA_nil, wpA_snoc, xE_call, xE_callS, xC_C, xC_L, xC_Z, wpC_and, wpC_or, wpC_not, wpC_if, kcmp_0, kcmp_1, kcmp_2, kcmp_3, kcmp_4, kcmp_5, rR_inj, kgO_some, kgO_add, kgO_sub, kgO_mul, kgO_div, kgO_rem, kgO_and, kvI_inl, kvJ_inl, kgI_0, kgI_s, kgR_0, kgR_s, kst_nil, kst_0, kst_s, kNLl_nil, kNLl_i, kNLl_r, kNLl_n, ktag_i, ktag_r, List.length_cons, List.length_nil, List.take_succ_cons, List.take_zero, List.take_nil, List.nil_append, List.cons_append, decide_eq_true_eq, Bool.not_eq_true, Bool.not_eq_true', decide_eq_false_iff_not, ne_eq, Decidable.not_not, true_and, and_true, Nat.reduceAdd, Nat.reduceLeDiff, Nat.reduceEqDiff, Nat.le_refl, not_true_eq_false, not_false_eq_true, reduceIte, eq_self, Int.reduceNeg, Int.reduceEq, Int.reduceLT, Int.reduceLE, Nat.zero_le, Nat.one_ne_zero]
    rw [hQ0]
    refine kThen_N.mpr ?_
    obtain ⟨v, rfl⟩ : ∃ v' : Nat, v = (v' : Int) := ⟨v.toNat, by omega⟩
    have hvn : v < n := by omega
    refine wpS_gen (fun Q1 hQ1 => ?_)
    simp only [wpS_skip, wpS_break, wpS_cont, wpS_retV, wpS_throw, wpS_seq, wpS_if, wpS_trunc, yS_let, yS_inc, kgK_i, kgK_r, kok_nil, kok_i0, kok_is, kok_r0, kok_rs, kok_n0, kok_ns, xS_put, xS_putOp, xS_ast0, xS_ast1, xS_astOp, wpS_E, wpS_call, wpS_callS, wpS_ret, kThen_N, kThen_B, kThen_C, kThen_R, kThen_T, kNext_N, kNext_C, kNext_B, kNext_R, wpE_K, wpE_KL, xE_I, xE_R, wpE_J, xE_bin, wpE_ladd, wpE_i2l, xE_get, xE_ald0, xE_ald1, wpE_if, xE_max, xE_min, wpE_len, wpA_nil, wpA_snoc, xE_call, xE_callS, xC_C, xC_L, xC_Z, wpC_and, wpC_or, wpC_not, wpC_if, kcmp_0, kcmp_1, kcmp_2, kcmp_3, kcmp_4, kcmp_5, rR_inj, kgO_some, kgO_add, kgO_sub, kgO_mul, kgO_div, kgO_rem, kgO_and, kvI_inl, kvJ_inl, kgI_0, kgI_s, kgR_0, kgR_s, kst_nil, kst_0, kst_s, kNLl_nil, kNLl_i, kNLl_r, kNLl_n, ktag_i, ktag_r, List.length_cons, List.length_nil, List.take_succ_cons, List.take_zero, List.take_nil, List.nil_append, List.cons_append, decide_eq_true_eq, Bool.not_eq_true, Bool.not_eq_true', decide_eq_false_iff_not, ne_eq, Decidable.not_not, true_and, and_true, Nat.reduceAdd, Nat.reduceLeDiff, Nat.reduceEqDiff, Nat.le_refl, not_true_eq_false, not_false_eq_true, reduceIte, eq_self, Int.reduceNeg, Int.reduceEq, Int.reduceLT, Int.reduceLE, Nat.zero_le, Nat.one_ne_zero, ev_kp]
    refine ⟨rfl, ?_⟩
    refine (chReweigh_ok (w := w) hG cW cC cS hvn).mono ?_
    rintro r s ⟨k1, rk', S', C1, S1, I1, rfl⟩
    rw [kgO_some]
    refine ⟨rfl, ?_⟩
    rw [hQ1]
    intro y
    have hR2 : RR (kup s 110 0 y) n c ar st rl li fs sn lv od rg tr lo wt sp tk sf ss mv sx := hR.agree (fun o k ho => by rw [kup_ne (by omega), k1 o k (by omega) (by omega) (by omega)])
    refine (mdWeigh_ok hG hR2.1 hR2.2.2.1).mono ?_
    rintro r' s' (⟨h, -⟩ | ⟨-, k2, e22, w2, B, B', hB, hB', rfl⟩)
    · exact absurd q h
    · simp only [Int.toNat_natCast] at w2 hB'
      have f1 : ∀ o k, o ≠ 110 → ¬ (51 ≤ o ∧ o ≤ 53) → o ≠ 70 → ¬ mSc o k → (o ≠ 14 ∨ k ≠ 22) → s' o k = σ o k := fun o k h1 h2 h3 h4 h5 => by rw [k2 o k h3 h4 h5, kup_ne h1, k1 o k (by omega) (by omega) (by omega)]
      have f2 : ∀ o k, o ≠ 110 → o ≠ 70 → ¬ mSc o k → (o ≠ 14 ∨ k ≠ 22) → s' o k = s o k := fun o k h1 h3 h4 h5 => by rw [k2 o k h3 h4 h5, kup_ne h1]
      obtain ⟨r1, r2, r3, r4, r5, r6, r7⟩ := hR
      refine ⟨⟨n, c, ar, st, rl, li, fs, sn, lv, od, rt, dp, rg, tr, lo, fun u => if u = v then w else wt u, sp, tk, pa, up, sf, ss, mv, sx, S', ⟨hG, hHd, hLb, ht01, hI, I1⟩, ?_, hP.agree (fun o k ho => f1 o k (by omega) (by omega) (by omega) (by unfold mSc; omega) (by omega)), hO, ⟨r1.agree (fun o k ho => f1 o k (by omega) (by omega) (by omega) (by unfold mSc; omega) (by omega)), ⟨fun p hp => by rw [f1 _ _ (by omega) (by omega) (by omega) (by unfold mSc; omega) (by omega)]; exact r2.1 p hp, fun p hp => by rw [f1 _ _ (by omega) (by omega) (by omega) (by unfold mSc; omega) (by omega)]; exact r2.2.1 p hp, r2.2.2⟩, w2, ⟨by rw [f1 _ _ (by omega) (by omega) (by omega) (by unfold mSc; omega) (by omega)]; exact r4.1, fun k hk => by rw [f1 _ _ (by omega) (by omega) (by omega) (by unfold mSc; omega) (by omega)]; exact r4.2 k hk⟩, by rw [f1 _ _ (by omega) (by omega) (by omega) (by unfold mSc; omega) (by omega)]; exact r5, r6.agree (fun o k ho => f1 o k (by omega) (by omega) (by omega) (by unfold mSc; omega) (by omega)), by rw [f1 _ _ (by omega) (by omega) (by omega) (by unfold mSc; omega) (by omega)]; exact r7⟩, hrl, by rw [f1 _ _ (by omega) (by omega) (by omega) (by unfold mSc; omega) (by omega)]; exact hA⟩, ?_, Or.inl ⟨_, rfl, by rw [cnt_sets hSet hB I1 hB'], e22⟩⟩
      · have f3 : ∀ o k, (o ≤ 50 ∧ o ≠ 14) → s' o k = σ o k := fun o k h => f1 o k (by omega) (by omega) (by omega) (by unfold mSc; omega) (by omega)
        refine ⟨by rw [f3 _ _ (by omega)]; exact c0, by rw [f3 _ _ (by omega)]; exact c12, cW.agree (fun o k ho => f3 o k (by unfold isWb at ho; omega)), cT.agree (fun o k ho => f3 o k (by unfold isTr at ho; omega)), fun x => by rw [f3 _ _ (by omega)]; exact cL x, ⟨fun p hp => by rw [f3 _ _ (by omega)]; exact cR.1 p hp, fun p hp => by rw [f3 _ _ (by omega)]; exact cR.2.1 p hp, cR.2.2⟩, ⟨by rw [f3 _ _ (by omega)]; exact cG.1, fun k hk => by rw [f3 _ _ (by omega)]; exact cG.2 k hk⟩, ⟨rk', fun u => by rw [f2 _ _ (by omega) (by omega) (by unfold mSc; omega) (by omega)]; exact C1.1 u, fun i hi => by rw [f2 _ _ (by omega) (by omega) (by unfold mSc; omega) (by omega)]; exact C1.2.1 i hi, C1.2.2⟩, fun u hu => by rw [f2 _ _ (by omega) (by omega) (by unfold mSc; omega) (by omega)]; exact S1 u hu, ?_, cSd.agree (fun o k ho => f3 o k (by omega)), cTw.agree (fun o k ho => f3 o k (by omega)), cSt.agree (fun o k ho => f3 o k (by omega))⟩
        rw [f3 1 5 (by omega), f3 6 3 (by omega), f3 8 6 (by omega), f3 9 8 (by omega)]
        exact cAg
      · rw [k2 _ _ (by decide) (by unfold mSc; omega) (by decide), kup_eq, if_pos rfl]
  · rw [if_pos (ht.mpr q)]
    simp only [wpS_skip, wpS_break, wpS_cont, wpS_retV, wpS_throw, wpS_seq, wpS_if, wpS_trunc, yS_let, yS_inc, kgK_i, kgK_r, kok_nil, kok_i0, kok_is, kok_r0, kok_rs, kok_n0, kok_ns, xS_put, xS_putOp, xS_ast0, xS_ast1, xS_astOp, wpS_E, wpS_call, wpS_callS, wpS_ret, kThen_N, kThen_B, kThen_C, kThen_R, kThen_T, kNext_N, kNext_C, kNext_B, kNext_R, wpE_K, wpE_KL, xE_I, xE_R, wpE_J, xE_bin, wpE_ladd, wpE_i2l, xE_get, xE_ald0, xE_ald1, wpE_if, xE_max, xE_min, wpE_len, wpA_nil, wpA_snoc, xE_call, xE_callS, xC_C, xC_L, xC_Z, wpC_and, wpC_or, wpC_not, wpC_if, kcmp_0, kcmp_1, kcmp_2, kcmp_3, kcmp_4, kcmp_5, rR_inj, kgO_some, kgO_add, kgO_sub, kgO_mul, kgO_div, kgO_rem, kgO_and, kvI_inl, kvJ_inl, kgI_0, kgI_s, kgR_0, kgR_s, kst_nil, kst_0, kst_s, kNLl_nil, kNLl_i, kNLl_r, kNLl_n, ktag_i, ktag_r, List.length_cons, List.length_nil, List.take_succ_cons, List.take_zero, List.take_nil, List.nil_append, List.cons_append, decide_eq_true_eq, Bool.not_eq_true, Bool.not_eq_true', decide_eq_false_iff_not, ne_eq, Decidable.not_not, true_and, and_true, Nat.reduceAdd, Nat.reduceLeDiff, Nat.reduceEqDiff, Nat.le_refl, not_true_eq_false, not_false_eq_true, reduceIte, eq_self, Int.reduceNeg, Int.reduceEq, Int.reduceLT, Int.reduceLE, Nat.zero_le, Nat.one_ne_zero]
    rw [hQ0]
    refine kThen_T.mpr ?_
    refine refC_ask hg hC hP hO hR hrl hA (fun s2 hR2 => ?_)
    refine (mdWeigh_ok hG hR2.1 hR2.2.2.1).mono ?_
    rintro r' s' (⟨-, hk, -⟩ | ⟨h, -⟩)
    · exact ⟨1, hk, Or.inr ⟨11, rfl, rfl, by decide⟩⟩
    · exact absurd h q
theorem jClear {A : Int} (hA2 : A < 2147483647) (h : JV σ A) : wpS s_KP_clear [some (.inr (.inl 0))] σ (fun r _ s => r = rR none ∧ wpF F_Md_clear [.inr (.inl 14)] s (fun r' s' => r' = none ∧ JV s' (A + 1))) := by
  obtain ⟨n, c, ar, st, rl, li, fs, sn, lv, od, rt, dp, rg, tr, lo, wt, sp, tk, pa, up, sf, ss, mv, sx, S, hg, hC, hP, hO, hR, hrl, hA⟩ := h
  obtain ⟨hG, hHd, hLb, ht01, hI, hSet⟩ := id hg
  obtain ⟨c0, c12, cW, cT, cL, cR, cG, ⟨rk, cC⟩, cS, ⟨a0, a1, a2, a3⟩, cSd, cTw, cSt⟩ := id hC
  unfold s_KP_clear
  refine wpS_seq' (fun Q0 hQ0 => ?_)
  refine wpS_seq' (fun Q101 hQ101 => ?_)
  simp only [wpS_skip, wpS_break, wpS_cont, wpS_retV, wpS_throw, wpS_seq, wpS_if, wpS_trunc, yS_let, yS_inc, kgK_i, kgK_r, kok_nil, kok_i0, kok_is, kok_r0, kok_rs, kok_n0, kok_ns, xS_put, xS_putOp, xS_ast0, xS_ast1, xS_astOp, wpS_E, wpS_call, wpS_callS, wpS_ret, kThen_N, kThen_B, kThen_C, kThen_R, kThen_T, kNext_N, kNext_C, kNext_B, kNext_R, wpE_K, wpE_KL, xE_I, xE_R, wpE_J, xE_bin, wpE_ladd, wpE_i2l, xE_get, xE_ald0, xE_ald1, wpE_if, xE_max, xE_min, wpE_len, wpA_nil, wpA_snoc, xE_call, xE_callS, xC_C, xC_L, xC_Z, wpC_and, wpC_or, wpC_not, wpC_if, kcmp_0, kcmp_1, kcmp_2, kcmp_3, kcmp_4, kcmp_5, rR_inj, kgO_some, kgO_add, kgO_sub, kgO_mul, kgO_div, kgO_rem, kgO_and, kvI_inl, kvJ_inl, kgI_0, kgI_s, kgR_0, kgR_s, kst_nil, kst_0, kst_s, kNLl_nil, kNLl_i, kNLl_r, kNLl_n, ktag_i, ktag_r, List.length_cons, List.length_nil, List.take_succ_cons, List.take_zero, List.take_nil, List.nil_append, List.cons_append, decide_eq_true_eq, Bool.not_eq_true, Bool.not_eq_true', decide_eq_false_iff_not, ne_eq, Decidable.not_not, true_and, and_true, Nat.reduceAdd, Nat.reduceLeDiff, Nat.reduceEqDiff, Nat.le_refl, not_true_eq_false, not_false_eq_true, reduceIte, eq_self, Int.reduceNeg, Int.reduceEq, Int.reduceLT, Int.reduceLE, Nat.zero_le, Nat.one_ne_zero, ev_kp]
  refine ⟨rfl, ?_⟩
  refine (forget_ok hG hP hO).mono ?_
  rintro r s1 ⟨rfl, k1, P1⟩
  rw [kgO_some]
  refine ⟨by show ¬ ((0 : Nat) = 2); decide, ?_⟩
  rw [hQ101]
  clear hQ101
  refine kThen_N.mpr ?_
  have W1 : Wb s1 n c ar li fs sn := cW.agree (fun o k ho => k1 o k (by unfold isWb at ho; omega) (by unfold isWb at ho; omega) (by unfold isWb at ho; omega))
  have hz : s1 20 0 = 0 ∧ s1 22 0 = 0 := by
    obtain ⟨-, -, -, -, -, -, -, Fo, So, Fi, Si, h1, h2, h3, h4⟩ := W1
    exact ⟨by rw [h1.2.2.2 0 (by omega), h2.1]; rfl, by rw [h3.2.2.2 0 (by omega), h4.1]; rfl⟩
  have e15 : s1 1 5 = σ 1 5 := k1 _ _ (by decide) (by decide) (by decide)
  refine wpS_seq' (fun Q102 hQ102 => ?_)
  simp only [wpS_skip, wpS_break, wpS_cont, wpS_retV, wpS_throw, wpS_seq, wpS_if, wpS_trunc, yS_let, yS_inc, kgK_i, kgK_r, kok_nil, kok_i0, kok_is, kok_r0, kok_rs, kok_n0, kok_ns, xS_put, xS_putOp, xS_ast0, xS_ast1, xS_astOp, wpS_E, wpS_call, wpS_callS, wpS_ret, kThen_N, kThen_B, kThen_C, kThen_R, kThen_T, kNext_N, kNext_C, kNext_B, kNext_R, wpE_K, wpE_KL, xE_I, xE_R, wpE_J, xE_bin, wpE_ladd, wpE_i2l, xE_get, xE_ald0, xE_ald1, wpE_if, xE_max, xE_min, wpE_len, wpA_nil, wpA_snoc, xE_call, xE_callS, xC_C, xC_L, xC_Z, wpC_and, wpC_or, wpC_not, wpC_if, kcmp_0, kcmp_1, kcmp_2, kcmp_3, kcmp_4, kcmp_5, rR_inj, kgO_some, kgO_add, kgO_sub, kgO_mul, kgO_div, kgO_rem, kgO_and, kvI_inl, kvJ_inl, kgI_0, kgI_s, kgR_0, kgR_s, kst_nil, kst_0, kst_s, kNLl_nil, kNLl_i, kNLl_r, kNLl_n, ktag_i, ktag_r, List.length_cons, List.length_nil, List.take_succ_cons, List.take_zero, List.take_nil, List.nil_append, List.cons_append, decide_eq_true_eq, Bool.not_eq_true, Bool.not_eq_true', decide_eq_false_iff_not, ne_eq, Decidable.not_not, true_and, and_true, Nat.reduceAdd, Nat.reduceLeDiff, Nat.reduceEqDiff, Nat.le_refl, not_true_eq_false, not_false_eq_true, reduceIte, eq_self, Int.reduceNeg, Int.reduceEq, Int.reduceLT, Int.reduceLE, Nat.zero_le, Nat.one_ne_zero, ev_kp]
  refine ⟨rfl, ?_⟩
  refine (webEmpty_ok W1 hG (by rw [e15]; omega) hz).mono ?_
  rintro r s2 ⟨rfl, k2, e2, W2⟩
  refine ⟨rfl, ?_⟩
  rw [hQ102]
  clear hQ102
  refine kThen_N.mpr ?_
  refine wpS_seq' (fun Q103 hQ103 => ?_)
  simp only [wpS_skip, wpS_break, wpS_cont, wpS_retV, wpS_throw, wpS_seq, wpS_if, wpS_trunc, yS_let, yS_inc, kgK_i, kgK_r, kok_nil, kok_i0, kok_is, kok_r0, kok_rs, kok_n0, kok_ns, xS_put, xS_putOp, xS_ast0, xS_ast1, xS_astOp, wpS_E, wpS_call, wpS_callS, wpS_ret, kThen_N, kThen_B, kThen_C, kThen_R, kThen_T, kNext_N, kNext_C, kNext_B, kNext_R, wpE_K, wpE_KL, xE_I, xE_R, wpE_J, xE_bin, wpE_ladd, wpE_i2l, xE_get, xE_ald0, xE_ald1, wpE_if, xE_max, xE_min, wpE_len, wpA_nil, wpA_snoc, xE_call, xE_callS, xC_C, xC_L, xC_Z, wpC_and, wpC_or, wpC_not, wpC_if, kcmp_0, kcmp_1, kcmp_2, kcmp_3, kcmp_4, kcmp_5, rR_inj, kgO_some, kgO_add, kgO_sub, kgO_mul, kgO_div, kgO_rem, kgO_and, kvI_inl, kvJ_inl, kgI_0, kgI_s, kgR_0, kgR_s, kst_nil, kst_0, kst_s, kNLl_nil, kNLl_i, kNLl_r, kNLl_n, ktag_i, ktag_r, List.length_cons, List.length_nil, List.take_succ_cons, List.take_zero, List.take_nil, List.nil_append, List.cons_append, decide_eq_true_eq, Bool.not_eq_true, Bool.not_eq_true', decide_eq_false_iff_not, ne_eq, Decidable.not_not, true_and, and_true, Nat.reduceAdd, Nat.reduceLeDiff, Nat.reduceEqDiff, Nat.le_refl, not_true_eq_false, not_false_eq_true, reduceIte, eq_self, Int.reduceNeg, Int.reduceEq, Int.reduceLT, Int.reduceLE, Nat.zero_le, Nat.one_ne_zero, ev_kp]
  refine ⟨rfl, ?_⟩
  refine rowEmpty_ok.mono ?_
  rintro r s3 ⟨rfl, hs3⟩
  refine ⟨rfl, ?_⟩
  rw [hQ103]
  clear hQ103
  refine kThen_N.mpr ?_
  refine wpS_gen (fun Q1 hQ1 => ?_)
  simp only [wpS_skip, wpS_break, wpS_cont, wpS_retV, wpS_throw, wpS_seq, wpS_if, wpS_trunc, yS_let, yS_inc, kgK_i, kgK_r, kok_nil, kok_i0, kok_is, kok_r0, kok_rs, kok_n0, kok_ns, xS_put, xS_putOp, xS_ast0, xS_ast1, xS_astOp, wpS_E, wpS_call, wpS_callS, wpS_ret, kThen_N, kThen_B, kThen_C, kThen_R, kThen_T, kNext_N, kNext_C, kNext_B, kNext_R, wpE_K, wpE_KL, xE_I, xE_R, wpE_J, xE_bin, wpE_ladd, wpE_i2l, xE_get, xE_ald0, xE_ald1, wpE_if, xE_max, xE_min, wpE_len, wpA_nil, wpA_snoc, xE_call, xE_callS, xC_C, xC_L, xC_Z, wpC_and, wpC_or, wpC_not, wpC_if, kcmp_0, kcmp_1, kcmp_2, kcmp_3, kcmp_4, kcmp_5, rR_inj, kgO_some, kgO_add, kgO_sub, kgO_mul, kgO_div, kgO_rem, kgO_and, kvI_inl, kvJ_inl, kgI_0, kgI_s, kgR_0, kgR_s, kst_nil, kst_0, kst_s, kNLl_nil, kNLl_i, kNLl_r, kNLl_n, ktag_i, ktag_r, List.length_cons, List.length_nil, List.take_succ_cons, List.take_zero, List.take_nil, List.nil_append, List.cons_append, decide_eq_true_eq, Bool.not_eq_true, Bool.not_eq_true', decide_eq_false_iff_not, ne_eq, Decidable.not_not, true_and, and_true, Nat.reduceAdd, Nat.reduceLeDiff, Nat.reduceEqDiff, Nat.le_refl, not_true_eq_false, not_false_eq_true, reduceIte, eq_self, Int.reduceNeg, Int.reduceEq, Int.reduceLT, Int.reduceLE, Nat.zero_le, Nat.one_ne_zero, ev_kp]
  rw [hQ1]
  obtain ⟨s4, hs4⟩ : ∃ s4, s4 = kup s3 0 12 0 := ⟨_, rfl⟩
  rw [← hs4, hQ0]
  refine kThen_N.mpr (wpS_retV.mpr ⟨rfl, ?_⟩)
  have f4 : ∀ o k, (o ≠ 7 ∨ k ≠ 9) → (o ≠ 0 ∨ k ≠ 12) → s4 o k = s2 o k := fun o k h1 h2 => by rw [hs4, kup_other h2, hs3, kup_other h1]
  have f04 : ∀ o k, ¬ isWb o → o ≠ 12 → o ≠ 62 → o ≠ 63 → (o ≠ 7 ∨ k ≠ 9) → (o ≠ 0 ∨ k ≠ 12) → s4 o k = σ o k := fun o k h1 h2 h3 h4 h5 h6 => by rw [f4 o k h5 h6, k2 o k h1, k1 o k h2 h3 h4]
  refine mdClear_ok.mono ?_
  rintro r' s' ⟨rfl, m0, m00, m22, m1, m3, m10, m14, m16, m17⟩
  refine ⟨rfl, ?_⟩
  have g : ∀ o k, o ≠ 14 → ¬ isWb o → o ≠ 12 → o ≠ 62 → o ≠ 63 → (o ≠ 7 ∨ k ≠ 9) → (o ≠ 0 ∨ k ≠ 12) → s' o k = σ o k := fun o k h0 h1 h2 h3 h4 h5 h6 => by rw [m0 o k h0, f04 o k h1 h2 h3 h4 h5 h6]
  have e15' : s' 1 5 = σ 1 5 + 1 := by rw [m0 _ _ (by decide), f4 _ _ (by decide) (by decide), e2, e15]
  have hno : ∀ x, ¬ th 0 li x := fun x ⟨k, hk, _⟩ => absurd hk (by omega)
  have hHd0 : Hd 0 (th 0 li) fs sn lv tr := ⟨fun x hx => absurd hx.1 (hno x), fun x hx => absurd hx (hno x), fun i x hx => absurd hx (hno x)⟩
  have hp0 : prm 0 od (ivO 0 od) := ⟨fun p hp => absurd hp (by omega), fun p hp => absurd hp (by omega)⟩
  obtain ⟨r1, r2, r3, r4, r5, r6, r7⟩ := hR
  obtain ⟨q1, q2, q3, q4, q5, q6, q7, q8, q9, q10⟩ := r1
  have gm : ∀ o k, 70 ≤ o → s' o k = σ o k := fun o k h => g o k (by omega) (by unfold isWb; omega) (by omega) (by omega) (by omega) (by omega) (by omega)
  refine ⟨0, 0, 0, 0, 0, li, fs, sn, lv, od, rt, dp, rg, tr, lo, wt, sp, tk, pa, up, sf, ss, 0, sx, S, ⟨⟨by omega, by omega, by omega, fun k hk => absurd hk (by omega), fun i j _ hj => absurd hj (by omega)⟩, hHd0, fun x hx => absurd hx (hno x), ht01, ⟨hp0, fun y hy => absurd hy.1 (hno y), hI.2.2⟩, fun v hv => absurd hv (by omega)⟩, ⟨?_, ?_, ?_, ⟨?_, ht01, hHd0, fun v hv => absurd hv (by omega), ⟨fun v hv => absurd hv (by omega), fun x hx => absurd hx.1 (hno x)⟩, fun x hx => absurd hx.1 (hno x)⟩, fun x => ?_, ⟨fun p hp => absurd hp (by omega), fun p hp => absurd hp (by omega), hp0⟩, ⟨?_, fun k hk => absurd hk (by omega)⟩, ⟨rk, fun v => ?_, fun i hi => absurd hi (by omega), fun i j _ hj => absurd hj (by omega), fun v hv => absurd hv (by omega)⟩, fun v hv => absurd hv (by omega), ⟨by omega, ?_, ?_, ?_⟩, ⟨?_, fun h => ?_⟩, ⟨?_, fun h => ?_⟩, ⟨?_, fun h => ?_⟩⟩, P1.agree (fun o k ho => ?_), plOk_nil, ⟨⟨m1, m10, m3, fun k hk => absurd hk (by omega), fun x => ?_, fun x => ?_, fun x => ?_, fun x => ?_, fun x => ?_, fun x hx => absurd hx (by omega)⟩, ⟨fun p hp => absurd hp (by omega), fun p hp => absurd hp (by omega), hp0⟩, fun v => ?_, ⟨m14, fun k hk => absurd hk (by omega)⟩, m16, ⟨m17, fun k hk => absurd hk (by omega)⟩, ?_⟩, by omega, by omega⟩
  · rw [g _ _ (by decide) (by unfold isWb; omega) (by decide) (by decide) (by decide) (by decide) (by decide)]; exact c0
  · rw [m0 _ _ (by decide), hs4, kup_eq, if_pos rfl]
  · exact W2.agree (fun o k ho => by unfold isWb at ho; rw [m0 o k (by omega), f4 o k (by omega) (by omega)])
  · exact ⟨fun x => by rw [g _ _ (by decide) (by unfold isWb; omega) (by decide) (by decide) (by decide) (Or.inl (by decide)) (Or.inl (by decide))]; exact cT.1.1 x, fun x => by rw [g _ _ (by decide) (by unfold isWb; omega) (by decide) (by decide) (by decide) (Or.inl (by decide)) (Or.inl (by decide))]; exact cT.1.2 x⟩
  · rw [g _ _ (by decide) (by unfold isWb; omega) (by decide) (by decide) (by decide) (Or.inl (by decide)) (Or.inl (by decide))]; exact cL x
  · rw [m0 _ _ (by decide), hs4, kup_other (by decide), hs3, kup_eq, if_pos rfl]; rfl
  · rw [g _ _ (by decide) (by unfold isWb; omega) (by decide) (by decide) (by decide) (Or.inl (by decide)) (Or.inl (by decide))]; exact cC.1 v
  · rw [g _ _ (by decide) (by unfold isWb; omega) (by decide) (by decide) (by decide) (by decide) (by decide)]; omega
  · rw [g _ _ (by decide) (by unfold isWb; omega) (by decide) (by decide) (by decide) (by decide) (by decide)]; omega
  · rw [g _ _ (by decide) (by unfold isWb; omega) (by decide) (by decide) (by decide) (by decide) (by decide)]; omega
  · rw [g 9 8 (by decide) (by unfold isWb; omega) (by decide) (by decide) (by decide) (by decide) (by decide)]; omega
  · rw [g 9 8 (by decide) (by unfold isWb; omega) (by decide) (by decide) (by decide) (by decide) (by decide)] at h; omega
  · rw [g 6 3 (by decide) (by unfold isWb; omega) (by decide) (by decide) (by decide) (by decide) (by decide)]; omega
  · rw [g 6 3 (by decide) (by unfold isWb; omega) (by decide) (by decide) (by decide) (by decide) (by decide)] at h; omega
  · rw [g 8 6 (by decide) (by unfold isWb; omega) (by decide) (by decide) (by decide) (by decide) (by decide)]; omega
  · rw [g 8 6 (by decide) (by unfold isWb; omega) (by decide) (by decide) (by decide) (by decide) (by decide)] at h; omega
  · rw [m0 o k (by omega), f4 o k (by omega) (by omega), k2 o k (by unfold isWb; omega)]
  · rw [gm _ _ (by decide)]; exact q5 x
  · rw [gm _ _ (by decide)]; exact q6 x
  · rw [gm _ _ (by decide)]; exact q7 x
  · rw [gm _ _ (by decide)]; exact q8 x
  · rw [gm _ _ (by decide)]; exact q9 x
  · rw [gm _ _ (by decide)]; exact r3 v
  · rw [m00, f04 _ _ (by unfold isWb; omega) (by decide) (by decide) (by decide) (by decide) (by decide)]; exact r7
/-- the reference's state behind a change, and all of it -/
theorem jNode {w A : Int} (hA2 : A < 2147483647) (h : JV σ A) : wpS s_KP_node [some (.inr (.inl 0)), some (.inl w)] σ (fun r _ s => refC F_Md_node [.inr (.inl 14), .inl w] (A + 1) (fun _ => 1) r s) := by
  obtain ⟨n, c, ar, st, rl, li, fs, sn, lv, od, rt, dp, rg, tr, lo, wt, sp, tk, pa, up, sf, ss, mv, sx, S, hg, hC, hP, hO, hR, hrl, hA⟩ := h
  have hG := hg.1
  have h13 := hC.n3
  unfold s_KP_node
  refine wpS_seq' (fun Q0 hQ0 => ?_)
  by_cases q : (300 : Int) ≤ (n : Int)
  · simp only [wpS_skip, wpS_break, wpS_cont, wpS_retV, wpS_throw, wpS_seq, wpS_if, wpS_trunc, yS_let, yS_inc, kgK_i, kgK_r, kok_nil, kok_i0, kok_is, kok_r0, kok_rs, kok_n0, kok_ns, xS_put, xS_putOp, xS_ast0, xS_ast1, xS_astOp, wpS_E, wpS_call, wpS_callS, wpS_ret, kThen_N, kThen_B, kThen_C, kThen_R, kThen_T, kNext_N, kNext_C, kNext_B, kNext_R, wpE_K, wpE_KL, xE_I, xE_R, wpE_J, xE_bin, wpE_ladd, wpE_i2l, xE_get, xE_ald0, xE_ald1, wpE_if, xE_max, xE_min, wpE_len, wpA_nil, wpA_snoc, xE_call, xE_callS, xC_C, xC_L, xC_Z, wpC_and, wpC_or, wpC_not, wpC_if, kcmp_0, kcmp_1, kcmp_2, kcmp_3, kcmp_4, kcmp_5, rR_inj, kgO_some, kgO_add, kgO_sub, kgO_mul, kgO_div, kgO_rem, kgO_and, kvI_inl, kvJ_inl, kgI_0, kgI_s, kgR_0, kgR_s, kst_nil, kst_0, kst_s, kNLl_nil, kNLl_i, kNLl_r, kNLl_n, ktag_i, ktag_r, List.length_cons, List.length_nil, List.take_succ_cons, List.take_zero, List.take_nil, List.nil_append, List.cons_append, decide_eq_true_eq, Bool.not_eq_true, Bool.not_eq_true', decide_eq_false_iff_not, ne_eq, Decidable.not_not, true_and, and_true, Nat.reduceAdd, Nat.reduceLeDiff, Nat.reduceEqDiff, Nat.le_refl, not_true_eq_false, not_false_eq_true, reduceIte, eq_self, Int.reduceNeg, Int.reduceEq, Int.reduceLT, Int.reduceLE, Nat.zero_le, Nat.one_ne_zero, ev_kp, ev_web, h13, q, decide_true, decide_false, Bool.false_eq_true, if_true, if_false, true_and, and_true, not_true_eq_false, not_false_eq_true]
    rw [hQ0]
    refine kThen_T.mpr ?_
    refine refC_ask hg hC hP hO hR hrl (by omega) (fun s2 hR2 => ?_)
    refine (mdNode_ok hG.1 hR2.1 hR2.2.1).mono ?_
    rintro r' s' (⟨-, rfl, -⟩ | ⟨h, -⟩)
    · exact ⟨1, sK.refl _, Or.inr ⟨13, rfl, rfl, by decide⟩⟩
    · omega
  · simp only [wpS_skip, wpS_break, wpS_cont, wpS_retV, wpS_throw, wpS_seq, wpS_if, wpS_trunc, yS_let, yS_inc, kgK_i, kgK_r, kok_nil, kok_i0, kok_is, kok_r0, kok_rs, kok_n0, kok_ns, xS_put, xS_putOp, xS_ast0, xS_ast1, xS_astOp, wpS_E, wpS_call, wpS_callS, wpS_ret, kThen_N, kThen_B, kThen_C, kThen_R, kThen_T, kNext_N, kNext_C, kNext_B, kNext_R, wpE_K, wpE_KL, xE_I, xE_R, wpE_J, xE_bin, wpE_ladd, wpE_i2l, xE_get, xE_ald0, xE_ald1, wpE_if, xE_max, xE_min, wpE_len, wpA_nil, wpA_snoc, xE_call, xE_callS, xC_C, xC_L, xC_Z, wpC_and, wpC_or, wpC_not, wpC_if, kcmp_0, kcmp_1, kcmp_2, kcmp_3, kcmp_4, kcmp_5, rR_inj, kgO_some, kgO_add, kgO_sub, kgO_mul, kgO_div, kgO_rem, kgO_and, kvI_inl, kvJ_inl, kgI_0, kgI_s, kgR_0, kgR_s, kst_nil, kst_0, kst_s, kNLl_nil, kNLl_i, kNLl_r, kNLl_n, ktag_i, ktag_r, List.length_cons, List.length_nil, List.take_succ_cons, List.take_zero, List.take_nil, List.nil_append, List.cons_append, decide_eq_true_eq, Bool.not_eq_true, Bool.not_eq_true', decide_eq_false_iff_not, ne_eq, Decidable.not_not, true_and, and_true, Nat.reduceAdd, Nat.reduceLeDiff, Nat.reduceEqDiff, Nat.le_refl, not_true_eq_false, not_false_eq_true, reduceIte, eq_self, Int.reduceNeg, Int.reduceEq, Int.reduceLT, Int.reduceLE, Nat.zero_le, Nat.one_ne_zero, ev_kp, ev_web, h13, q, decide_true, decide_false, Bool.false_eq_true, if_true, if_false, true_and, and_true, not_true_eq_false, not_false_eq_true]
    rw [hQ0]
    refine kThen_N.mpr ?_
    refine wpS_seq' (fun Q104 hQ104 => ?_)
    simp only [wpS_skip, wpS_break, wpS_cont, wpS_retV, wpS_throw, wpS_seq, wpS_if, wpS_trunc, yS_let, yS_inc, kgK_i, kgK_r, kok_nil, kok_i0, kok_is, kok_r0, kok_rs, kok_n0, kok_ns, xS_put, xS_putOp, xS_ast0, xS_ast1, xS_astOp, wpS_E, wpS_call, wpS_callS, wpS_ret, kThen_N, kThen_B, kThen_C, kThen_R, kThen_T, kNext_N, kNext_C, kNext_B, kNext_R, wpE_K, wpE_KL, xE_I, xE_R, wpE_J, xE_bin, wpE_ladd, wpE_i2l, xE_get, xE_ald0, xE_ald1, wpE_if, xE_max, xE_min, wpE_len, wpA_nil, wpA_snoc, xE_call, xE_callS, xC_C, xC_L, xC_Z, wpC_and, wpC_or, wpC_not, wpC_if, kcmp_0, kcmp_1, kcmp_2, kcmp_3, kcmp_4, kcmp_5, rR_inj, kgO_some, kgO_add, kgO_sub, kgO_mul, kgO_div, kgO_rem, kgO_and, kvI_inl, kvJ_inl, kgI_0, kgI_s, kgR_0, kgR_s, kst_nil, kst_0, kst_s, kNLl_nil, kNLl_i, kNLl_r, kNLl_n, ktag_i, ktag_r, List.length_cons, List.length_nil, List.take_succ_cons, List.take_zero, List.take_nil, List.nil_append, List.cons_append, decide_eq_true_eq, Bool.not_eq_true, Bool.not_eq_true', decide_eq_false_iff_not, ne_eq, Decidable.not_not, true_and, and_true, Nat.reduceAdd, Nat.reduceLeDiff, Nat.reduceEqDiff, Nat.le_refl, not_true_eq_false, not_false_eq_true, reduceIte, eq_self, Int.reduceNeg, Int.reduceEq, Int.reduceLT, Int.reduceLE, Nat.zero_le, Nat.one_ne_zero, ev_kp]
    refine ⟨rfl, ?_⟩
    refine (forget_ok hG hP hO).mono ?_
    rintro r s1 ⟨rfl, k1, P1⟩
    rw [kgO_some]
    refine ⟨by show ¬ ((0 : Nat) = 2); decide, ?_⟩
    rw [hQ104]
    clear hQ104
    refine kThen_N.mpr ?_
    have C1 := hC.agree (s := s1) (fun o k ho => k1 o k (by omega) (by omega) (by omega))
    have e15 : s1 1 5 = σ 1 5 := k1 _ _ (by decide) (by decide) (by decide)
    refine wpS_gen (fun Q1 hQ1 => ?_)
    simp only [wpS_skip, wpS_break, wpS_cont, wpS_retV, wpS_throw, wpS_seq, wpS_if, wpS_trunc, yS_let, yS_inc, kgK_i, kgK_r, kok_nil, kok_i0, kok_is, kok_r0, kok_rs, kok_n0, kok_ns, xS_put, xS_putOp, xS_ast0, xS_ast1, xS_astOp, wpS_E, wpS_call, wpS_callS, wpS_ret, kThen_N, kThen_B, kThen_C, kThen_R, kThen_T, kNext_N, kNext_C, kNext_B, kNext_R, wpE_K, wpE_KL, xE_I, xE_R, wpE_J, xE_bin, wpE_ladd, wpE_i2l, xE_get, xE_ald0, xE_ald1, wpE_if, xE_max, xE_min, wpE_len, wpA_nil, wpA_snoc, xE_call, xE_callS, xC_C, xC_L, xC_Z, wpC_and, wpC_or, wpC_not, wpC_if, kcmp_0, kcmp_1, kcmp_2, kcmp_3, kcmp_4, kcmp_5, rR_inj, kgO_some, kgO_add, kgO_sub, kgO_mul, kgO_div, kgO_rem, kgO_and, kvI_inl, kvJ_inl, kgI_0, kgI_s, kgR_0, kgR_s, kst_nil, kst_0, kst_s, kNLl_nil, kNLl_i, kNLl_r, kNLl_n, ktag_i, ktag_r, List.length_cons, List.length_nil, List.take_succ_cons, List.take_zero, List.take_nil, List.nil_append, List.cons_append, decide_eq_true_eq, Bool.not_eq_true, Bool.not_eq_true', decide_eq_false_iff_not, ne_eq, Decidable.not_not, true_and, and_true, Nat.reduceAdd, Nat.reduceLeDiff, Nat.reduceEqDiff, Nat.le_refl, not_true_eq_false, not_false_eq_true, reduceIte, eq_self, Int.reduceNeg, Int.reduceEq, Int.reduceLT, Int.reduceLE, Nat.zero_le, Nat.one_ne_zero]
    refine ⟨rfl, ?_⟩
    refine (kpAddNode_ok (w := w) hg C1 (by omega) (by omega)).mono ?_
    rintro r s2 ⟨rfl, k2, e2, hg2, rt', dp', pa', up', C2⟩
    rw [kgO_some]
    refine ⟨rfl, ?_⟩
    rw [hQ1]
    intro y
    have hmd : ∀ o k, isMd o → o ≠ 110 → kup s2 110 0 y o k = σ o k := fun o k h1 h2 => by rw [kup_ne h2, k2 o k (Or.inl h1), k1 o k (by unfold isMd at h1; omega) (by unfold isMd at h1; omega) (by unfold isMd at h1; omega)]
    have hR2 : RR (kup s2 110 0 y) n c ar st rl li fs sn lv od rg tr lo wt sp tk sf ss mv sx := hR.agree (fun o k ho => hmd o k (by unfold isMd; omega) (by omega))
    refine (mdNode_ok hG.1 hR2.1 hR2.2.1).mono ?_
    rintro r' s' (⟨h, -⟩ | ⟨-, rfl, k3, e17, e22, w3, M3, R3⟩)
    · omega
    · have f : ∀ o k, ¬ isMd o → s' o k = s2 o k := fun o k h => by unfold isMd at h; rw [k3 o k (by omega) (by omega) (by omega) (by omega), kup_ne (by omega)]
      have fm : ∀ o k, isMd o → o ≠ 110 → o ≠ 70 → o ≠ 78 → o ≠ 79 → (o ≠ 14 ∨ (k ≠ 1 ∧ k ≠ 17 ∧ k ≠ 22)) → s' o k = σ o k := fun o k h0 h1 h2 h3 h4 h5 => by rw [k3 o k h2 h3 h4 h5, hmd o k h0 h1]
      refine ⟨⟨n + 1, c, ar, 0, rl, li, fs, sn, lv, nodOd n od, rt', dp', rg, tr, lo, fun v => if v = n then w else wt v, sp, tk, pa', up', sf, ss, mv, sx, fun v => v = n ∨ S v, hg2, C2.agree (fun o k ho => f o k (by unfold isMd; omega)), P1.agree (fun o k ho => by rw [f o k (by unfold isMd; omega), k2 o k (by omega)]), plOk_nil, ⟨M3, R3, fun v => by rw [w3, hmd _ _ (by unfold isMd; omega) (by omega), hR.2.2.1], ⟨by rw [fm _ _ (by unfold isMd; omega) (by decide) (by decide) (by decide) (by decide) (by decide)]; exact hR.2.2.2.1.1, fun k hk => by rw [fm _ _ (by unfold isMd; omega) (by decide) (by decide) (by decide) (by decide) (Or.inl (by decide))]; exact hR.2.2.2.1.2 k hk⟩, by rw [fm _ _ (by unfold isMd; omega) (by decide) (by decide) (by decide) (by decide) (by decide)]; exact hR.2.2.2.2.1, ⟨e17, fun k hk => absurd hk (by omega)⟩, by rw [fm _ _ (by unfold isMd; omega) (by decide) (by decide) (by decide) (by decide) (by decide)]; exact hR.2.2.2.2.2.2⟩, hrl, by rw [f _ _ (by unfold isMd; omega), e2, e15]; omega⟩, ?_, Or.inl ⟨_, rfl, rfl, e22⟩⟩
      rw [k3 _ _ (by decide) (by decide) (by decide) (by decide), kup_eq, if_pos rfl]
end AX
