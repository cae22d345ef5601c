/-! take -/
section AZ
variable {σ : kS} {n c ar st rl : Nat} {li fs sn lv od rt dp rg : Nat → Nat} {tr lo wt sp tk pa up : Nat → Int} {sf ss : Nat → Nat} {mv sx : Int} {S : Nat → Prop}
theorem jTake {x A : Int} (hA2 : A < 2147483647) (h : JV σ A) : wpS s_KP_take [some (.inr (.inl 0)), some (.inl x)] σ (fun r _ s => refC F_Md_take [.inr (.inl 14), .inl x] (A + 1) (fun _ => 1) r s) := by
  obtain ⟨n, c, ar, st, rl, li, fs, sn, lv, od, rt, dp, rg, tr, lo, wt, sp, tk, pa, up, sf, ss, mv, sx, S, hg, hC, hP, hO, hR, hrl, hA⟩ := h
  obtain ⟨hG, hHd, hLb, ht01, hI, hSet⟩ := id hg
  have ha5 := hG.2.2.1
  have hn3 := hG.1
  unfold s_KP_take
  refine wpS_seq' (fun Q0 hQ0 => ?_)
  rw [wpS_if]
  refine (chkA hC.2.2.1 ha5).mono ?_
  rintro t s ⟨hs, ht⟩
  subst s
  by_cases q : ¬ (0 ≤ x ∧ x < (ar : Int) ∧ th c li x.toNat)
  · rw [if_pos (ht.mpr q)]
    simp only [wpS_skip, wpS_break, wpS_cont, wpS_retV, wpS_throw, wpS_seq, wpS_if, wpS_trunc, yS_let, yS_inc, kgK_i, kgK_r, kok_nil, kok_i0, kok_is, kok_r0, kok_rs, kok_n0, kok_ns, xS_put, xS_putOp, xS_ast0, xS_ast1, xS_astOp, wpS_E, wpS_call, wpS_callS, wpS_ret, kThen_N, kThen_B, kThen_C, kThen_R, kThen_T, kNext_N, kNext_C, kNext_B, kNext_R, wpE_K, wpE_KL, xE_I, xE_R, wpE_J, xE_bin, wpE_ladd, wpE_i2l, xE_get, xE_ald0, xE_ald1, wpE_if, xE_max, xE_min, wpE_len, wpA_nil, wpA_snoc, xE_call, xE_callS, xC_C, xC_L, xC_Z, wpC_and, wpC_or, wpC_not, wpC_if, kcmp_0, kcmp_1, kcmp_2, kcmp_3, kcmp_4, kcmp_5, rR_inj, kgO_some, kgO_add, kgO_sub, kgO_mul, kgO_div, kgO_rem, kgO_and, kvI_inl, kvJ_inl, kgI_0, kgI_s, kgR_0, kgR_s, kst_nil, kst_0, kst_s, kNLl_nil, kNLl_i, kNLl_r, kNLl_n, ktag_i, ktag_r, List.length_cons, List.length_nil, List.take_succ_cons, List.take_zero, List.take_nil, List.nil_append, List.cons_append, decide_eq_true_eq, Bool.not_eq_true, Bool.not_eq_true', decide_eq_false_iff_not, ne_eq, Decidable.not_not, true_and, and_true, Nat.reduceAdd, Nat.reduceLeDiff, Nat.reduceEqDiff, Nat.le_refl, not_true_eq_false, not_false_eq_true, reduceIte, eq_self, Int.reduceNeg, Int.reduceEq, Int.reduceLT, Int.reduceLE, Nat.zero_le, Nat.one_ne_zero]
    rw [hQ0]
    refine kThen_T.mpr ?_
    refine refC_ask hg hC hP hO hR hrl (by omega) (fun s2 hR2 => ?_)
    refine (mdTakeBad_ok hG hR2.1 q).mono ?_
    rintro r' s' ⟨hk, -⟩
    exact ⟨1, hk, Or.inr ⟨11, rfl, rfl, by decide⟩⟩
  rw [if_neg (fun h => q (ht.mp h))]
  simp only [wpS_skip, wpS_break, wpS_cont, wpS_retV, wpS_throw, wpS_seq, wpS_if, wpS_trunc, yS_let, yS_inc, kgK_i, kgK_r, kok_nil, kok_i0, kok_is, kok_r0, kok_rs, kok_n0, kok_ns, xS_put, xS_putOp, xS_ast0, xS_ast1, xS_astOp, wpS_E, wpS_call, wpS_callS, wpS_ret, kThen_N, kThen_B, kThen_C, kThen_R, kThen_T, kNext_N, kNext_C, kNext_B, kNext_R, wpE_K, wpE_KL, xE_I, xE_R, wpE_J, xE_bin, wpE_ladd, wpE_i2l, xE_get, xE_ald0, xE_ald1, wpE_if, xE_max, xE_min, wpE_len, wpA_nil, wpA_snoc, xE_call, xE_callS, xC_C, xC_L, xC_Z, wpC_and, wpC_or, wpC_not, wpC_if, kcmp_0, kcmp_1, kcmp_2, kcmp_3, kcmp_4, kcmp_5, rR_inj, kgO_some, kgO_add, kgO_sub, kgO_mul, kgO_div, kgO_rem, kgO_and, kvI_inl, kvJ_inl, kgI_0, kgI_s, kgR_0, kgR_s, kst_nil, kst_0, kst_s, kNLl_nil, kNLl_i, kNLl_r, kNLl_n, ktag_i, ktag_r, List.length_cons, List.length_nil, List.take_succ_cons, List.take_zero, List.take_nil, List.nil_append, List.cons_append, decide_eq_true_eq, Bool.not_eq_true, Bool.not_eq_true', decide_eq_false_iff_not, ne_eq, Decidable.not_not, true_and, and_true, Nat.reduceAdd, Nat.reduceLeDiff, Nat.reduceEqDiff, Nat.le_refl, not_true_eq_false, not_false_eq_true, reduceIte, eq_self, Int.reduceNeg, Int.reduceEq, Int.reduceLT, Int.reduceLE, Nat.zero_le, Nat.one_ne_zero]
  rw [hQ0]
  clear hQ0 Q0
  refine kThen_N.mpr ?_
  obtain ⟨x1, x2, k0, hk0, hx0⟩ := Classical.not_not.mp q
  obtain ⟨x, rfl⟩ : ∃ v' : Nat, x = (v' : Int) := ⟨x.toNat, by omega⟩
  rw [Int.toNat_natCast] at hx0
  have hxt : th c li x := ⟨k0, hk0, hx0⟩
  obtain ⟨-, -, x3, x4⟩ := th_lt hG hxt
  have hG' := gOk_rem hG hk0
  have hth : ∀ y, th (c - 1) (remL k0 li) y ↔ th c li y ∧ y ≠ x := fun y => th_remL hG hk0 hx0
  have hI' : oInv n (c - 1) (remL k0 li) fs sn (lo, od) := ⟨hI.1, fun y hy => hI.2.1 y ⟨((hth y).mp hy.1).1, hy.2⟩, hI.2.2⟩
  have hHd' := rem_Hd hHd hxt hth
  have hLb' := Lb_rem hHd hxt hth x3 x4 hLb
  -- forgotten
  refine wpS_seq' (fun Q101 hQ101 => ?_)
  simp only [wpS_skip, wpS_break, wpS_cont, wpS_retV, wpS_throw, wpS_seq, wpS_if, wpS_trunc, yS_let, yS_inc, kgK_i, kgK_r, kok_nil, kok_i0, kok_is, kok_r0, kok_rs, kok_n0, kok_ns, xS_put, xS_putOp, xS_ast0, xS_ast1, xS_astOp, wpS_E, wpS_call, wpS_callS, wpS_ret, kThen_N, kThen_B, kThen_C, kThen_R, kThen_T, kNext_N, kNext_C, kNext_B, kNext_R, wpE_K, wpE_KL, xE_I, xE_R, wpE_J, xE_bin, wpE_ladd, wpE_i2l, xE_get, xE_ald0, xE_ald1, wpE_if, xE_max, xE_min, wpE_len, wpA_nil, wpA_snoc, xE_call, xE_callS, xC_C, xC_L, xC_Z, wpC_and, wpC_or, wpC_not, wpC_if, kcmp_0, kcmp_1, kcmp_2, kcmp_3, kcmp_4, kcmp_5, rR_inj, kgO_some, kgO_add, kgO_sub, kgO_mul, kgO_div, kgO_rem, kgO_and, kvI_inl, kvJ_inl, kgI_0, kgI_s, kgR_0, kgR_s, kst_nil, kst_0, kst_s, kNLl_nil, kNLl_i, kNLl_r, kNLl_n, ktag_i, ktag_r, List.length_cons, List.length_nil, List.take_succ_cons, List.take_zero, List.take_nil, List.nil_append, List.cons_append, decide_eq_true_eq, Bool.not_eq_true, Bool.not_eq_true', decide_eq_false_iff_not, ne_eq, Decidable.not_not, true_and, and_true, Nat.reduceAdd, Nat.reduceLeDiff, Nat.reduceEqDiff, Nat.le_refl, not_true_eq_false, not_false_eq_true, reduceIte, eq_self, Int.reduceNeg, Int.reduceEq, Int.reduceLT, Int.reduceLE, Nat.zero_le, Nat.one_ne_zero, ev_kp]
  refine ⟨rfl, ?_⟩
  refine (forget_ok hG hP hO).mono ?_
  rintro r s1 ⟨rfl, k1, P1⟩
  rw [kgO_some]
  refine ⟨by show ¬ ((0 : Nat) = 2); decide, ?_⟩
  rw [hQ101]
  clear hQ101
  refine kThen_N.mpr ?_
  have C1 := hC.agree (s := s1) (fun o k ho => k1 o k (by omega) (by omega) (by omega))
  have e1 : s1 1 5 = σ 1 5 := k1 _ _ (by decide) (by decide) (by decide)
  obtain ⟨c0, c12, cW, cT, cL, cR, cG, ⟨rk, cC⟩, cS, ⟨a0, a1, a2, a3⟩, cSd, cTw, cSt⟩ := id C1
  refine wpS_seq' (fun Q102 hQ102 => ?_)
  simp only [wpS_skip, wpS_break, wpS_cont, wpS_retV, wpS_throw, wpS_seq, wpS_if, wpS_trunc, yS_let, yS_inc, kgK_i, kgK_r, kok_nil, kok_i0, kok_is, kok_r0, kok_rs, kok_n0, kok_ns, xS_put, xS_putOp, xS_ast0, xS_ast1, xS_astOp, wpS_E, wpS_call, wpS_callS, wpS_ret, kThen_N, kThen_B, kThen_C, kThen_R, kThen_T, kNext_N, kNext_C, kNext_B, kNext_R, wpE_K, wpE_KL, xE_I, xE_R, wpE_J, xE_bin, wpE_ladd, wpE_i2l, xE_get, xE_ald0, xE_ald1, wpE_if, xE_max, xE_min, wpE_len, wpA_nil, wpA_snoc, xE_call, xE_callS, xC_C, xC_L, xC_Z, wpC_and, wpC_or, wpC_not, wpC_if, kcmp_0, kcmp_1, kcmp_2, kcmp_3, kcmp_4, kcmp_5, rR_inj, kgO_some, kgO_add, kgO_sub, kgO_mul, kgO_div, kgO_rem, kgO_and, kvI_inl, kvJ_inl, kgI_0, kgI_s, kgR_0, kgR_s, kst_nil, kst_0, kst_s, kNLl_nil, kNLl_i, kNLl_r, kNLl_n, ktag_i, ktag_r, List.length_cons, List.length_nil, List.take_succ_cons, List.take_zero, List.take_nil, List.nil_append, List.cons_append, decide_eq_true_eq, Bool.not_eq_true, Bool.not_eq_true', decide_eq_false_iff_not, ne_eq, Decidable.not_not, true_and, and_true, Nat.reduceAdd, Nat.reduceLeDiff, Nat.reduceEqDiff, Nat.le_refl, not_true_eq_false, not_false_eq_true, reduceIte, eq_self, Int.reduceNeg, Int.reduceEq, Int.reduceLT, Int.reduceLE, Nat.zero_le, Nat.one_ne_zero, ev_kp]
  refine ⟨rfl, ?_⟩
  have webR := webRemArc_ok cW hG hk0 ⟨a0, by omega⟩
  rw [hx0] at webR
  refine webR.mono ?_
  rintro r s2 ⟨rfl, k2, e2, W2⟩
  have W2 : Wb s2 n (c - 1) ar (remL k0 li) fs sn := W2
  refine ⟨rfl, ?_⟩
  rw [hQ102]
  clear hQ102
  refine kThen_N.mpr ?_
  refine wpS_seq' (fun Q103 hQ103 => ?_)
  simp only [wpS_skip, wpS_break, wpS_cont, wpS_retV, wpS_throw, wpS_seq, wpS_if, wpS_trunc, yS_let, yS_inc, kgK_i, kgK_r, kok_nil, kok_i0, kok_is, kok_r0, kok_rs, kok_n0, kok_ns, xS_put, xS_putOp, xS_ast0, xS_ast1, xS_astOp, wpS_E, wpS_call, wpS_callS, wpS_ret, kThen_N, kThen_B, kThen_C, kThen_R, kThen_T, kNext_N, kNext_C, kNext_B, kNext_R, wpE_K, wpE_KL, xE_I, xE_R, wpE_J, xE_bin, wpE_ladd, wpE_i2l, xE_get, xE_ald0, xE_ald1, wpE_if, xE_max, xE_min, wpE_len, wpA_nil, wpA_snoc, xE_call, xE_callS, xC_C, xC_L, xC_Z, wpC_and, wpC_or, wpC_not, wpC_if, kcmp_0, kcmp_1, kcmp_2, kcmp_3, kcmp_4, kcmp_5, rR_inj, kgO_some, kgO_add, kgO_sub, kgO_mul, kgO_div, kgO_rem, kgO_and, kvI_inl, kvJ_inl, kgI_0, kgI_s, kgR_0, kgR_s, kst_nil, kst_0, kst_s, kNLl_nil, kNLl_i, kNLl_r, kNLl_n, ktag_i, ktag_r, List.length_cons, List.length_nil, List.take_succ_cons, List.take_zero, List.take_nil, List.nil_append, List.cons_append, decide_eq_true_eq, Bool.not_eq_true, Bool.not_eq_true', decide_eq_false_iff_not, ne_eq, Decidable.not_not, true_and, and_true, Nat.reduceAdd, Nat.reduceLeDiff, Nat.reduceEqDiff, Nat.le_refl, not_true_eq_false, not_false_eq_true, reduceIte, eq_self, Int.reduceNeg, Int.reduceEq, Int.reduceLT, Int.reduceLE, Nat.zero_le, Nat.one_ne_zero, ev_kp]
  refine ⟨rfl, ?_⟩
  have Tb2 : Tb s2 lv tr := ⟨fun y => by rw [k2 _ _ (by unfold isWb; omega)]; exact cT.1.1 y, fun y => by rw [k2 _ _ (by unfold isWb; omega)]; exact cT.1.2 y⟩
  have Ht2 : Ht s2 n rt dp pa up := fun v hv => by
    rw [k2 _ _ (by unfold isWb; omega), k2 _ _ (by unfold isWb; omega), k2 _ _ (by unfold isWb; omega), k2 _ _ (by unfold isWb; omega)]
    exact cT.2.2.2.1 v hv
  refine (arcRemoved_ok (W := th c li) hG' W2 hth hxt (by omega) x3 x4 Tb2 ht01 hHd Ht2 cT.2.2.2.2 (fun y hy => by have := hLb.le hn3 hy; omega)).mono ?_
  rintro r s3 ⟨rfl, k3, rt', dp', pa', up', T3⟩
  refine ⟨rfl, ?_⟩
  rw [hQ103]
  clear hQ103
  refine kThen_N.mpr ?_
  refine wpS_seq' (fun Q104 hQ104 => ?_)
  simp only [wpS_skip, wpS_break, wpS_cont, wpS_retV, wpS_throw, wpS_seq, wpS_if, wpS_trunc, yS_let, yS_inc, kgK_i, kgK_r, kok_nil, kok_i0, kok_is, kok_r0, kok_rs, kok_n0, kok_ns, xS_put, xS_putOp, xS_ast0, xS_ast1, xS_astOp, wpS_E, wpS_call, wpS_callS, wpS_ret, kThen_N, kThen_B, kThen_C, kThen_R, kThen_T, kNext_N, kNext_C, kNext_B, kNext_R, wpE_K, wpE_KL, xE_I, xE_R, wpE_J, xE_bin, wpE_ladd, wpE_i2l, xE_get, xE_ald0, xE_ald1, wpE_if, xE_max, xE_min, wpE_len, wpA_nil, wpA_snoc, xE_call, xE_callS, xC_C, xC_L, xC_Z, wpC_and, wpC_or, wpC_not, wpC_if, kcmp_0, kcmp_1, kcmp_2, kcmp_3, kcmp_4, kcmp_5, rR_inj, kgO_some, kgO_add, kgO_sub, kgO_mul, kgO_div, kgO_rem, kgO_and, kvI_inl, kvJ_inl, kgI_0, kgI_s, kgR_0, kgR_s, kst_nil, kst_0, kst_s, kNLl_nil, kNLl_i, kNLl_r, kNLl_n, ktag_i, ktag_r, List.length_cons, List.length_nil, List.take_succ_cons, List.take_zero, List.take_nil, List.nil_append, List.cons_append, decide_eq_true_eq, Bool.not_eq_true, Bool.not_eq_true', decide_eq_false_iff_not, ne_eq, Decidable.not_not, true_and, and_true, Nat.reduceAdd, Nat.reduceLeDiff, Nat.reduceEqDiff, Nat.le_refl, not_true_eq_false, not_false_eq_true, reduceIte, eq_self, Int.reduceNeg, Int.reduceEq, Int.reduceLT, Int.reduceLE, Nat.zero_le, Nat.one_ne_zero, ev_kp]
  refine ⟨rfl, ?_⟩
  have W3 : Wb s3 n (c - 1) ar (remL k0 li) fs sn := W2.agree (fun o k ho => by unfold isWb at ho; rw [k3 o k (by unfold isTr; omega) (by omega) (by omega)])
  have R3 : Rw s3 n od := ⟨fun p hp => by rw [k3 _ _ (by unfold isTr; omega) (by decide) (by decide), k2 _ _ (by unfold isWb; omega)]; exact cR.1 p hp, fun p hp => by rw [k3 _ _ (by unfold isTr; omega) (by decide) (by decide), k2 _ _ (by unfold isWb; omega)]; exact cR.2.1 p hp, cR.2.2⟩
  have L3 : ∀ y, s3 33 y = lo y := fun y => by rw [k3 _ _ (by unfold isTr; omega) (by decide) (by decide), k2 _ _ (by unfold isWb; omega)]; exact cL y
  refine (rowArcRemoved_ok hG' W3 L3 R3 (by omega) hI').mono ?_
  rintro r s4 ⟨rfl, k4, L4, R4⟩
  refine ⟨rfl, ?_⟩
  rw [hQ104]
  clear hQ104
  refine kThen_N.mpr ?_
  have W4 : Wb s4 n (c - 1) ar (remL k0 li) fs sn := W3.agree (fun o k ho => by unfold isWb at ho; rw [k4 o k (by omega)])
  have f04 : ∀ o k, ¬ isWb o → ¬ isTr o → o ≠ 29 → o ≠ 30 → ¬ (33 ≤ o ∧ o ≤ 39) → s4 o k = s1 o k := fun o k h1 h2 h3 h4 h5 => by rw [k4 o k h5, k3 o k h2 h3 h4, k2 o k h1]
  have C4 : Chn s4 n wt rk := ⟨fun v => by rw [f04 _ _ (by unfold isWb; omega) (by unfold isTr; omega) (by decide) (by decide) (by decide)]; exact cC.1 v, fun i hi => by rw [f04 _ _ (by unfold isWb; omega) (by unfold isTr; omega) (by decide) (by decide) (by decide)]; exact cC.2.1 i hi, cC.2.2⟩
  have S4 : inC s4 n S := fun v hv => by rw [f04 _ _ (by unfold isWb; omega) (by unfold isTr; omega) (by decide) (by decide) (by decide)]; exact cS v hv
  have e15 := W4.2.2.2.1 x
  have e16 := W4.2.2.2.2.1 x
  refine wpS_seq' (fun Q105 hQ105 => ?_)
  simp only [wpS_skip, wpS_break, wpS_cont, wpS_retV, wpS_throw, wpS_seq, wpS_if, wpS_trunc, yS_let, yS_inc, kgK_i, kgK_r, kok_nil, kok_i0, kok_is, kok_r0, kok_rs, kok_n0, kok_ns, xS_put, xS_putOp, xS_ast0, xS_ast1, xS_astOp, wpS_E, wpS_call, wpS_callS, wpS_ret, kThen_N, kThen_B, kThen_C, kThen_R, kThen_T, kNext_N, kNext_C, kNext_B, kNext_R, wpE_K, wpE_KL, xE_I, xE_R, wpE_J, xE_bin, wpE_ladd, wpE_i2l, xE_get, xE_ald0, xE_ald1, wpE_if, xE_max, xE_min, wpE_len, wpA_nil, wpA_snoc, xE_call, xE_callS, xC_C, xC_L, xC_Z, wpC_and, wpC_or, wpC_not, wpC_if, kcmp_0, kcmp_1, kcmp_2, kcmp_3, kcmp_4, kcmp_5, rR_inj, kgO_some, kgO_add, kgO_sub, kgO_mul, kgO_div, kgO_rem, kgO_and, kvI_inl, kvJ_inl, kgI_0, kgI_s, kgR_0, kgR_s, kst_nil, kst_0, kst_s, kNLl_nil, kNLl_i, kNLl_r, kNLl_n, ktag_i, ktag_r, List.length_cons, List.length_nil, List.take_succ_cons, List.take_zero, List.take_nil, List.nil_append, List.cons_append, decide_eq_true_eq, Bool.not_eq_true, Bool.not_eq_true', decide_eq_false_iff_not, ne_eq, Decidable.not_not, true_and, and_true, Nat.reduceAdd, Nat.reduceLeDiff, Nat.reduceEqDiff, Nat.le_refl, not_true_eq_false, not_false_eq_true, reduceIte, eq_self, Int.reduceNeg, Int.reduceEq, Int.reduceLT, Int.reduceLE, Nat.zero_le, Nat.one_ne_zero, ev_kp, ev_web, ev_web_arr, Int.toNat_natCast, e15, e16]
  repeat refine And.intro (by omega) ?_
  refine ⟨rfl, ?_⟩
  refine (chArcChanged_ok (N0 := nbr (th c li) fs sn) hG' W4 C4 S4 x3 x4 hSet (fun u v hne => ?_)).mono ?_
  · unfold nbr
    refine and_congr Iff.rfl ⟨?_, ?_⟩
    · rintro ⟨y, hy, z⟩
      exact ⟨y, ((hth y).mp hy).1, z⟩
    · rintro ⟨y, hy, z⟩
      refine ⟨y, (hth y).mpr ⟨hy, fun e => ?_⟩, z⟩
      subst e
      rcases z with z | z
      · exact hne (Or.inl ⟨z.1.symm, z.2.symm⟩)
      · exact hne (Or.inr ⟨z.1.symm, z.2.symm⟩)
  rintro r s5 ⟨k5, S', S5, I5, rfl⟩
  rw [kgO_some]
  simp only [wpS_skip, wpS_break, wpS_cont, wpS_retV, wpS_throw, wpS_seq, wpS_if, wpS_trunc, yS_let, yS_inc, kgK_i, kgK_r, kok_nil, kok_i0, kok_is, kok_r0, kok_rs, kok_n0, kok_ns, xS_put, xS_putOp, xS_ast0, xS_ast1, xS_astOp, wpS_E, wpS_call, wpS_callS, wpS_ret, kThen_N, kThen_B, kThen_C, kThen_R, kThen_T, kNext_N, kNext_C, kNext_B, kNext_R, wpE_K, wpE_KL, xE_I, xE_R, wpE_J, xE_bin, wpE_ladd, wpE_i2l, xE_get, xE_ald0, xE_ald1, wpE_if, xE_max, xE_min, wpE_len, wpA_nil, wpA_snoc, xE_call, xE_callS, xC_C, xC_L, xC_Z, wpC_and, wpC_or, wpC_not, wpC_if, kcmp_0, kcmp_1, kcmp_2, kcmp_3, kcmp_4, kcmp_5, rR_inj, kgO_some, kgO_add, kgO_sub, kgO_mul, kgO_div, kgO_rem, kgO_and, kvI_inl, kvJ_inl, kgI_0, kgI_s, kgR_0, kgR_s, kst_nil, kst_0, kst_s, kNLl_nil, kNLl_i, kNLl_r, kNLl_n, ktag_i, ktag_r, List.length_cons, List.length_nil, List.take_succ_cons, List.take_zero, List.take_nil, List.nil_append, List.cons_append, decide_eq_true_eq, Bool.not_eq_true, Bool.not_eq_true', decide_eq_false_iff_not, ne_eq, Decidable.not_not, true_and, and_true, Nat.reduceAdd, Nat.reduceLeDiff, Nat.reduceEqDiff, Nat.le_refl, not_true_eq_false, not_false_eq_true, reduceIte, eq_self, Int.reduceNeg, Int.reduceEq, Int.reduceLT, Int.reduceLE, Nat.zero_le, Nat.one_ne_zero, ev_kp]
  rw [hQ105]
  clear hQ105
  refine kThen_N.mpr ?_
  obtain ⟨s6, hs6⟩ : ∃ s6, s6 = kup s5 0 12 (cntP (fun v => ¬ (S v ↔ S' v)) n : Int) := ⟨_, rfl⟩
  rw [← hs6]
  have f6 : ∀ o k, (o ≠ 0 ∨ k ≠ 12) → s6 o k = s5 o k := fun o k h => by rw [hs6, kup_other h]
  have f16 : ∀ o k, ¬ isWb o → ¬ isTr o → o ≠ 29 → o ≠ 30 → ¬ (33 ≤ o ∧ o ≤ 39) → o ≠ 53 → (o ≠ 0 ∨ k ≠ 12) → s6 o k = s1 o k := fun o k h1 h2 h3 h4 h5 h6 h7 => by rw [f6 o k h7, k5 o k h6, f04 o k h1 h2 h3 h4 h5]
  have hag6 : s6 1 5 = σ 1 5 + 1 := by rw [f6 _ _ (by decide), k5 _ _ (by decide), k4 _ _ (by decide), k3 _ _ (by unfold isTr; omega) (by decide) (by decide), e2, e1]
  have W6 : Wb s6 n (c - 1) ar (remL k0 li) fs sn := W4.agree (fun o k ho => by unfold isWb at ho; rw [f6 o k (by omega), k5 o k (by omega)])
  have T6 := T3.agree (s' := s6) (fun o k ho => by unfold isTr at ho; rw [f6 o k (by omega), k5 o k (by omega), k4 o k (by omega)])
  have hF6 := T6.2.2.2.2
  have hH6 : ∀ y, th (c - 1) (remL k0 li) y → rt' (fs y) = rt' (sn y) := fun y hy => T6.arc_rt hy
  have g63 : s6 6 3 = s1 6 3 := f16 _ _ (by unfold isWb; omega) (by unfold isTr; omega) (by decide) (by decide) (by decide) (by decide) (by decide)
  have g86 : s6 8 6 = s1 8 6 := f16 _ _ (by unfold isWb; omega) (by unfold isTr; omega) (by decide) (by decide) (by decide) (by decide) (by decide)
  have g98 : s6 9 8 = s1 9 8 := f16 _ _ (by unfold isWb; omega) (by unfold isTr; omega) (by decide) (by decide) (by decide) (by decide) (by decide)
  have hIn : oInv n (c - 1) (remL k0 li) fs sn (if lo x ≠ 0 then lo else (oRun n (c - 1) (remL k0 li) fs sn (lo, od) (c - 1)).1, if lo x ≠ 0 then od else (oRun n (c - 1) (remL k0 li) fs sn (lo, od) (c - 1)).2) := by
    by_cases z : lo x ≠ 0
    · rw [if_pos z, if_pos z]; exact hI'
    · rw [if_neg z, if_neg z]; exact oRun_inv hG' hI' _ (Nat.le_refl _)
  refine wpS_gen (fun Q1 hQ1 => ?_)
  simp only [wpS_skip, wpS_break, wpS_cont, wpS_retV, wpS_throw, wpS_seq, wpS_if, wpS_trunc, yS_let, yS_inc, kgK_i, kgK_r, kok_nil, kok_i0, kok_is, kok_r0, kok_rs, kok_n0, kok_ns, xS_put, xS_putOp, xS_ast0, xS_ast1, xS_astOp, wpS_E, wpS_call, wpS_callS, wpS_ret, kThen_N, kThen_B, kThen_C, kThen_R, kThen_T, kNext_N, kNext_C, kNext_B, kNext_R, wpE_K, wpE_KL, xE_I, xE_R, wpE_J, xE_bin, wpE_ladd, wpE_i2l, xE_get, xE_ald0, xE_ald1, wpE_if, xE_max, xE_min, wpE_len, wpA_nil, wpA_snoc, xE_call, xE_callS, xC_C, xC_L, xC_Z, wpC_and, wpC_or, wpC_not, wpC_if, kcmp_0, kcmp_1, kcmp_2, kcmp_3, kcmp_4, kcmp_5, rR_inj, kgO_some, kgO_add, kgO_sub, kgO_mul, kgO_div, kgO_rem, kgO_and, kvI_inl, kvJ_inl, kgI_0, kgI_s, kgR_0, kgR_s, kst_nil, kst_0, kst_s, kNLl_nil, kNLl_i, kNLl_r, kNLl_n, ktag_i, ktag_r, List.length_cons, List.length_nil, List.take_succ_cons, List.take_zero, List.take_nil, List.nil_append, List.cons_append, decide_eq_true_eq, Bool.not_eq_true, Bool.not_eq_true', decide_eq_false_iff_not, ne_eq, Decidable.not_not, true_and, and_true, Nat.reduceAdd, Nat.reduceLeDiff, Nat.reduceEqDiff, Nat.le_refl, not_true_eq_false, not_false_eq_true, reduceIte, eq_self, Int.reduceNeg, Int.reduceEq, Int.reduceLT, Int.reduceLE, Nat.zero_le, Nat.one_ne_zero, ev_kp]
  refine ⟨rfl, ?_⟩
  refine (treesParts_ok W6 hG' T6).mono ?_
  rintro r s7 ⟨hs7, rfl⟩
  subst s7
  rw [kgO_some]
  refine ⟨rfl, ?_⟩
  rw [hQ1]
  intro y
  have hmd : ∀ o k, isMd o → o ≠ 110 → kup s6 110 0 y o k = σ o k := fun o k h1 h2 => by
    unfold isMd at h1
    rw [kup_ne h2, f16 o k (by unfold isWb; omega) (by unfold isTr; omega) (by omega) (by omega) (by omega) (by omega) (by omega), k1 o k (by omega) (by omega) (by omega)]
  obtain ⟨r1, r2, r3, r4, r5, r6, r7⟩ : RR (kup s6 110 0 y) n c ar st rl li fs sn lv od rg tr lo wt sp tk sf ss mv sx := hR.agree (fun o k ho => hmd o k (by unfold isMd; omega) (by omega))
  refine (mdTake_ok hG r1 r2 hI r3 hHd hLb hk0 hx0 hF6 hH6).mono ?_
  rintro r' s' ⟨rfl, k8, e17, e22, M8, R8, B, B', hB, hB', e168⟩
  have f : ∀ o k, ¬ isMd o → s' o k = s6 o k := fun o k h => by
    unfold isMd at h
    rw [k8 o k (by unfold mSc; omega) (by omega) (by omega), kup_ne (by omega)]
  have fm : ∀ o k, ¬ mSc o k → ¬ (71 ≤ o ∧ o ≤ 79) → (o ≠ 14 ∨ (k ≠ 10 ∧ k ≠ 16 ∧ k ≠ 17 ∧ k ≠ 22)) → s' o k = kup s6 110 0 y o k := k8
  have C6 : CR s6 n (c - 1) ar rl (remL k0 li) fs sn (rem n (c - 1) (remL k0 li) fs sn lv tr x).1 (if lo x ≠ 0 then od else (oRun n (c - 1) (remL k0 li) fs sn (lo, od) (c - 1)).2) rt' dp' rg (rem n (c - 1) (remL k0 li) fs sn lv tr x).2 (if lo x ≠ 0 then lo else (oRun n (c - 1) (remL k0 li) fs sn (lo, od) (c - 1)).1) wt pa' up' (cntP (fun v => ¬ (S v ↔ S' v)) n : Int) sx S' := by
    refine ⟨?_, by rw [hs6, kup_eq, if_pos rfl], W6, T6, fun z => ?_, ⟨fun p hp => ?_, fun p hp => ?_, R4.2.2⟩, ⟨?_, fun k hk => ?_⟩, ⟨rk, fun v => ?_, fun i hi => ?_, C4.2.2⟩, fun v hv => ?_, ⟨by omega, by omega, by omega, by omega⟩, ⟨by omega, fun h => ?_⟩, ⟨by omega, fun h => ?_⟩, ⟨by omega, fun h => ?_⟩⟩
    · rw [f16 _ _ (by unfold isWb; omega) (by unfold isTr; omega) (by decide) (by decide) (by decide) (by decide) (by decide)]; exact c0
    · rw [f6 _ _ (Or.inl (by decide)), k5 _ _ (by decide)]; exact L4 z
    · rw [f6 _ _ (Or.inl (by decide)), k5 _ _ (by decide)]; exact R4.1 p hp
    · rw [f6 _ _ (Or.inl (by decide)), k5 _ _ (by decide)]; exact R4.2.1 p hp
    · rw [f16 _ _ (by unfold isWb; omega) (by unfold isTr; omega) (by decide) (by decide) (by decide) (by decide) (by decide)]; exact cG.1
    · rw [f16 _ _ (by unfold isWb; omega) (by unfold isTr; omega) (by decide) (by decide) (by decide) (by decide) (Or.inl (by decide))]; exact cG.2 k hk
    · rw [f6 _ _ (Or.inl (by decide)), k5 _ _ (by decide)]; exact C4.1 v
    · rw [f6 _ _ (Or.inl (by decide)), k5 _ _ (by decide)]; exact C4.2.1 i hi
    · rw [f6 _ _ (Or.inl (by decide))]; exact S5 v hv
    · omega
    · omega
    · omega
  refine ⟨⟨n, c - 1, ar, 0, rl, _, fs, sn, _, _, rt', dp', rg, _, _, wt, sp, tk, pa', up', sf, ss, _, sx, S', ⟨hG', hHd', hLb', T6.2.1, hIn, I5⟩, C6.agree (fun o k ho => f o k (by unfold isMd; omega)), P1.agree (fun o k ho => by rw [f o k (by unfold isMd; omega), f16 o k (by unfold isWb; omega) (by unfold isTr; omega) (by omega) (by omega) (by omega) (by omega) (by omega)]), plOk_nil, ⟨M8, R8, fun v => by rw [fm _ _ (by unfold mSc; omega) (by decide) (Or.inl (by decide))]; exact r3 v, ⟨by rw [fm _ _ (by unfold mSc; omega) (by decide) (by decide)]; exact r4.1, fun k hk => by rw [fm _ _ (by unfold mSc; omega) (by decide) (Or.inl (by decide))]; exact r4.2 k hk⟩, ?_, ⟨e17, fun k hk => absurd hk (by omega)⟩, by rw [fm _ _ (by unfold mSc; omega) (by decide) (by decide)]; exact r7⟩, hrl, by rw [f _ _ (by unfold isMd; omega), hag6]; omega⟩, ?_, Or.inl ⟨_, rfl, rfl, e22⟩⟩
  · rw [e168, cnt_sets hSet hB I5 hB']
  · rw [k8 _ _ (by unfold mSc; omega) (by decide) (by decide), kup_eq, if_pos rfl]
end AZ
