/-! THE QUESTIONS, WITH WHAT THE CLASS KEEPS FOR THEM -/
section AT
variable {σ : kS} {n c ar st rl : Nat} {li fs sn lv od rt dp rg : Nat → Nat} {tr lo wt sp tk pa up : Nat → Int} {sf ss : Nat → Nat} {mv sx : Int} {S : Nat → Prop}
def qF (σ s : kS) : Prop := ∀ o k, o ≠ 31 → o ≠ 32 → ¬ (41 ≤ o ∧ o ≤ 50) → (o ≠ 6 ∨ k ≠ 3) → (o ≠ 8 ∨ (k ≠ 5 ∧ k ≠ 6)) → (o ≠ 9 ∨ (k ≠ 7 ∧ k ≠ 8)) → o ≠ 11 → o ≠ 13 → ¬ (54 ≤ o ∧ o ≤ 57) → ¬ (64 ≤ o ∧ o ≤ 69) → s o k = σ o k
theorem refC_q {s : kS} {A : Int} {F : kFn} {vs : List kV} {thr : Nat → Int} {r : kR} (hg : GO n c ar li fs sn lv od tr lo wt S) (hC : CR σ n c ar rl li fs sn lv od rt dp rg tr lo wt pa up mv sx S) (hP : PlS σ st sp tk sf ss) (hO : plOk n c st li sp tk sf ss) (hR : RR σ n c ar st rl li fs sn lv od rg tr lo wt sp tk sf ss mv sx) (hrl : rl ≤ 300) (hA : σ 1 5 ≤ A)
    (hq : qF σ s) (g1 : Csd s n (nbr (th c li) fs sn)) (g2 : TwS s n c li fs sn dp tr pa) (g3 : StS s n c li fs sn)
    (h : ∀ s2, RR s2 n c ar st rl li fs sn lv od rg tr lo wt sp tk sf ss mv sx → wpF F vs s2 (fun r' s' => ∃ t : Int, sK (kup s2 14 22 t) s' ∧ ((∃ z, r = rR (some z) ∧ r' = some z ∧ t = 0) ∨ ∃ pc, r = rT pc ∧ t = thr pc ∧ 0 < thr pc))) : refC F vs A thr r s := by
  refine refC_ask hg (hC.cache (fun o k h1 h2 h3 h4 h5 h6 h7 => hq o k h2 h3 h4 h5 h6 h7 (by omega) (by omega) (by omega) (by omega)) g1 g2 g3) (hP.agree (fun o k ho => hq o k (by omega) (by omega) (by omega) (by omega) (by omega) (by omega) (by omega) (by omega) (by omega) (by omega))) hO (hR.agree (fun o k ho => hq o k (by omega) (by omega) (by omega) (by omega) (by omega) (by omega) (by omega) (by omega) (by omega) (by omega))) hrl ?_ h
  rw [hq 1 5 (by omega) (by omega) (by omega) (by omega) (by omega) (by omega) (by omega) (by omega) (by omega) (by omega)]
  exact hA
theorem jTwo {a b A : Int} (h : JV σ A) : wpS s_KP_two [some (.inr (.inl 0)), some (.inl a), some (.inl b)] σ (fun r _ s => refC F_Md_two [.inr (.inl 14), .inl a, .inl b] A (fun _ => 1) r s) := by
  obtain ⟨n, c, ar, st, rl, li, fs, sn, lv, od, rt, dp, rg, tr, lo, wt, sp, tk, pa, up, sf, ss, mv, sx, S, hg, hC, hP, hO, hR, hrl, hA⟩ := h
  have hG := hg.1
  have hT := hC.2.2.2.1
  have hH : ∀ x, th c li x → rt (fs x) = rt (sn x) := fun x hx => hT.arc_rt hx
  obtain ⟨-, -, cW, -, -, -, -, -, -, -, cSd, cTw, cSt⟩ := id hC
  unfold s_KP_two
  refine wpS_seq' (fun Q0 hQ0 => ?_)
  rw [wpS_if]
  refine (chk2 hC.n3).mono ?_
  rintro t s ⟨hs, ht⟩
  subst s
  by_cases q : (0 ≤ a ∧ a < (n : Int)) ∧ 0 ≤ b ∧ b < (n : Int)
  · rw [if_neg (fun h => ht.mp h q)]
    simp only [wpS_skip, wpS_break, wpS_cont, wpS_retV, wpS_throw, wpS_seq, wpS_if, wpS_trunc, yS_let, yS_inc, kgK_i, kgK_r, kok_nil, kok_i0, kok_is, kok_r0, kok_rs, kok_n0, kok_ns, xS_put, xS_putOp, xS_ast0, xS_ast1, xS_astOp, wpS_E, wpS_call, wpS_callS, wpS_ret, kThen_N, kThen_B, kThen_C, kThen_R, kThen_T, kNext_N, kNext_C, kNext_B, kNext_R, wpE_K, wpE_KL, xE_I, xE_R, wpE_J, xE_bin, wpE_ladd, wpE_i2l, xE_get, xE_ald0, xE_ald1, wpE_if, xE_max, xE_min, wpE_len, wpA_nil, wpA_snoc, xE_call, xE_callS, xC_C, xC_L, xC_Z, wpC_and, wpC_or, wpC_not, wpC_if, kcmp_0, kcmp_1, kcmp_2, kcmp_3, kcmp_4, kcmp_5, rR_inj, kgO_some, kgO_add, kgO_sub, kgO_mul, kgO_div, kgO_rem, kgO_and, kvI_inl, kvJ_inl, kgI_0, kgI_s, kgR_0, kgR_s, kst_nil, kst_0, kst_s, kNLl_nil, kNLl_i, kNLl_r, kNLl_n, ktag_i, ktag_r, List.length_cons, List.length_nil, List.take_succ_cons, List.take_zero, List.take_nil, List.nil_append, List.cons_append, decide_eq_true_eq, Bool.not_eq_true, Bool.not_eq_true', decide_eq_false_iff_not, ne_eq, Decidable.not_not, true_and, and_true, Nat.reduceAdd, Nat.reduceLeDiff, Nat.reduceEqDiff, Nat.le_refl, not_true_eq_false, not_false_eq_true, reduceIte, eq_self, Int.reduceNeg, Int.reduceEq, Int.reduceLT, Int.reduceLE, Nat.zero_le, Nat.one_ne_zero]
    rw [hQ0]
    refine kThen_N.mpr ?_
    obtain ⟨a, rfl⟩ : ∃ v' : Nat, a = (v' : Int) := ⟨a.toNat, by omega⟩
    obtain ⟨b, rfl⟩ : ∃ v' : Nat, b = (v' : Int) := ⟨b.toNat, by omega⟩
    have han : a < n := by omega
    have hbn : b < n := by omega
    refine wpS_gen (fun Q1 hQ1 => ?_)
    simp only [wpS_skip, wpS_break, wpS_cont, wpS_retV, wpS_throw, wpS_seq, wpS_if, wpS_trunc, yS_let, yS_inc, kgK_i, kgK_r, kok_nil, kok_i0, kok_is, kok_r0, kok_rs, kok_n0, kok_ns, xS_put, xS_putOp, xS_ast0, xS_ast1, xS_astOp, wpS_E, wpS_call, wpS_callS, wpS_ret, kThen_N, kThen_B, kThen_C, kThen_R, kThen_T, kNext_N, kNext_C, kNext_B, kNext_R, wpE_K, wpE_KL, xE_I, xE_R, wpE_J, xE_bin, wpE_ladd, wpE_i2l, xE_get, xE_ald0, xE_ald1, wpE_if, xE_max, xE_min, wpE_len, wpA_nil, wpA_snoc, xE_call, xE_callS, xC_C, xC_L, xC_Z, wpC_and, wpC_or, wpC_not, wpC_if, kcmp_0, kcmp_1, kcmp_2, kcmp_3, kcmp_4, kcmp_5, rR_inj, kgO_some, kgO_add, kgO_sub, kgO_mul, kgO_div, kgO_rem, kgO_and, kvI_inl, kvJ_inl, kgI_0, kgI_s, kgR_0, kgR_s, kst_nil, kst_0, kst_s, kNLl_nil, kNLl_i, kNLl_r, kNLl_n, ktag_i, ktag_r, List.length_cons, List.length_nil, List.take_succ_cons, List.take_zero, List.take_nil, List.nil_append, List.cons_append, decide_eq_true_eq, Bool.not_eq_true, Bool.not_eq_true', decide_eq_false_iff_not, ne_eq, Decidable.not_not, true_and, and_true, Nat.reduceAdd, Nat.reduceLeDiff, Nat.reduceEqDiff, Nat.le_refl, not_true_eq_false, not_false_eq_true, reduceIte, eq_self, Int.reduceNeg, Int.reduceEq, Int.reduceLT, Int.reduceLE, Nat.zero_le, Nat.one_ne_zero, ev_kp]
    refine ⟨rfl, ?_⟩
    refine (twTogether_ok hG cW hT hH cTw han hbn).mono ?_
    rintro r s ⟨k1, k2, T1, u, v, hu, hv, hr⟩
    have hi := twice_iff hG hT.2.2.2.2 hH han hbn hu hv
    have fin : ∀ z : Int, ((twice c li fs sn a b ∧ z = 1) ∨ (¬ twice c li fs sn a b ∧ z = 0)) → Q1 (rR (some (.inl z))) [some (.inr (.inl 0)), some (.inl (a : Int)), some (.inl (b : Int))] s := by
      intro z hz
      rw [hQ1]
      refine refC_q hg hC hP hO hR hrl hA (fun o k q1 q2 q3 q4 q5 q6 q7 q8 q9 q10 => ?_) (cSd.agree (fun o k ho => by rw [k1 o (by omega) (by omega)])) T1 (cSt.agree (fun o k ho => by rw [k1 o (by omega) (by omega)])) (fun s2 hR2 => ?_)
      · by_cases e : o = 6
        · subst e; exact k2 k (by omega)
        · rw [k1 o q2 e]
      · refine (mdTwo_ok hG hR2.1).mono ?_
        rintro r' s' ⟨-, hr2⟩
        obtain ⟨hk, hr2⟩ := hr2 (by omega)
        simp only [Int.toNat_natCast] at hr2
        refine ⟨0, hk, Or.inl ⟨_, rfl, ?_, rfl⟩⟩
        rcases hz with ⟨z1, z2⟩ | ⟨z1, z2⟩ <;> rcases hr2 with ⟨y1, y2⟩ | ⟨y1, y2⟩
        · rw [y2, z2]
        · exact absurd z1 y1
        · exact absurd y1 z1
        · rw [y2, z2]
    rcases hr with ⟨e, rfl⟩ | ⟨e, rfl⟩
    · rw [kgO_some]
      exact ⟨rfl, fin 1 (Or.inl ⟨hi.mp e, rfl⟩)⟩
    · rw [kgO_some]
      exact ⟨rfl, fin 0 (Or.inr ⟨fun h => e (hi.mpr h), rfl⟩)⟩
  · rw [if_pos (ht.mpr q)]
    simp only [wpS_skip, wpS_break, wpS_cont, wpS_retV, wpS_throw, wpS_seq, wpS_if, wpS_trunc, yS_let, yS_inc, kgK_i, kgK_r, kok_nil, kok_i0, kok_is, kok_r0, kok_rs, kok_n0, kok_ns, xS_put, xS_putOp, xS_ast0, xS_ast1, xS_astOp, wpS_E, wpS_call, wpS_callS, wpS_ret, kThen_N, kThen_B, kThen_C, kThen_R, kThen_T, kNext_N, kNext_C, kNext_B, kNext_R, wpE_K, wpE_KL, xE_I, xE_R, wpE_J, xE_bin, wpE_ladd, wpE_i2l, xE_get, xE_ald0, xE_ald1, wpE_if, xE_max, xE_min, wpE_len, wpA_nil, wpA_snoc, xE_call, xE_callS, xC_C, xC_L, xC_Z, wpC_and, wpC_or, wpC_not, wpC_if, kcmp_0, kcmp_1, kcmp_2, kcmp_3, kcmp_4, kcmp_5, rR_inj, kgO_some, kgO_add, kgO_sub, kgO_mul, kgO_div, kgO_rem, kgO_and, kvI_inl, kvJ_inl, kgI_0, kgI_s, kgR_0, kgR_s, kst_nil, kst_0, kst_s, kNLl_nil, kNLl_i, kNLl_r, kNLl_n, ktag_i, ktag_r, List.length_cons, List.length_nil, List.take_succ_cons, List.take_zero, List.take_nil, List.nil_append, List.cons_append, decide_eq_true_eq, Bool.not_eq_true, Bool.not_eq_true', decide_eq_false_iff_not, ne_eq, Decidable.not_not, true_and, and_true, Nat.reduceAdd, Nat.reduceLeDiff, Nat.reduceEqDiff, Nat.le_refl, not_true_eq_false, not_false_eq_true, reduceIte, eq_self, Int.reduceNeg, Int.reduceEq, Int.reduceLT, Int.reduceLE, Nat.zero_le, Nat.one_ne_zero]
    rw [hQ0]
    refine kThen_T.mpr ?_
    refine refC_ask hg hC hP hO hR hrl hA (fun s2 hR2 => ?_)
    refine (mdTwo_ok hG hR2.1).mono ?_
    rintro r' s' ⟨h1, -⟩
    exact ⟨1, (h1 (fun h => q ⟨⟨h.1, h.2.1⟩, h.2.2⟩)).1, Or.inr ⟨22, rfl, rfl, by decide⟩⟩
theorem jOrder {p A : Int} (h : JV σ A) : wpS s_KP_order [some (.inr (.inl 0)), some (.inl p)] σ (fun r _ s => refC F_Md_order [.inr (.inl 14), .inl p] A (fun _ => 1) r s) := by
  obtain ⟨n, c, ar, st, rl, li, fs, sn, lv, od, rt, dp, rg, tr, lo, wt, sp, tk, pa, up, sf, ss, mv, sx, S, hg, hC, hP, hO, hR, hrl, hA⟩ := h
  have hG := hg.1
  have h13 := hC.n3
  have cR := hC.2.2.2.2.2.1
  unfold s_KP_order
  refine wpS_seq' (fun Q0 hQ0 => ?_)
  have bad : ¬ (0 ≤ p ∧ p < (n : Int)) → Q0 (rT 15) [some (.inr (.inl 0)), some (.inl p)] σ := by
    intro q
    rw [hQ0]
    refine kThen_T.mpr ?_
    refine refC_ask hg hC hP hO hR hrl hA (fun s2 hR2 => ?_)
    refine (mdOrder_ok hG.1 hR2.1.1 hR2.2.1).mono ?_
    rintro r' s' (⟨-, rfl, -⟩ | ⟨h, -⟩)
    · exact ⟨1, sK.refl _, Or.inr ⟨15, rfl, rfl, by decide⟩⟩
    · exact absurd h q
  by_cases q1 : p < 0
  · simp only [wpS_skip, wpS_break, wpS_cont, wpS_retV, wpS_throw, wpS_seq, wpS_if, wpS_trunc, yS_let, yS_inc, kgK_i, kgK_r, kok_nil, kok_i0, kok_is, kok_r0, kok_rs, kok_n0, kok_ns, xS_put, xS_putOp, xS_ast0, xS_ast1, xS_astOp, wpS_E, wpS_call, wpS_callS, wpS_ret, kThen_N, kThen_B, kThen_C, kThen_R, kThen_T, kNext_N, kNext_C, kNext_B, kNext_R, wpE_K, wpE_KL, xE_I, xE_R, wpE_J, xE_bin, wpE_ladd, wpE_i2l, xE_get, xE_ald0, xE_ald1, wpE_if, xE_max, xE_min, wpE_len, wpA_nil, wpA_snoc, xE_call, xE_callS, xC_C, xC_L, xC_Z, wpC_and, wpC_or, wpC_not, wpC_if, kcmp_0, kcmp_1, kcmp_2, kcmp_3, kcmp_4, kcmp_5, rR_inj, kgO_some, kgO_add, kgO_sub, kgO_mul, kgO_div, kgO_rem, kgO_and, kvI_inl, kvJ_inl, kgI_0, kgI_s, kgR_0, kgR_s, kst_nil, kst_0, kst_s, kNLl_nil, kNLl_i, kNLl_r, kNLl_n, ktag_i, ktag_r, List.length_cons, List.length_nil, List.take_succ_cons, List.take_zero, List.take_nil, List.nil_append, List.cons_append, decide_eq_true_eq, Bool.not_eq_true, Bool.not_eq_true', decide_eq_false_iff_not, ne_eq, Decidable.not_not, true_and, and_true, Nat.reduceAdd, Nat.reduceLeDiff, Nat.reduceEqDiff, Nat.le_refl, not_true_eq_false, not_false_eq_true, reduceIte, eq_self, Int.reduceNeg, Int.reduceEq, Int.reduceLT, Int.reduceLE, Nat.zero_le, Nat.one_ne_zero, q1, decide_true, decide_false, Bool.false_eq_true, if_true, if_false, true_and, and_true, not_true_eq_false, not_false_eq_true]
    exact bad (by omega)
  · by_cases q2 : (n : Int) ≤ p
    · simp only [wpS_skip, wpS_break, wpS_cont, wpS_retV, wpS_throw, wpS_seq, wpS_if, wpS_trunc, yS_let, yS_inc, kgK_i, kgK_r, kok_nil, kok_i0, kok_is, kok_r0, kok_rs, kok_n0, kok_ns, xS_put, xS_putOp, xS_ast0, xS_ast1, xS_astOp, wpS_E, wpS_call, wpS_callS, wpS_ret, kThen_N, kThen_B, kThen_C, kThen_R, kThen_T, kNext_N, kNext_C, kNext_B, kNext_R, wpE_K, wpE_KL, xE_I, xE_R, wpE_J, xE_bin, wpE_ladd, wpE_i2l, xE_get, xE_ald0, xE_ald1, wpE_if, xE_max, xE_min, wpE_len, wpA_nil, wpA_snoc, xE_call, xE_callS, xC_C, xC_L, xC_Z, wpC_and, wpC_or, wpC_not, wpC_if, kcmp_0, kcmp_1, kcmp_2, kcmp_3, kcmp_4, kcmp_5, rR_inj, kgO_some, kgO_add, kgO_sub, kgO_mul, kgO_div, kgO_rem, kgO_and, kvI_inl, kvJ_inl, kgI_0, kgI_s, kgR_0, kgR_s, kst_nil, kst_0, kst_s, kNLl_nil, kNLl_i, kNLl_r, kNLl_n, ktag_i, ktag_r, List.length_cons, List.length_nil, List.take_succ_cons, List.take_zero, List.take_nil, List.nil_append, List.cons_append, decide_eq_true_eq, Bool.not_eq_true, Bool.not_eq_true', decide_eq_false_iff_not, ne_eq, Decidable.not_not, true_and, and_true, Nat.reduceAdd, Nat.reduceLeDiff, Nat.reduceEqDiff, Nat.le_refl, not_true_eq_false, not_false_eq_true, reduceIte, eq_self, Int.reduceNeg, Int.reduceEq, Int.reduceLT, Int.reduceLE, Nat.zero_le, Nat.one_ne_zero, ev_kp, ev_web, h13, q1, q2, decide_true, decide_false, Bool.false_eq_true, if_true, if_false, true_and, and_true, not_true_eq_false, not_false_eq_true]
      exact bad (by omega)
    · simp only [wpS_skip, wpS_break, wpS_cont, wpS_retV, wpS_throw, wpS_seq, wpS_if, wpS_trunc, yS_let, yS_inc, kgK_i, kgK_r, kok_nil, kok_i0, kok_is, kok_r0, kok_rs, kok_n0, kok_ns, xS_put, xS_putOp, xS_ast0, xS_ast1, xS_astOp, wpS_E, wpS_call, wpS_callS, wpS_ret, kThen_N, kThen_B, kThen_C, kThen_R, kThen_T, kNext_N, kNext_C, kNext_B, kNext_R, wpE_K, wpE_KL, xE_I, xE_R, wpE_J, xE_bin, wpE_ladd, wpE_i2l, xE_get, xE_ald0, xE_ald1, wpE_if, xE_max, xE_min, wpE_len, wpA_nil, wpA_snoc, xE_call, xE_callS, xC_C, xC_L, xC_Z, wpC_and, wpC_or, wpC_not, wpC_if, kcmp_0, kcmp_1, kcmp_2, kcmp_3, kcmp_4, kcmp_5, rR_inj, kgO_some, kgO_add, kgO_sub, kgO_mul, kgO_div, kgO_rem, kgO_and, kvI_inl, kvJ_inl, kgI_0, kgI_s, kgR_0, kgR_s, kst_nil, kst_0, kst_s, kNLl_nil, kNLl_i, kNLl_r, kNLl_n, ktag_i, ktag_r, List.length_cons, List.length_nil, List.take_succ_cons, List.take_zero, List.take_nil, List.nil_append, List.cons_append, decide_eq_true_eq, Bool.not_eq_true, Bool.not_eq_true', decide_eq_false_iff_not, ne_eq, Decidable.not_not, true_and, and_true, Nat.reduceAdd, Nat.reduceLeDiff, Nat.reduceEqDiff, Nat.le_refl, not_true_eq_false, not_false_eq_true, reduceIte, eq_self, Int.reduceNeg, Int.reduceEq, Int.reduceLT, Int.reduceLE, Nat.zero_le, Nat.one_ne_zero, ev_kp, ev_web, h13, q1, q2, decide_true, decide_false, Bool.false_eq_true, if_true, if_false, true_and, and_true, not_true_eq_false, not_false_eq_true]
      rw [hQ0]
      refine kThen_N.mpr ?_
      obtain ⟨p, rfl⟩ : ∃ v' : Nat, p = (v' : Int) := ⟨p.toNat, by omega⟩
      refine wpS_gen (fun Q1 hQ1 => ?_)
      simp only [wpS_skip, wpS_break, wpS_cont, wpS_retV, wpS_throw, wpS_seq, wpS_if, wpS_trunc, yS_let, yS_inc, kgK_i, kgK_r, kok_nil, kok_i0, kok_is, kok_r0, kok_rs, kok_n0, kok_ns, xS_put, xS_putOp, xS_ast0, xS_ast1, xS_astOp, wpS_E, wpS_call, wpS_callS, wpS_ret, kThen_N, kThen_B, kThen_C, kThen_R, kThen_T, kNext_N, kNext_C, kNext_B, kNext_R, wpE_K, wpE_KL, xE_I, xE_R, wpE_J, xE_bin, wpE_ladd, wpE_i2l, xE_get, xE_ald0, xE_ald1, wpE_if, xE_max, xE_min, wpE_len, wpA_nil, wpA_snoc, xE_call, xE_callS, xC_C, xC_L, xC_Z, wpC_and, wpC_or, wpC_not, wpC_if, kcmp_0, kcmp_1, kcmp_2, kcmp_3, kcmp_4, kcmp_5, rR_inj, kgO_some, kgO_add, kgO_sub, kgO_mul, kgO_div, kgO_rem, kgO_and, kvI_inl, kvJ_inl, kgI_0, kgI_s, kgR_0, kgR_s, kst_nil, kst_0, kst_s, kNLl_nil, kNLl_i, kNLl_r, kNLl_n, ktag_i, ktag_r, List.length_cons, List.length_nil, List.take_succ_cons, List.take_zero, List.take_nil, List.nil_append, List.cons_append, decide_eq_true_eq, Bool.not_eq_true, Bool.not_eq_true', decide_eq_false_iff_not, ne_eq, Decidable.not_not, true_and, and_true, Nat.reduceAdd, Nat.reduceLeDiff, Nat.reduceEqDiff, Nat.le_refl, not_true_eq_false, not_false_eq_true, reduceIte, eq_self, Int.reduceNeg, Int.reduceEq, Int.reduceLT, Int.reduceLE, Nat.zero_le, Nat.one_ne_zero, ev_kp]
      refine ⟨rfl, ?_⟩
      refine (rowNodeAt_ok hG.1 cR (show p < n by omega)).mono ?_
      rintro r s ⟨hs, rfl⟩
      subst s
      rw [kgO_some]
      refine ⟨rfl, ?_⟩
      rw [hQ1]
      refine refC_ask hg hC hP hO hR hrl hA (fun s2 hR2 => ?_)
      refine (mdOrder_ok hG.1 hR2.1.1 hR2.2.1).mono ?_
      rintro r' s' (⟨h, -⟩ | ⟨-, rfl, rfl⟩)
      · exact absurd (by omega) h
      · exact ⟨0, sK.refl _, Or.inl ⟨_, rfl, rfl, rfl⟩⟩
theorem jRing {k A : Int} (h : JV σ A) : wpS s_KP_ring [some (.inr (.inl 0)), some (.inl k)] σ (fun r _ s => refC F_Md_ring [.inr (.inl 14), .inl k] A (fun _ => 1) r s) := by
  obtain ⟨n, c, ar, st, rl, li, fs, sn, lv, od, rt, dp, rg, tr, lo, wt, sp, tk, pa, up, sf, ss, mv, sx, S, hg, hC, hP, hO, hR, hrl, hA⟩ := h
  have cG := hC.2.2.2.2.2.2.1
  unfold s_KP_ring
  refine wpS_seq' (fun Q0 hQ0 => ?_)
  by_cases q1 : k < 0
  · simp only [wpS_skip, wpS_break, wpS_cont, wpS_retV, wpS_throw, wpS_seq, wpS_if, wpS_trunc, yS_let, yS_inc, kgK_i, kgK_r, kok_nil, kok_i0, kok_is, kok_r0, kok_rs, kok_n0, kok_ns, xS_put, xS_putOp, xS_ast0, xS_ast1, xS_astOp, wpS_E, wpS_call, wpS_callS, wpS_ret, kThen_N, kThen_B, kThen_C, kThen_R, kThen_T, kNext_N, kNext_C, kNext_B, kNext_R, wpE_K, wpE_KL, xE_I, xE_R, wpE_J, xE_bin, wpE_ladd, wpE_i2l, xE_get, xE_ald0, xE_ald1, wpE_if, xE_max, xE_min, wpE_len, wpA_nil, wpA_snoc, xE_call, xE_callS, xC_C, xC_L, xC_Z, wpC_and, wpC_or, wpC_not, wpC_if, kcmp_0, kcmp_1, kcmp_2, kcmp_3, kcmp_4, kcmp_5, rR_inj, kgO_some, kgO_add, kgO_sub, kgO_mul, kgO_div, kgO_rem, kgO_and, kvI_inl, kvJ_inl, kgI_0, kgI_s, kgR_0, kgR_s, kst_nil, kst_0, kst_s, kNLl_nil, kNLl_i, kNLl_r, kNLl_n, ktag_i, ktag_r, List.length_cons, List.length_nil, List.take_succ_cons, List.take_zero, List.take_nil, List.nil_append, List.cons_append, decide_eq_true_eq, Bool.not_eq_true, Bool.not_eq_true', decide_eq_false_iff_not, ne_eq, Decidable.not_not, true_and, and_true, Nat.reduceAdd, Nat.reduceLeDiff, Nat.reduceEqDiff, Nat.le_refl, not_true_eq_false, not_false_eq_true, reduceIte, eq_self, Int.reduceNeg, Int.reduceEq, Int.reduceLT, Int.reduceLE, Nat.zero_le, Nat.one_ne_zero, q1, decide_true, decide_false, Bool.false_eq_true, if_true, if_false, true_and, and_true, not_true_eq_false, not_false_eq_true]
    rw [hQ0]
    refine kThen_T.mpr ?_
    refine refC_ask hg hC hP hO hR hrl hA (fun s2 hR2 => ?_)
    refine (mdRing_ok hrl hR2.2.2.2.1).mono ?_
    rintro r' s' (⟨-, rfl, -⟩ | ⟨h, -⟩)
    · exact ⟨1, sK.refl _, Or.inr ⟨4, rfl, rfl, by decide⟩⟩
    · omega
  · simp only [wpS_skip, wpS_break, wpS_cont, wpS_retV, wpS_throw, wpS_seq, wpS_if, wpS_trunc, yS_let, yS_inc, kgK_i, kgK_r, kok_nil, kok_i0, kok_is, kok_r0, kok_rs, kok_n0, kok_ns, xS_put, xS_putOp, xS_ast0, xS_ast1, xS_astOp, wpS_E, wpS_call, wpS_callS, wpS_ret, kThen_N, kThen_B, kThen_C, kThen_R, kThen_T, kNext_N, kNext_C, kNext_B, kNext_R, wpE_K, wpE_KL, xE_I, xE_R, wpE_J, xE_bin, wpE_ladd, wpE_i2l, xE_get, xE_ald0, xE_ald1, wpE_if, xE_max, xE_min, wpE_len, wpA_nil, wpA_snoc, xE_call, xE_callS, xC_C, xC_L, xC_Z, wpC_and, wpC_or, wpC_not, wpC_if, kcmp_0, kcmp_1, kcmp_2, kcmp_3, kcmp_4, kcmp_5, rR_inj, kgO_some, kgO_add, kgO_sub, kgO_mul, kgO_div, kgO_rem, kgO_and, kvI_inl, kvJ_inl, kgI_0, kgI_s, kgR_0, kgR_s, kst_nil, kst_0, kst_s, kNLl_nil, kNLl_i, kNLl_r, kNLl_n, ktag_i, ktag_r, List.length_cons, List.length_nil, List.take_succ_cons, List.take_zero, List.take_nil, List.nil_append, List.cons_append, decide_eq_true_eq, Bool.not_eq_true, Bool.not_eq_true', decide_eq_false_iff_not, ne_eq, Decidable.not_not, true_and, and_true, Nat.reduceAdd, Nat.reduceLeDiff, Nat.reduceEqDiff, Nat.le_refl, not_true_eq_false, not_false_eq_true, reduceIte, eq_self, Int.reduceNeg, Int.reduceEq, Int.reduceLT, Int.reduceLE, Nat.zero_le, Nat.one_ne_zero, q1, decide_true, decide_false, Bool.false_eq_true, if_true, if_false, true_and, and_true, not_true_eq_false, not_false_eq_true]
    rw [hQ0]
    refine kThen_N.mpr ?_
    refine wpS_gen (fun Q1 hQ1 => ?_)
    simp only [wpS_skip, wpS_break, wpS_cont, wpS_retV, wpS_throw, wpS_seq, wpS_if, wpS_trunc, yS_let, yS_inc, kgK_i, kgK_r, kok_nil, kok_i0, kok_is, kok_r0, kok_rs, kok_n0, kok_ns, xS_put, xS_putOp, xS_ast0, xS_ast1, xS_astOp, wpS_E, wpS_call, wpS_callS, wpS_ret, kThen_N, kThen_B, kThen_C, kThen_R, kThen_T, kNext_N, kNext_C, kNext_B, kNext_R, wpE_K, wpE_KL, xE_I, xE_R, wpE_J, xE_bin, wpE_ladd, wpE_i2l, xE_get, xE_ald0, xE_ald1, wpE_if, xE_max, xE_min, wpE_len, wpA_nil, wpA_snoc, xE_call, xE_callS, xC_C, xC_L, xC_Z, wpC_and, wpC_or, wpC_not, wpC_if, kcmp_0, kcmp_1, kcmp_2, kcmp_3, kcmp_4, kcmp_5, rR_inj, kgO_some, kgO_add, kgO_sub, kgO_mul, kgO_div, kgO_rem, kgO_and, kvI_inl, kvJ_inl, kgI_0, kgI_s, kgR_0, kgR_s, kst_nil, kst_0, kst_s, kNLl_nil, kNLl_i, kNLl_r, kNLl_n, ktag_i, ktag_r, List.length_cons, List.length_nil, List.take_succ_cons, List.take_zero, List.take_nil, List.nil_append, List.cons_append, decide_eq_true_eq, Bool.not_eq_true, Bool.not_eq_true', decide_eq_false_iff_not, ne_eq, Decidable.not_not, true_and, and_true, Nat.reduceAdd, Nat.reduceLeDiff, Nat.reduceEqDiff, Nat.le_refl, not_true_eq_false, not_false_eq_true, reduceIte, eq_self, Int.reduceNeg, Int.reduceEq, Int.reduceLT, Int.reduceLE, Nat.zero_le, Nat.one_ne_zero, ev_kp]
    refine ⟨rfl, ?_⟩
    refine (rowRingArc_ok hrl cG (by omega)).mono ?_
    rintro r s ⟨hs, rfl⟩
    subst s
    rw [kgO_some]
    refine ⟨rfl, ?_⟩
    rw [hQ1]
    refine refC_ask hg hC hP hO hR hrl hA (fun s2 hR2 => ?_)
    refine (mdRing_ok hrl hR2.2.2.2.1).mono ?_
    rintro r' s' (⟨h, -⟩ | ⟨-, rfl, rfl⟩)
    · omega
    · exact ⟨0, sK.refl _, Or.inl ⟨_, rfl, rfl, rfl⟩⟩
theorem jTriangles {A : Int} (h : JV σ A) : wpS s_KP_triangles [some (.inr (.inl 0))] σ (fun r _ s => refC F_Md_triangles [.inr (.inl 14)] A (fun _ => 1) r s) := by
  obtain ⟨n, c, ar, st, rl, li, fs, sn, lv, od, rt, dp, rg, tr, lo, wt, sp, tk, pa, up, sf, ss, mv, sx, S, hg, hC, hP, hO, hR, hrl, hA⟩ := h
  have hG := hg.1
  obtain ⟨-, -, cW, -, -, -, -, -, -, -, cSd, cTw, cSt⟩ := id hC
  unfold s_KP_triangles
  refine wpS_gen (fun Q1 hQ1 => ?_)
  simp only [wpS_skip, wpS_break, wpS_cont, wpS_retV, wpS_throw, wpS_seq, wpS_if, wpS_trunc, yS_let, yS_inc, kgK_i, kgK_r, kok_nil, kok_i0, kok_is, kok_r0, kok_rs, kok_n0, kok_ns, xS_put, xS_putOp, xS_ast0, xS_ast1, xS_astOp, wpS_E, wpS_call, wpS_callS, wpS_ret, kThen_N, kThen_B, kThen_C, kThen_R, kThen_T, kNext_N, kNext_C, kNext_B, kNext_R, wpE_K, wpE_KL, xE_I, xE_R, wpE_J, xE_bin, wpE_ladd, wpE_i2l, xE_get, xE_ald0, xE_ald1, wpE_if, xE_max, xE_min, wpE_len, wpA_nil, wpA_snoc, xE_call, xE_callS, xC_C, xC_L, xC_Z, wpC_and, wpC_or, wpC_not, wpC_if, kcmp_0, kcmp_1, kcmp_2, kcmp_3, kcmp_4, kcmp_5, rR_inj, kgO_some, kgO_add, kgO_sub, kgO_mul, kgO_div, kgO_rem, kgO_and, kvI_inl, kvJ_inl, kgI_0, kgI_s, kgR_0, kgR_s, kst_nil, kst_0, kst_s, kNLl_nil, kNLl_i, kNLl_r, kNLl_n, ktag_i, ktag_r, List.length_cons, List.length_nil, List.take_succ_cons, List.take_zero, List.take_nil, List.nil_append, List.cons_append, decide_eq_true_eq, Bool.not_eq_true, Bool.not_eq_true', decide_eq_false_iff_not, ne_eq, Decidable.not_not, true_and, and_true, Nat.reduceAdd, Nat.reduceLeDiff, Nat.reduceEqDiff, Nat.le_refl, not_true_eq_false, not_false_eq_true, reduceIte, eq_self, Int.reduceNeg, Int.reduceEq, Int.reduceLT, Int.reduceLE, Nat.zero_le, Nat.one_ne_zero, ev_kp]
  refine ⟨rfl, ?_⟩
  refine (sidesCounted_ok hG cW cSd).mono ?_
  rintro r s ⟨k1, S1, rfl⟩
  rw [kgO_some]
  refine ⟨rfl, ?_⟩
  rw [hQ1]
  refine refC_q hg hC hP hO hR hrl hA (fun o k q1 q2 q3 q4 q5 q6 q7 q8 q9 q10 => k1 o k (by omega) (by omega)) S1 (cTw.agree (fun o k ho => k1 o k (by omega) (by omega))) (cSt.agree (fun o k ho => k1 o k (by omega) (by omega))) (fun s2 hR2 => ?_)
  refine (mdTriangles_ok hG hR2.1).mono ?_
  rintro r' s' ⟨hk, rfl⟩
  exact ⟨0, hk, Or.inl ⟨_, rfl, rfl, rfl⟩⟩
theorem jSound {A : Int} (h : JV σ A) : wpS s_KP_sound [some (.inr (.inl 0))] σ (fun r _ s => refC F_Md_sound [.inr (.inl 14)] A (fun _ => 1) r s) := by
  obtain ⟨n, c, ar, st, rl, li, fs, sn, lv, od, rt, dp, rg, tr, lo, wt, sp, tk, pa, up, sf, ss, mv, sx, S, hg, hC, hP, hO, hR, hrl, hA⟩ := h
  obtain ⟨hG, hHd, hLb, ht01, hI, hSet⟩ := id hg
  have hT := hC.2.2.2.1
  have hH : ∀ x, th c li x → rt (fs x) = rt (sn x) := fun x hx => hT.arc_rt hx
  obtain ⟨-, -, cW, -, cL, cR, -, ⟨rk, cC⟩, cS, -, cSd, cTw, cSt⟩ := id hC
  unfold s_KP_sound
  refine wpS_gen (fun Q1 hQ1 => ?_)
  simp only [wpS_skip, wpS_break, wpS_cont, wpS_retV, wpS_throw, wpS_seq, wpS_if, wpS_trunc, yS_let, yS_inc, kgK_i, kgK_r, kok_nil, kok_i0, kok_is, kok_r0, kok_rs, kok_n0, kok_ns, xS_put, xS_putOp, xS_ast0, xS_ast1, xS_astOp, wpS_E, wpS_call, wpS_callS, wpS_ret, kThen_N, kThen_B, kThen_C, kThen_R, kThen_T, kNext_N, kNext_C, kNext_B, kNext_R, wpE_K, wpE_KL, xE_I, xE_R, wpE_J, xE_bin, wpE_ladd, wpE_i2l, xE_get, xE_ald0, xE_ald1, wpE_if, xE_max, xE_min, wpE_len, wpA_nil, wpA_snoc, xE_call, xE_callS, xC_C, xC_L, xC_Z, wpC_and, wpC_or, wpC_not, wpC_if, kcmp_0, kcmp_1, kcmp_2, kcmp_3, kcmp_4, kcmp_5, rR_inj, kgO_some, kgO_add, kgO_sub, kgO_mul, kgO_div, kgO_rem, kgO_and, kvI_inl, kvJ_inl, kgI_0, kgI_s, kgR_0, kgR_s, kst_nil, kst_0, kst_s, kNLl_nil, kNLl_i, kNLl_r, kNLl_n, ktag_i, ktag_r, List.length_cons, List.length_nil, List.take_succ_cons, List.take_zero, List.take_nil, List.nil_append, List.cons_append, decide_eq_true_eq, Bool.not_eq_true, Bool.not_eq_true', decide_eq_false_iff_not, ne_eq, Decidable.not_not, true_and, and_true, Nat.reduceAdd, Nat.reduceLeDiff, Nat.reduceEqDiff, Nat.le_refl, not_true_eq_false, not_false_eq_true, reduceIte, eq_self, Int.reduceNeg, Int.reduceEq, Int.reduceLT, Int.reduceLE, Nat.zero_le, Nat.one_ne_zero, ev_kp]
  refine ⟨rfl, ?_⟩
  refine (spanJust_ok hG cW hT.1 hHd).mono ?_
  rintro r s1 ⟨k1, rfl⟩
  rw [kgO_some]
  simp only [wpS_skip, wpS_break, wpS_cont, wpS_retV, wpS_throw, wpS_seq, wpS_if, wpS_trunc, yS_let, yS_inc, kgK_i, kgK_r, kok_nil, kok_i0, kok_is, kok_r0, kok_rs, kok_n0, kok_ns, xS_put, xS_putOp, xS_ast0, xS_ast1, xS_astOp, wpS_E, wpS_call, wpS_callS, wpS_ret, kThen_N, kThen_B, kThen_C, kThen_R, kThen_T, kNext_N, kNext_C, kNext_B, kNext_R, wpE_K, wpE_KL, xE_I, xE_R, wpE_J, xE_bin, wpE_ladd, wpE_i2l, xE_get, xE_ald0, xE_ald1, wpE_if, xE_max, xE_min, wpE_len, wpA_nil, wpA_snoc, xE_call, xE_callS, xC_C, xC_L, xC_Z, wpC_and, wpC_or, wpC_not, wpC_if, kcmp_0, kcmp_1, kcmp_2, kcmp_3, kcmp_4, kcmp_5, rR_inj, kgO_some, kgO_add, kgO_sub, kgO_mul, kgO_div, kgO_rem, kgO_and, kvI_inl, kvJ_inl, kgI_0, kgI_s, kgR_0, kgR_s, kst_nil, kst_0, kst_s, kNLl_nil, kNLl_i, kNLl_r, kNLl_n, ktag_i, ktag_r, List.length_cons, List.length_nil, List.take_succ_cons, List.take_zero, List.take_nil, List.nil_append, List.cons_append, decide_eq_true_eq, Bool.not_eq_true, Bool.not_eq_true', decide_eq_false_iff_not, ne_eq, Decidable.not_not, true_and, and_true, Nat.reduceAdd, Nat.reduceLeDiff, Nat.reduceEqDiff, Nat.le_refl, not_true_eq_false, not_false_eq_true, reduceIte, eq_self, Int.reduceNeg, Int.reduceEq, Int.reduceLT, Int.reduceLE, Nat.zero_le, Nat.one_ne_zero, ev_kp, decide_true, decide_false, Bool.false_eq_true, if_true, if_false, true_and, and_true, not_true_eq_false, not_false_eq_true]
  refine ⟨rfl, ?_⟩
  have kk : ∀ s, jnK σ s → Wb s n c ar li fs sn ∧ Tb s lv tr := fun s k => ⟨cW.agree (fun o j ho => k o j (by unfold isWb at ho; omega) (by unfold isWb at ho; omega) (by unfold isWb at ho; omega) (by unfold isWb at ho; omega) (by unfold isWb at ho; omega)), fun x => by rw [k _ _ (by decide) (by decide) (by decide) (by decide) (by decide)]; exact hT.1.1 x, fun x => by rw [k _ _ (by decide) (by decide) (by decide) (by decide) (by decide)]; exact hT.1.2 x⟩
  refine (levelsHold_ok hG (kk s1 k1).1 (kk s1 k1).2 hHd hLb).mono ?_
  rintro r s2 ⟨k2, rfl⟩
  have k12 := k1.trans k2
  rw [kgO_some]
  simp only [wpS_skip, wpS_break, wpS_cont, wpS_retV, wpS_throw, wpS_seq, wpS_if, wpS_trunc, yS_let, yS_inc, kgK_i, kgK_r, kok_nil, kok_i0, kok_is, kok_r0, kok_rs, kok_n0, kok_ns, xS_put, xS_putOp, xS_ast0, xS_ast1, xS_astOp, wpS_E, wpS_call, wpS_callS, wpS_ret, kThen_N, kThen_B, kThen_C, kThen_R, kThen_T, kNext_N, kNext_C, kNext_B, kNext_R, wpE_K, wpE_KL, xE_I, xE_R, wpE_J, xE_bin, wpE_ladd, wpE_i2l, xE_get, xE_ald0, xE_ald1, wpE_if, xE_max, xE_min, wpE_len, wpA_nil, wpA_snoc, xE_call, xE_callS, xC_C, xC_L, xC_Z, wpC_and, wpC_or, wpC_not, wpC_if, kcmp_0, kcmp_1, kcmp_2, kcmp_3, kcmp_4, kcmp_5, rR_inj, kgO_some, kgO_add, kgO_sub, kgO_mul, kgO_div, kgO_rem, kgO_and, kvI_inl, kvJ_inl, kgI_0, kgI_s, kgR_0, kgR_s, kst_nil, kst_0, kst_s, kNLl_nil, kNLl_i, kNLl_r, kNLl_n, ktag_i, ktag_r, List.length_cons, List.length_nil, List.take_succ_cons, List.take_zero, List.take_nil, List.nil_append, List.cons_append, decide_eq_true_eq, Bool.not_eq_true, Bool.not_eq_true', decide_eq_false_iff_not, ne_eq, Decidable.not_not, true_and, and_true, Nat.reduceAdd, Nat.reduceLeDiff, Nat.reduceEqDiff, Nat.le_refl, not_true_eq_false, not_false_eq_true, reduceIte, eq_self, Int.reduceNeg, Int.reduceEq, Int.reduceLT, Int.reduceLE, Nat.zero_le, Nat.one_ne_zero, ev_kp, decide_true, decide_false, Bool.false_eq_true, if_true, if_false, true_and, and_true, not_true_eq_false, not_false_eq_true]
  refine ⟨rfl, ?_⟩
  refine (rowHolds_ok (od := od) hG (kk s2 k12).1 (fun x => by rw [k12 _ _ (by decide) (by decide) (by decide) (by decide) (by decide)]; exact cL x) ⟨fun p hp => by rw [k12 _ _ (by decide) (by decide) (by decide) (by decide) (by decide)]; exact cR.1 p hp, fun p hp => by rw [k12 _ _ (by decide) (by decide) (by decide) (by decide) (by decide)]; exact cR.2.1 p hp, cR.2.2⟩ hI.2.1).mono ?_
  rintro r s3 ⟨hs3, rfl⟩
  subst s3
  rw [kgO_some]
  simp only [wpS_skip, wpS_break, wpS_cont, wpS_retV, wpS_throw, wpS_seq, wpS_if, wpS_trunc, yS_let, yS_inc, kgK_i, kgK_r, kok_nil, kok_i0, kok_is, kok_r0, kok_rs, kok_n0, kok_ns, xS_put, xS_putOp, xS_ast0, xS_ast1, xS_astOp, wpS_E, wpS_call, wpS_callS, wpS_ret, kThen_N, kThen_B, kThen_C, kThen_R, kThen_T, kNext_N, kNext_C, kNext_B, kNext_R, wpE_K, wpE_KL, xE_I, xE_R, wpE_J, xE_bin, wpE_ladd, wpE_i2l, xE_get, xE_ald0, xE_ald1, wpE_if, xE_max, xE_min, wpE_len, wpA_nil, wpA_snoc, xE_call, xE_callS, xC_C, xC_L, xC_Z, wpC_and, wpC_or, wpC_not, wpC_if, kcmp_0, kcmp_1, kcmp_2, kcmp_3, kcmp_4, kcmp_5, rR_inj, kgO_some, kgO_add, kgO_sub, kgO_mul, kgO_div, kgO_rem, kgO_and, kvI_inl, kvJ_inl, kgI_0, kgI_s, kgR_0, kgR_s, kst_nil, kst_0, kst_s, kNLl_nil, kNLl_i, kNLl_r, kNLl_n, ktag_i, ktag_r, List.length_cons, List.length_nil, List.take_succ_cons, List.take_zero, List.take_nil, List.nil_append, List.cons_append, decide_eq_true_eq, Bool.not_eq_true, Bool.not_eq_true', decide_eq_false_iff_not, ne_eq, Decidable.not_not, true_and, and_true, Nat.reduceAdd, Nat.reduceLeDiff, Nat.reduceEqDiff, Nat.le_refl, not_true_eq_false, not_false_eq_true, reduceIte, eq_self, Int.reduceNeg, Int.reduceEq, Int.reduceLT, Int.reduceLE, Nat.zero_le, Nat.one_ne_zero, ev_kp, decide_true, decide_false, Bool.false_eq_true, if_true, if_false, true_and, and_true, not_true_eq_false, not_false_eq_true]
  refine ⟨rfl, ?_⟩
  refine (sidesHolds_ok hG (kk s2 k12).1 (cSd.agree (fun o k ho => k12 o k (by omega) (by omega) (by omega) (by omega) (by omega)))).mono ?_
  rintro r s3 ⟨k3, S3, rfl⟩
  have k13 : ∀ o k, o ≠ 11 → ¬ (54 ≤ o ∧ o ≤ 57) → ¬ (45 ≤ o ∧ o ≤ 50) → ¬ (64 ≤ o ∧ o ≤ 69) → (o ≠ 9 ∨ (k ≠ 7 ∧ k ≠ 8)) → o ≠ 13 → s3 o k = σ o k := fun o k h1 h2 h3 h4 h5 h6 => by rw [k3 o k h3 h4 h5 (Or.inl h6), k12 o k h1 (by omega) (by omega) (by omega) (by omega)]
  rw [kgO_some]
  simp only [wpS_skip, wpS_break, wpS_cont, wpS_retV, wpS_throw, wpS_seq, wpS_if, wpS_trunc, yS_let, yS_inc, kgK_i, kgK_r, kok_nil, kok_i0, kok_is, kok_r0, kok_rs, kok_n0, kok_ns, xS_put, xS_putOp, xS_ast0, xS_ast1, xS_astOp, wpS_E, wpS_call, wpS_callS, wpS_ret, kThen_N, kThen_B, kThen_C, kThen_R, kThen_T, kNext_N, kNext_C, kNext_B, kNext_R, wpE_K, wpE_KL, xE_I, xE_R, wpE_J, xE_bin, wpE_ladd, wpE_i2l, xE_get, xE_ald0, xE_ald1, wpE_if, xE_max, xE_min, wpE_len, wpA_nil, wpA_snoc, xE_call, xE_callS, xC_C, xC_L, xC_Z, wpC_and, wpC_or, wpC_not, wpC_if, kcmp_0, kcmp_1, kcmp_2, kcmp_3, kcmp_4, kcmp_5, rR_inj, kgO_some, kgO_add, kgO_sub, kgO_mul, kgO_div, kgO_rem, kgO_and, kvI_inl, kvJ_inl, kgI_0, kgI_s, kgR_0, kgR_s, kst_nil, kst_0, kst_s, kNLl_nil, kNLl_i, kNLl_r, kNLl_n, ktag_i, ktag_r, List.length_cons, List.length_nil, List.take_succ_cons, List.take_zero, List.take_nil, List.nil_append, List.cons_append, decide_eq_true_eq, Bool.not_eq_true, Bool.not_eq_true', decide_eq_false_iff_not, ne_eq, Decidable.not_not, true_and, and_true, Nat.reduceAdd, Nat.reduceLeDiff, Nat.reduceEqDiff, Nat.le_refl, not_true_eq_false, not_false_eq_true, reduceIte, eq_self, Int.reduceNeg, Int.reduceEq, Int.reduceLT, Int.reduceLE, Nat.zero_le, Nat.one_ne_zero, ev_kp, decide_true, decide_false, Bool.false_eq_true, if_true, if_false, true_and, and_true, not_true_eq_false, not_false_eq_true]
  refine ⟨rfl, ?_⟩
  refine (chHolds_ok (wt := wt) (S := S) hG (cW.agree (fun o j ho => by unfold isWb at ho; rw [k13 o j (by omega) (by omega) (by omega) (by omega) (by omega) (by omega)])) (fun v => by rw [k13 _ _ (by decide) (by decide) (by decide) (by decide) (Or.inl (by decide)) (by decide)]; exact cC.1 v) (fun v hv => by rw [k13 _ _ (by decide) (by decide) (by decide) (by decide) (Or.inl (by decide)) (by decide)]; exact cS v hv) hSet).mono ?_
  rintro r s4 ⟨hs4, rfl⟩
  subst s4
  rw [kgO_some]
  simp only [wpS_skip, wpS_break, wpS_cont, wpS_retV, wpS_throw, wpS_seq, wpS_if, wpS_trunc, yS_let, yS_inc, kgK_i, kgK_r, kok_nil, kok_i0, kok_is, kok_r0, kok_rs, kok_n0, kok_ns, xS_put, xS_putOp, xS_ast0, xS_ast1, xS_astOp, wpS_E, wpS_call, wpS_callS, wpS_ret, kThen_N, kThen_B, kThen_C, kThen_R, kThen_T, kNext_N, kNext_C, kNext_B, kNext_R, wpE_K, wpE_KL, xE_I, xE_R, wpE_J, xE_bin, wpE_ladd, wpE_i2l, xE_get, xE_ald0, xE_ald1, wpE_if, xE_max, xE_min, wpE_len, wpA_nil, wpA_snoc, xE_call, xE_callS, xC_C, xC_L, xC_Z, wpC_and, wpC_or, wpC_not, wpC_if, kcmp_0, kcmp_1, kcmp_2, kcmp_3, kcmp_4, kcmp_5, rR_inj, kgO_some, kgO_add, kgO_sub, kgO_mul, kgO_div, kgO_rem, kgO_and, kvI_inl, kvJ_inl, kgI_0, kgI_s, kgR_0, kgR_s, kst_nil, kst_0, kst_s, kNLl_nil, kNLl_i, kNLl_r, kNLl_n, ktag_i, ktag_r, List.length_cons, List.length_nil, List.take_succ_cons, List.take_zero, List.take_nil, List.nil_append, List.cons_append, decide_eq_true_eq, Bool.not_eq_true, Bool.not_eq_true', decide_eq_false_iff_not, ne_eq, Decidable.not_not, true_and, and_true, Nat.reduceAdd, Nat.reduceLeDiff, Nat.reduceEqDiff, Nat.le_refl, not_true_eq_false, not_false_eq_true, reduceIte, eq_self, Int.reduceNeg, Int.reduceEq, Int.reduceLT, Int.reduceLE, Nat.zero_le, Nat.one_ne_zero, decide_true, decide_false, Bool.false_eq_true, if_true, if_false, true_and, and_true, not_true_eq_false, not_false_eq_true]
  rw [hQ1]
  refine refC_q hg hC hP hO hR hrl hA (fun o k q1 q2 q3 q4 q5 q6 q7 q8 q9 q10 => k13 o k (by omega) (by omega) (by omega) (by omega) (by omega) (by omega)) S3 (cTw.agree (fun o k ho => k13 o k (by omega) (by omega) (by omega) (by omega) (by omega) (by omega))) (cSt.agree (fun o k ho => k13 o k (by omega) (by omega) (by omega) (by omega) (by omega) (by omega))) (fun s2 hR2 => ?_)
  obtain ⟨r1, r2, r3, r4, r5, r6, r7⟩ := hR2
  refine (mdSound_ok hG r1 r2 hI.2.1 r3 r6.1 r5 hLb hHd ht01 hI.2.2 hT.2.2.2.2 hH).mono ?_
  rintro r' s' ⟨hk, rfl⟩
  exact ⟨0, hk, Or.inl ⟨_, rfl, rfl, rfl⟩⟩
end AT
