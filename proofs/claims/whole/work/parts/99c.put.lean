/-! put -/
section AY
variable {σ : kS} {n c ar st rl : Nat} {li fs sn lv od rt dp rg : Nat → Nat} {tr lo wt sp tk pa up : Nat → Int} {sf ss : Nat → Nat} {mv sx : Int} {S : Nat → Prop}
theorem CR.ring {s : kS} {rl' : Nat} {rg' : Nat → Nat} (h : CR σ n c ar rl li fs sn lv od rt dp rg tr lo wt pa up mv sx S) (hs : ∀ o k, o ≠ 37 → o ≠ 39 → o ≠ 40 → (o ≠ 7 ∨ k ≠ 9) → s o k = σ o k) (hr : rgC s rl' rg') : CR s n c ar rl' li fs sn lv od rt dp rg' tr lo wt pa up mv sx S := by
  obtain ⟨c0, c12, cW, cT, cL, cR, cG, ⟨rk, cC⟩, cS, cAg, cSd, cTw, cSt⟩ := h
  have f : ∀ o k, (o ≤ 36 ∧ o ≠ 7) ∨ o = 38 ∨ (41 ≤ o) → s o k = σ o k := fun o k ho => hs o k (by omega) (by omega) (by omega) (by omega)
  refine ⟨by rw [f _ _ (by omega)]; exact c0, by rw [f _ _ (by omega)]; exact c12, cW.agree (fun o k ho => f o k (by unfold isWb at ho; omega)), cT.agree (fun o k ho => f o k (by unfold isTr at ho; omega)), fun x => by rw [f _ _ (by omega)]; exact cL x, ⟨fun p hp => by rw [f _ _ (by omega)]; exact cR.1 p hp, fun p hp => by rw [f _ _ (by omega)]; exact cR.2.1 p hp, cR.2.2⟩, hr, ⟨rk, fun u => by rw [f _ _ (by omega)]; exact cC.1 u, fun i hi => by rw [f _ _ (by omega)]; exact cC.2.1 i hi, cC.2.2⟩, fun u hu => by rw [f _ _ (by omega)]; exact cS u hu, ?_, cSd.agree (fun o k ho => f o k (by omega)), cTw.agree (fun o k ho => f o k (by omega)), cSt.agree (fun o k ho => f o k (by omega))⟩
  rw [f 1 5 (by omega), f 6 3 (by omega), f 8 6 (by omega), f 9 8 (by omega)]
  exact cAg
theorem flIs.uniq {O : Nat → Prop} {a b : Nat} {f1 f2 : Int} (h1 : flIs O fs sn a b f1) (h2 : flIs O fs sn a b f2) : f1 = f2 := by
  rcases h1 with ⟨rfl, q1⟩ | ⟨rfl, q1, q2⟩ <;> rcases h2 with ⟨rfl, p1⟩ | ⟨rfl, p1, p2⟩
  · rfl
  · rcases q1 with q | q
    · exact absurd q p1
    · exact absurd q p2
  · rcases p1 with q | q
    · exact absurd q q1
    · exact absurd q q2
  · rfl
/-- the ring that the class tells of -/
def rgCl (O : Nat → Prop) (fs sn : Nat → Nat) (rl : Nat) (rg : Nat → Nat) (a b : Nat) (fl : Int) (rl' : Nat) (rg' : Nat → Nat) : Prop :=
  (fl = 0 ∧ rl' = rl ∧ rg' = rg) ∨ (fl = 1 ∧ ((a = b ∧ rl' = 0) ∨ (a ≠ b ∧ RingOf O fs sn a b rl' rg')))
theorem rg_match {s' : kS} {O : Nat → Prop} {a b rl' : Nat} {rg' : Nat → Nat} {fl : Int} (hR : rgM σ rl rg) (h1 : rgCl O fs sn rl rg a b fl rl' rg') (h2 : rgPut σ s' O fs sn a b fl) : rgM s' rl' rg' := by
  rcases h1 with ⟨e, rfl, rfl⟩ | ⟨e, h1⟩
  · rcases h2 with ⟨-, q1, q2⟩ | ⟨e2, -⟩
    · exact ⟨by rw [q1]; exact hR.1, fun k hk => by rw [q2]; exact hR.2 k hk⟩
    · omega
  · rcases h2 with ⟨e2, -⟩ | ⟨-, h2⟩
    · omega
    · rcases h1 with ⟨hab, rfl⟩ | ⟨hab, hring⟩
      · rcases h2 with ⟨-, q⟩ | ⟨q, -⟩
        · exact ⟨q.1, fun k hk => absurd hk (by omega)⟩
        · exact absurd hab q
      · rcases h2 with ⟨q, -⟩ | ⟨-, len, rg2, q1, q2⟩
        · exact absurd q hab
        · obtain ⟨rfl, q3⟩ := hring.uniq q1
          exact ⟨q2.1, fun k hk => by rw [q2.2 k hk, q3 k hk]⟩
theorem jPut {a b A : Int} (hA2 : A < 2147483647) (h : JV σ A) : wpS s_KP_put [some (.inr (.inl 0)), some (.inl a), some (.inl b)] σ (fun r _ s => refC F_Md_put [.inr (.inl 14), .inl a, .inl b] (A + 1) (thr2 22 43) r s) := by
  obtain ⟨n, c, ar, st, rl, li, fs, sn, lv, od, rt, dp, rg, tr, lo, wt, sp, tk, pa, up, sf, ss, mv, sx, S, hg, hC, hP, hO, hR, hrl, hA⟩ := h
  obtain ⟨hG, hHd, hLb, ht01, hI, hSet⟩ := id hg
  have hT := hC.2.2.2.1
  have hF := hT.2.2.2.2
  have hH : ∀ x, th c li x → rt (fs x) = rt (sn x) := fun x hx => hT.arc_rt hx
  obtain ⟨c0, c12, cW, -, cL, cR, cG, -, -, -, -, -, -⟩ := id hC
  have hc9 := hG.2.1
  have ha5 := hG.2.2.1
  obtain ⟨O, hO'⟩ : ∃ O : Nat → Prop, O = fun y => th c li y ∧ lo y = 0 := ⟨_, rfl⟩
  have hOr : rsp O fs sn (ivO n od) := by rw [hO']; exact hI.2.1
  unfold s_KP_put
  refine wpS_seq' (fun Q0 hQ0 => ?_)
  rw [wpS_if]
  refine (chk2 hC.n3).mono ?_
  rintro t s ⟨hs, ht⟩
  subst s
  by_cases q : ¬ ((0 ≤ a ∧ a < (n : Int)) ∧ 0 ≤ b ∧ b < (n : Int))
  · rw [if_pos (ht.mpr q)]
    simp only [wpS_skip, wpS_break, wpS_cont, wpS_retV, wpS_throw, wpS_seq, wpS_if, wpS_trunc, yS_let, yS_inc, kgK_i, kgK_r, kok_nil, kok_i0, kok_is, kok_r0, kok_rs, kok_n0, kok_ns, xS_put, xS_putOp, xS_ast0, xS_ast1, xS_astOp, wpS_E, wpS_call, wpS_callS, wpS_ret, kThen_N, kThen_B, kThen_C, kThen_R, kThen_T, kNext_N, kNext_C, kNext_B, kNext_R, wpE_K, wpE_KL, xE_I, xE_R, wpE_J, xE_bin, wpE_ladd, wpE_i2l, xE_get, xE_ald0, xE_ald1, wpE_if, xE_max, xE_min, wpE_len, wpA_nil, wpA_snoc, xE_call, xE_callS, xC_C, xC_L, xC_Z, wpC_and, wpC_or, wpC_not, wpC_if, kcmp_0, kcmp_1, kcmp_2, kcmp_3, kcmp_4, kcmp_5, rR_inj, kgO_some, kgO_add, kgO_sub, kgO_mul, kgO_div, kgO_rem, kgO_and, kvI_inl, kvJ_inl, kgI_0, kgI_s, kgR_0, kgR_s, kst_nil, kst_0, kst_s, kNLl_nil, kNLl_i, kNLl_r, kNLl_n, ktag_i, ktag_r, List.length_cons, List.length_nil, List.take_succ_cons, List.take_zero, List.take_nil, List.nil_append, List.cons_append, decide_eq_true_eq, Bool.not_eq_true, Bool.not_eq_true', decide_eq_false_iff_not, ne_eq, Decidable.not_not, true_and, and_true, Nat.reduceAdd, Nat.reduceLeDiff, Nat.reduceEqDiff, Nat.le_refl, not_true_eq_false, not_false_eq_true, reduceIte, eq_self, Int.reduceNeg, Int.reduceEq, Int.reduceLT, Int.reduceLE, Nat.zero_le, Nat.one_ne_zero]
    rw [hQ0]
    refine kThen_T.mpr ?_
    refine refC_ask hg hC hP hO hR hrl (by omega) (fun s2 hR2 => ?_)
    obtain ⟨r1, r2, r3, r4, r5, r6, r7⟩ := hR2
    refine (mdPut_ok hG r1 r2 hI.2.1 r3 hF hH).mono ?_
    rintro r' s' (⟨-, hk, -⟩ | ⟨h, -⟩ | ⟨h, -⟩)
    · exact ⟨1, hk, Or.inr ⟨22, rfl, rfl, by decide⟩⟩
    · exact absurd h q
    · exact absurd h q
  rw [if_neg (fun h => q (ht.mp h))]
  simp only [wpS_skip, wpS_break, wpS_cont, wpS_retV, wpS_throw, wpS_seq, wpS_if, wpS_trunc, yS_let, yS_inc, kgK_i, kgK_r, kok_nil, kok_i0, kok_is, kok_r0, kok_rs, kok_n0, kok_ns, xS_put, xS_putOp, xS_ast0, xS_ast1, xS_astOp, wpS_E, wpS_call, wpS_callS, wpS_ret, kThen_N, kThen_B, kThen_C, kThen_R, kThen_T, kNext_N, kNext_C, kNext_B, kNext_R, wpE_K, wpE_KL, xE_I, xE_R, wpE_J, xE_bin, wpE_ladd, wpE_i2l, xE_get, xE_ald0, xE_ald1, wpE_if, xE_max, xE_min, wpE_len, wpA_nil, wpA_snoc, xE_call, xE_callS, xC_C, xC_L, xC_Z, wpC_and, wpC_or, wpC_not, wpC_if, kcmp_0, kcmp_1, kcmp_2, kcmp_3, kcmp_4, kcmp_5, rR_inj, kgO_some, kgO_add, kgO_sub, kgO_mul, kgO_div, kgO_rem, kgO_and, kvI_inl, kvJ_inl, kgI_0, kgI_s, kgR_0, kgR_s, kst_nil, kst_0, kst_s, kNLl_nil, kNLl_i, kNLl_r, kNLl_n, ktag_i, ktag_r, List.length_cons, List.length_nil, List.take_succ_cons, List.take_zero, List.take_nil, List.nil_append, List.cons_append, decide_eq_true_eq, Bool.not_eq_true, Bool.not_eq_true', decide_eq_false_iff_not, ne_eq, Decidable.not_not, true_and, and_true, Nat.reduceAdd, Nat.reduceLeDiff, Nat.reduceEqDiff, Nat.le_refl, not_true_eq_false, not_false_eq_true, reduceIte, eq_self, Int.reduceNeg, Int.reduceEq, Int.reduceLT, Int.reduceLE, Nat.zero_le, Nat.one_ne_zero]
  rw [hQ0]
  clear hQ0 Q0
  refine kThen_N.mpr ?_
  have hgood := Classical.not_not.mp q
  obtain ⟨a, rfl⟩ : ∃ v' : Nat, a = (v' : Int) := ⟨a.toNat, by omega⟩
  obtain ⟨b, rfl⟩ : ∃ v' : Nat, b = (v' : Int) := ⟨b.toNat, by omega⟩
  have han : a < n := by omega
  have hbn : b < n := by omega
  refine wpS_seq' (fun Q0 hQ0 => ?_)
  simp only [wpS_skip, wpS_break, wpS_cont, wpS_retV, wpS_throw, wpS_seq, wpS_if, wpS_trunc, yS_let, yS_inc, kgK_i, kgK_r, kok_nil, kok_i0, kok_is, kok_r0, kok_rs, kok_n0, kok_ns, xS_put, xS_putOp, xS_ast0, xS_ast1, xS_astOp, wpS_E, wpS_call, wpS_callS, wpS_ret, kThen_N, kThen_B, kThen_C, kThen_R, kThen_T, kNext_N, kNext_C, kNext_B, kNext_R, wpE_K, wpE_KL, xE_I, xE_R, wpE_J, xE_bin, wpE_ladd, wpE_i2l, xE_get, xE_ald0, xE_ald1, wpE_if, xE_max, xE_min, wpE_len, wpA_nil, wpA_snoc, xE_call, xE_callS, xC_C, xC_L, xC_Z, wpC_and, wpC_or, wpC_not, wpC_if, kcmp_0, kcmp_1, kcmp_2, kcmp_3, kcmp_4, kcmp_5, rR_inj, kgO_some, kgO_add, kgO_sub, kgO_mul, kgO_div, kgO_rem, kgO_and, kvI_inl, kvJ_inl, kgI_0, kgI_s, kgR_0, kgR_s, kst_nil, kst_0, kst_s, kNLl_nil, kNLl_i, kNLl_r, kNLl_n, ktag_i, ktag_r, List.length_cons, List.length_nil, List.take_succ_cons, List.take_zero, List.take_nil, List.nil_append, List.cons_append, decide_eq_true_eq, Bool.not_eq_true, Bool.not_eq_true', decide_eq_false_iff_not, ne_eq, Decidable.not_not, true_and, and_true, Nat.reduceAdd, Nat.reduceLeDiff, Nat.reduceEqDiff, Nat.le_refl, not_true_eq_false, not_false_eq_true, reduceIte, eq_self, Int.reduceNeg, Int.reduceEq, Int.reduceLT, Int.reduceLE, Nat.zero_le, Nat.one_ne_zero, ev_kp]
  refine ⟨rfl, ?_⟩
  refine (webHasRoom_ok cW.2.1 cW.2.2.1 hc9 ha5).mono ?_
  rintro r s ⟨hs, rfl⟩
  subst s
  rw [kgO_some]
  by_cases qr : c = 900 ∨ ar = 5000
  · rw [if_neg (by omega)]
    simp only [wpS_skip, wpS_break, wpS_cont, wpS_retV, wpS_throw, wpS_seq, wpS_if, wpS_trunc, yS_let, yS_inc, kgK_i, kgK_r, kok_nil, kok_i0, kok_is, kok_r0, kok_rs, kok_n0, kok_ns, xS_put, xS_putOp, xS_ast0, xS_ast1, xS_astOp, wpS_E, wpS_call, wpS_callS, wpS_ret, kThen_N, kThen_B, kThen_C, kThen_R, kThen_T, kNext_N, kNext_C, kNext_B, kNext_R, wpE_K, wpE_KL, xE_I, xE_R, wpE_J, xE_bin, wpE_ladd, wpE_i2l, xE_get, xE_ald0, xE_ald1, wpE_if, xE_max, xE_min, wpE_len, wpA_nil, wpA_snoc, xE_call, xE_callS, xC_C, xC_L, xC_Z, wpC_and, wpC_or, wpC_not, wpC_if, kcmp_0, kcmp_1, kcmp_2, kcmp_3, kcmp_4, kcmp_5, rR_inj, kgO_some, kgO_add, kgO_sub, kgO_mul, kgO_div, kgO_rem, kgO_and, kvI_inl, kvJ_inl, kgI_0, kgI_s, kgR_0, kgR_s, kst_nil, kst_0, kst_s, kNLl_nil, kNLl_i, kNLl_r, kNLl_n, ktag_i, ktag_r, List.length_cons, List.length_nil, List.take_succ_cons, List.take_zero, List.take_nil, List.nil_append, List.cons_append, decide_eq_true_eq, Bool.not_eq_true, Bool.not_eq_true', decide_eq_false_iff_not, ne_eq, Decidable.not_not, true_and, and_true, Nat.reduceAdd, Nat.reduceLeDiff, Nat.reduceEqDiff, Nat.le_refl, not_true_eq_false, not_false_eq_true, reduceIte, eq_self, Int.reduceNeg, Int.reduceEq, Int.reduceLT, Int.reduceLE, Nat.zero_le, Nat.one_ne_zero, decide_true, decide_false, Bool.false_eq_true, if_true, if_false, true_and, and_true, not_true_eq_false, not_false_eq_true]
    rw [hQ0]
    refine kThen_T.mpr ?_
    refine refC_ask hg hC hP hO hR hrl (by omega) (fun s2 hR2 => ?_)
    obtain ⟨r1, r2, r3, r4, r5, r6, r7⟩ := hR2
    refine (mdPut_ok hG r1 r2 hI.2.1 r3 hF hH).mono ?_
    rintro r' s' (⟨h, -⟩ | ⟨-, -, hk, -⟩ | ⟨-, h1, h2, -⟩)
    · exact absurd hgood h
    · exact ⟨2, hk, Or.inr ⟨43, rfl, rfl, by decide⟩⟩
    · omega
  rw [if_pos (by omega)]
  simp only [wpS_skip, wpS_break, wpS_cont, wpS_retV, wpS_throw, wpS_seq, wpS_if, wpS_trunc, yS_let, yS_inc, kgK_i, kgK_r, kok_nil, kok_i0, kok_is, kok_r0, kok_rs, kok_n0, kok_ns, xS_put, xS_putOp, xS_ast0, xS_ast1, xS_astOp, wpS_E, wpS_call, wpS_callS, wpS_ret, kThen_N, kThen_B, kThen_C, kThen_R, kThen_T, kNext_N, kNext_C, kNext_B, kNext_R, wpE_K, wpE_KL, xE_I, xE_R, wpE_J, xE_bin, wpE_ladd, wpE_i2l, xE_get, xE_ald0, xE_ald1, wpE_if, xE_max, xE_min, wpE_len, wpA_nil, wpA_snoc, xE_call, xE_callS, xC_C, xC_L, xC_Z, wpC_and, wpC_or, wpC_not, wpC_if, kcmp_0, kcmp_1, kcmp_2, kcmp_3, kcmp_4, kcmp_5, rR_inj, kgO_some, kgO_add, kgO_sub, kgO_mul, kgO_div, kgO_rem, kgO_and, kvI_inl, kvJ_inl, kgI_0, kgI_s, kgR_0, kgR_s, kst_nil, kst_0, kst_s, kNLl_nil, kNLl_i, kNLl_r, kNLl_n, ktag_i, ktag_r, List.length_cons, List.length_nil, List.take_succ_cons, List.take_zero, List.take_nil, List.nil_append, List.cons_append, decide_eq_true_eq, Bool.not_eq_true, Bool.not_eq_true', decide_eq_false_iff_not, ne_eq, Decidable.not_not, true_and, and_true, Nat.reduceAdd, Nat.reduceLeDiff, Nat.reduceEqDiff, Nat.le_refl, not_true_eq_false, not_false_eq_true, reduceIte, eq_self, Int.reduceNeg, Int.reduceEq, Int.reduceLT, Int.reduceLE, Nat.zero_le, Nat.one_ne_zero, decide_true, decide_false, Bool.false_eq_true, if_true, if_false, true_and, and_true, not_true_eq_false, not_false_eq_true]
  rw [hQ0]
  clear hQ0 Q0
  refine kThen_N.mpr ?_
  have hc : c < 900 := by omega
  have har : ar < 5000 := by omega
  refine wpS_seq' (fun Q0 hQ0 => ?_)
  -- behind the ring
  have told : ∀ (fl : Int) (s1 : kS) rl' rg', (∀ o k, o ≠ 37 → o ≠ 39 → o ≠ 40 → (o ≠ 7 ∨ k ≠ 9) → s1 o k = σ o k) → flIs O fs sn a b fl → rgCl O fs sn rl rg a b fl rl' rg' → rgC s1 rl' rg' → rl' ≤ 300 → Q0 rN [some (.inr (.inl 0)), some (.inl (a : Int)), some (.inl (b : Int)), some (.inl fl)] s1 := by
    intro fl s1 rl' rg' k1 hfl hcl hrg hrl'
    rw [hQ0]
    clear hQ0
    refine kThen_N.mpr ?_
    have C1 := hC.ring k1 hrg
    have P1 : PlS s1 st sp tk sf ss := hP.agree (fun o k ho => k1 o k (by omega) (by omega) (by omega) (by omega))
    have e15 : s1 1 5 = σ 1 5 := k1 _ _ (by decide) (by decide) (by decide) (by decide)
    have e00 : s1 0 0 = sx := C1.1
    have h01 : fl = 0 ∨ fl = 1 := by rcases hfl with h | h; exact Or.inr h.1; exact Or.inl h.1
    have s00 : σ 14 0 = sx := hR.2.2.2.2.2.2
    refine wpS_seq' (fun Q1 hQ1 => ?_)
    have put : ¬ (fl = 1 ∧ sx ≠ 0) → Q1 rN [some (.inr (.inl 0)), some (.inl (a : Int)), some (.inl (b : Int)), some (.inl fl)] s1 := by
      intro hns
      rw [hQ1]
      clear hQ1
      refine kThen_N.mpr ?_
      refine wpS_seq' (fun Q101 hQ101 => ?_)
      simp only [wpS_skip, wpS_break, wpS_cont, wpS_retV, wpS_throw, wpS_seq, wpS_if, wpS_trunc, yS_let, yS_inc, kgK_i, kgK_r, kok_nil, kok_i0, kok_is, kok_r0, kok_rs, kok_n0, kok_ns, xS_put, xS_putOp, xS_ast0, xS_ast1, xS_astOp, wpS_E, wpS_call, wpS_callS, wpS_ret, kThen_N, kThen_B, kThen_C, kThen_R, kThen_T, kNext_N, kNext_C, kNext_B, kNext_R, wpE_K, wpE_KL, xE_I, xE_R, wpE_J, xE_bin, wpE_ladd, wpE_i2l, xE_get, xE_ald0, xE_ald1, wpE_if, xE_max, xE_min, wpE_len, wpA_nil, wpA_snoc, xE_call, xE_callS, xC_C, xC_L, xC_Z, wpC_and, wpC_or, wpC_not, wpC_if, kcmp_0, kcmp_1, kcmp_2, kcmp_3, kcmp_4, kcmp_5, rR_inj, kgO_some, kgO_add, kgO_sub, kgO_mul, kgO_div, kgO_rem, kgO_and, kvI_inl, kvJ_inl, kgI_0, kgI_s, kgR_0, kgR_s, kst_nil, kst_0, kst_s, kNLl_nil, kNLl_i, kNLl_r, kNLl_n, ktag_i, ktag_r, List.length_cons, List.length_nil, List.take_succ_cons, List.take_zero, List.take_nil, List.nil_append, List.cons_append, decide_eq_true_eq, Bool.not_eq_true, Bool.not_eq_true', decide_eq_false_iff_not, ne_eq, Decidable.not_not, true_and, and_true, Nat.reduceAdd, Nat.reduceLeDiff, Nat.reduceEqDiff, Nat.le_refl, not_true_eq_false, not_false_eq_true, reduceIte, eq_self, Int.reduceNeg, Int.reduceEq, Int.reduceLT, Int.reduceLE, Nat.zero_le, Nat.one_ne_zero, ev_kp]
      refine ⟨rfl, ?_⟩
      refine (forget_ok hG P1 hO).mono ?_
      rintro r s2 ⟨rfl, k2, P2⟩
      rw [kgO_some]
      refine ⟨by show ¬ ((0 : Nat) = 2); decide, ?_⟩
      rw [hQ101]
      clear hQ101
      refine kThen_N.mpr ?_
      have C2 := C1.agree (s := s2) (fun o k ho => k2 o k (by omega) (by omega) (by omega))
      have e2 : s2 1 5 = σ 1 5 := by rw [k2 _ _ (by decide) (by decide) (by decide), e15]
      refine wpS_gen (fun Q2 hQ2 => ?_)
      simp only [wpS_skip, wpS_break, wpS_cont, wpS_retV, wpS_throw, wpS_seq, wpS_if, wpS_trunc, yS_let, yS_inc, kgK_i, kgK_r, kok_nil, kok_i0, kok_is, kok_r0, kok_rs, kok_n0, kok_ns, xS_put, xS_putOp, xS_ast0, xS_ast1, xS_astOp, wpS_E, wpS_call, wpS_callS, wpS_ret, kThen_N, kThen_B, kThen_C, kThen_R, kThen_T, kNext_N, kNext_C, kNext_B, kNext_R, wpE_K, wpE_KL, xE_I, xE_R, wpE_J, xE_bin, wpE_ladd, wpE_i2l, xE_get, xE_ald0, xE_ald1, wpE_if, xE_max, xE_min, wpE_len, wpA_nil, wpA_snoc, xE_call, xE_callS, xC_C, xC_L, xC_Z, wpC_and, wpC_or, wpC_not, wpC_if, kcmp_0, kcmp_1, kcmp_2, kcmp_3, kcmp_4, kcmp_5, rR_inj, kgO_some, kgO_add, kgO_sub, kgO_mul, kgO_div, kgO_rem, kgO_and, kvI_inl, kvJ_inl, kgI_0, kgI_s, kgR_0, kgR_s, kst_nil, kst_0, kst_s, kNLl_nil, kNLl_i, kNLl_r, kNLl_n, ktag_i, ktag_r, List.length_cons, List.length_nil, List.take_succ_cons, List.take_zero, List.take_nil, List.nil_append, List.cons_append, decide_eq_true_eq, Bool.not_eq_true, Bool.not_eq_true', decide_eq_false_iff_not, ne_eq, Decidable.not_not, true_and, and_true, Nat.reduceAdd, Nat.reduceLeDiff, Nat.reduceEqDiff, Nat.le_refl, not_true_eq_false, not_false_eq_true, reduceIte, eq_self, Int.reduceNeg, Int.reduceEq, Int.reduceLT, Int.reduceLE, Nat.zero_le, Nat.one_ne_zero]
      refine ⟨rfl, ?_⟩
      have hfl2 : fl = 1 ∨ (fl = 0 ∧ a ≠ b ∧ ¬ rch (dE (fun y => th c li y ∧ lo y = 0) fs sn) b a) := by
        rw [← hO']
        rcases hfl with h | h
        · exact Or.inl h.1
        · exact Or.inr h
      refine (kpAddArc_ok hg C2 hc har han hbn (by omega) hfl2).mono ?_
      rintro r s3 ⟨rfl, k3, e3, S', rt', dp', pa', up', hg3, C3⟩
      rw [kgO_some]
      refine ⟨rfl, ?_⟩
      rw [hQ2]
      intro y
      have hmd : ∀ o k, isMd o → o ≠ 110 → kup s3 110 0 y o k = σ o k := fun o k h1 h2 => by
        rw [kup_ne h2, k3 o k (Or.inl h1)]
        unfold isMd at h1
        rw [k2 o k (by omega) (by omega) (by omega), k1 o k (by omega) (by omega) (by omega) (by omega)]
      obtain ⟨r1, r2, r3, r4, r5, r6, r7⟩ : RR (kup s3 110 0 y) n c ar st rl li fs sn lv od rg tr lo wt sp tk sf ss mv sx := hR.agree (fun o k ho => hmd o k (by unfold isMd; omega) (by omega))
      refine (mdPut_ok hG r1 r2 hI.2.1 r3 hF hH).mono ?_
      rintro r' s' (⟨h, -⟩ | ⟨-, h, -⟩ | ⟨-, -, -, fl', hfl', hrg', e22, h⟩)
      · exact absurd hgood h
      · exact absurd h qr
      · simp only [Int.toNat_natCast] at hfl' hrg' h
        rw [← hO'] at hfl' hrg'
        have := hfl.uniq hfl'
        subst this
        rcases h with ⟨h1, h2, -⟩ | ⟨-, rfl, k4, e17, M4, R4, B, B', hB, hB', e16⟩
        · rw [r7] at h2
          exact absurd ⟨h1, h2⟩ hns
        · have f : ∀ o k, ¬ isMd o → s' o k = s3 o k := fun o k h => by
            unfold isMd at h
            rw [k4 o k (by unfold mSc; omega) (by omega) (by omega), kup_ne (by omega)]
          refine ⟨⟨n, c + 1, ar + 1, 0, rl', _, _, _, _, _, rt', dp', rg', _, _, wt, sp, tk, pa', up', sf, ss, _, sx, S', hg3, C3.agree (fun o k ho => f o k (by unfold isMd; omega)), P2.agree (fun o k ho => by rw [f o k (by unfold isMd; omega), k3 o k (by omega)]), plOk_nil, ⟨M4, R4, fun v => by rw [k4 _ _ (by unfold mSc; omega) (by decide) (Or.inl (by decide))]; exact r3 v, rg_match r4 hcl hrg', ?_, ⟨e17, fun k hk => absurd hk (by omega)⟩, ?_⟩, hrl', by rw [f _ _ (by unfold isMd; omega), e3, e2]; omega⟩, ?_, Or.inl ⟨_, rfl, rfl, e22⟩⟩
          · rw [e16, cnt_sets hSet hB hg3.2.2.2.2.2 hB']
          · rw [k4 _ _ (by unfold mSc; omega) (by decide) (by decide)]; exact r7
          · rw [k4 _ _ (by unfold mSc; omega) (by decide) (by decide), kup_eq, if_pos rfl]
    rcases h01 with rfl | rfl
    · simp only [wpS_skip, wpS_break, wpS_cont, wpS_retV, wpS_throw, wpS_seq, wpS_if, wpS_trunc, yS_let, yS_inc, kgK_i, kgK_r, kok_nil, kok_i0, kok_is, kok_r0, kok_rs, kok_n0, kok_ns, xS_put, xS_putOp, xS_ast0, xS_ast1, xS_astOp, wpS_E, wpS_call, wpS_callS, wpS_ret, kThen_N, kThen_B, kThen_C, kThen_R, kThen_T, kNext_N, kNext_C, kNext_B, kNext_R, wpE_K, wpE_KL, xE_I, xE_R, wpE_J, xE_bin, wpE_ladd, wpE_i2l, xE_get, xE_ald0, xE_ald1, wpE_if, xE_max, xE_min, wpE_len, wpA_nil, wpA_snoc, xE_call, xE_callS, xC_C, xC_L, xC_Z, wpC_and, wpC_or, wpC_not, wpC_if, kcmp_0, kcmp_1, kcmp_2, kcmp_3, kcmp_4, kcmp_5, rR_inj, kgO_some, kgO_add, kgO_sub, kgO_mul, kgO_div, kgO_rem, kgO_and, kvI_inl, kvJ_inl, kgI_0, kgI_s, kgR_0, kgR_s, kst_nil, kst_0, kst_s, kNLl_nil, kNLl_i, kNLl_r, kNLl_n, ktag_i, ktag_r, List.length_cons, List.length_nil, List.take_succ_cons, List.take_zero, List.take_nil, List.nil_append, List.cons_append, decide_eq_true_eq, Bool.not_eq_true, Bool.not_eq_true', decide_eq_false_iff_not, ne_eq, Decidable.not_not, true_and, and_true, Nat.reduceAdd, Nat.reduceLeDiff, Nat.reduceEqDiff, Nat.le_refl, not_true_eq_false, not_false_eq_true, reduceIte, eq_self, Int.reduceNeg, Int.reduceEq, Int.reduceLT, Int.reduceLE, Nat.zero_le, Nat.one_ne_zero, decide_true, decide_false, Bool.false_eq_true, if_true, if_false, true_and, and_true, not_true_eq_false, not_false_eq_true]
      exact put (fun h => absurd h.1 (by decide))
    · by_cases qs : sx = 0
      · simp only [wpS_skip, wpS_break, wpS_cont, wpS_retV, wpS_throw, wpS_seq, wpS_if, wpS_trunc, yS_let, yS_inc, kgK_i, kgK_r, kok_nil, kok_i0, kok_is, kok_r0, kok_rs, kok_n0, kok_ns, xS_put, xS_putOp, xS_ast0, xS_ast1, xS_astOp, wpS_E, wpS_call, wpS_callS, wpS_ret, kThen_N, kThen_B, kThen_C, kThen_R, kThen_T, kNext_N, kNext_C, kNext_B, kNext_R, wpE_K, wpE_KL, xE_I, xE_R, wpE_J, xE_bin, wpE_ladd, wpE_i2l, xE_get, xE_ald0, xE_ald1, wpE_if, xE_max, xE_min, wpE_len, wpA_nil, wpA_snoc, xE_call, xE_callS, xC_C, xC_L, xC_Z, wpC_and, wpC_or, wpC_not, wpC_if, kcmp_0, kcmp_1, kcmp_2, kcmp_3, kcmp_4, kcmp_5, rR_inj, kgO_some, kgO_add, kgO_sub, kgO_mul, kgO_div, kgO_rem, kgO_and, kvI_inl, kvJ_inl, kgI_0, kgI_s, kgR_0, kgR_s, kst_nil, kst_0, kst_s, kNLl_nil, kNLl_i, kNLl_r, kNLl_n, ktag_i, ktag_r, List.length_cons, List.length_nil, List.take_succ_cons, List.take_zero, List.take_nil, List.nil_append, List.cons_append, decide_eq_true_eq, Bool.not_eq_true, Bool.not_eq_true', decide_eq_false_iff_not, ne_eq, Decidable.not_not, true_and, and_true, Nat.reduceAdd, Nat.reduceLeDiff, Nat.reduceEqDiff, Nat.le_refl, not_true_eq_false, not_false_eq_true, reduceIte, eq_self, Int.reduceNeg, Int.reduceEq, Int.reduceLT, Int.reduceLE, Nat.zero_le, Nat.one_ne_zero, ev_kp, e00, qs, decide_true, decide_false, Bool.false_eq_true, if_true, if_false, true_and, and_true, not_true_eq_false, not_false_eq_true]
        exact put (fun h => h.2 qs)
      · simp only [wpS_skip, wpS_break, wpS_cont, wpS_retV, wpS_throw, wpS_seq, wpS_if, wpS_trunc, yS_let, yS_inc, kgK_i, kgK_r, kok_nil, kok_i0, kok_is, kok_r0, kok_rs, kok_n0, kok_ns, xS_put, xS_putOp, xS_ast0, xS_ast1, xS_astOp, wpS_E, wpS_call, wpS_callS, wpS_ret, kThen_N, kThen_B, kThen_C, kThen_R, kThen_T, kNext_N, kNext_C, kNext_B, kNext_R, wpE_K, wpE_KL, xE_I, xE_R, wpE_J, xE_bin, wpE_ladd, wpE_i2l, xE_get, xE_ald0, xE_ald1, wpE_if, xE_max, xE_min, wpE_len, wpA_nil, wpA_snoc, xE_call, xE_callS, xC_C, xC_L, xC_Z, wpC_and, wpC_or, wpC_not, wpC_if, kcmp_0, kcmp_1, kcmp_2, kcmp_3, kcmp_4, kcmp_5, rR_inj, kgO_some, kgO_add, kgO_sub, kgO_mul, kgO_div, kgO_rem, kgO_and, kvI_inl, kvJ_inl, kgI_0, kgI_s, kgR_0, kgR_s, kst_nil, kst_0, kst_s, kNLl_nil, kNLl_i, kNLl_r, kNLl_n, ktag_i, ktag_r, List.length_cons, List.length_nil, List.take_succ_cons, List.take_zero, List.take_nil, List.nil_append, List.cons_append, decide_eq_true_eq, Bool.not_eq_true, Bool.not_eq_true', decide_eq_false_iff_not, ne_eq, Decidable.not_not, true_and, and_true, Nat.reduceAdd, Nat.reduceLeDiff, Nat.reduceEqDiff, Nat.le_refl, not_true_eq_false, not_false_eq_true, reduceIte, eq_self, Int.reduceNeg, Int.reduceEq, Int.reduceLT, Int.reduceLE, Nat.zero_le, Nat.one_ne_zero, ev_kp, e00, qs, decide_true, decide_false, Bool.false_eq_true, if_true, if_false, true_and, and_true, not_true_eq_false, not_false_eq_true]
        rw [hQ1]
        refine kThen_R.mpr ?_
        intro y
        have hmd : ∀ o k, isMd o → o ≠ 110 → kup s1 110 0 y o k = σ o k := fun o k h1 h2 => by
          unfold isMd at h1
          rw [kup_ne h2, k1 o k (by omega) (by omega) (by omega) (by omega)]
        obtain ⟨r1, r2, r3, r4, r5, r6, r7⟩ : RR (kup s1 110 0 y) n c ar st rl li fs sn lv od rg tr lo wt sp tk sf ss mv sx := hR.agree (fun o k ho => hmd o k (by unfold isMd; omega) (by omega))
        refine (mdPut_ok hG r1 r2 hI.2.1 r3 hF hH).mono ?_
        rintro r' s' (⟨h, -⟩ | ⟨-, h, -⟩ | ⟨-, -, -, fl', hfl', hrg', e22, h⟩)
        · exact absurd hgood h
        · exact absurd h qr
        · simp only [Int.toNat_natCast] at hfl' hrg' h
          rw [← hO'] at hfl' hrg'
          have := hfl.uniq hfl'
          subst this
          rcases h with ⟨-, -, rfl, k4⟩ | ⟨h, -⟩
          · have f : ∀ o k, ¬ isMd o → s' o k = s1 o k := fun o k h => by
              unfold isMd at h
              rw [k4 o k (by unfold mSc; omega) (by omega) (by omega), kup_ne (by omega)]
            have fm : ∀ o k, ¬ mSc o k → o ≠ 80 → (o ≠ 14 ∨ (k ≠ 14 ∧ k ≠ 22)) → s' o k = kup s1 110 0 y o k := k4
            refine ⟨⟨n, c, ar, st, rl', li, fs, sn, lv, od, rt, dp, rg', tr, lo, wt, sp, tk, pa, up, sf, ss, mv, sx, S, hg, C1.agree (fun o k ho => f o k (by unfold isMd; omega)), P1.agree (fun o k ho => f o k (by unfold isMd; omega)), hO, ⟨r1.agree (fun o k ho => fm o k (by unfold mSc; omega) (by omega) ?_), ⟨fun p hp => by rw [fm _ _ (by unfold mSc; omega) (by decide) (Or.inl (by decide))]; exact r2.1 p hp, fun p hp => by rw [fm _ _ (by unfold mSc; omega) (by decide) (Or.inl (by decide))]; exact r2.2.1 p hp, r2.2.2⟩, fun v => by rw [fm _ _ (by unfold mSc; omega) (by decide) (Or.inl (by decide))]; exact r3 v, rg_match r4 hcl hrg', by rw [fm _ _ (by unfold mSc; omega) (by decide) (by decide)]; exact r5, r6.agree (fun o k ho => fm o k (by unfold mSc; omega) (by omega) (by omega)), by rw [fm _ _ (by unfold mSc; omega) (by decide) (by decide)]; exact r7⟩, hrl', by rw [f _ _ (by unfold isMd; omega), e15]; omega⟩, ?_, Or.inl ⟨_, rfl, rfl, e22⟩⟩
            · omega
            · rw [k4 _ _ (by unfold mSc; omega) (by decide) (by decide), kup_eq, if_pos rfl]
          · exact absurd ⟨rfl, by rw [r7]; exact qs⟩ h
  simp only [wpS_skip, wpS_break, wpS_cont, wpS_retV, wpS_throw, wpS_seq, wpS_if, wpS_trunc, yS_let, yS_inc, kgK_i, kgK_r, kok_nil, kok_i0, kok_is, kok_r0, kok_rs, kok_n0, kok_ns, xS_put, xS_putOp, xS_ast0, xS_ast1, xS_astOp, wpS_E, wpS_call, wpS_callS, wpS_ret, kThen_N, kThen_B, kThen_C, kThen_R, kThen_T, kNext_N, kNext_C, kNext_B, kNext_R, wpE_K, wpE_KL, xE_I, xE_R, wpE_J, xE_bin, wpE_ladd, wpE_i2l, xE_get, xE_ald0, xE_ald1, wpE_if, xE_max, xE_min, wpE_len, wpA_nil, wpA_snoc, xE_call, xE_callS, xC_C, xC_L, xC_Z, wpC_and, wpC_or, wpC_not, wpC_if, kcmp_0, kcmp_1, kcmp_2, kcmp_3, kcmp_4, kcmp_5, rR_inj, kgO_some, kgO_add, kgO_sub, kgO_mul, kgO_div, kgO_rem, kgO_and, kvI_inl, kvJ_inl, kgI_0, kgI_s, kgR_0, kgR_s, kst_nil, kst_0, kst_s, kNLl_nil, kNLl_i, kNLl_r, kNLl_n, ktag_i, ktag_r, List.length_cons, List.length_nil, List.take_succ_cons, List.take_zero, List.take_nil, List.nil_append, List.cons_append, decide_eq_true_eq, Bool.not_eq_true, Bool.not_eq_true', decide_eq_false_iff_not, ne_eq, Decidable.not_not, true_and, and_true, Nat.reduceAdd, Nat.reduceLeDiff, Nat.reduceEqDiff, Nat.le_refl, not_true_eq_false, not_false_eq_true, reduceIte, eq_self, Int.reduceNeg, Int.reduceEq, Int.reduceLT, Int.reduceLE, Nat.zero_le, Nat.one_ne_zero, ev_kp]
  refine ⟨rfl, ?_⟩
  refine (tellRing_ok (od := od) hG cW cL cR han hbn (by rw [← hO']; exact hOr)).mono ?_
  rintro r s1 ⟨k1, hcase⟩
  rw [← hO'] at hcase
  have hlenb : ∀ len rg', RingOf O fs sn a b len rg' → len ≤ 300 := fun len rg' h => by
    have := ds_lt h.1 (n := n) (fun v hv => by
      refine rch.closed (S := fun v => v < n) ?_ han hv
      rintro x y - ⟨z, hz, h1, h2⟩
      rw [hO'] at hz
      have := th_lt hG hz.1
      omega)
    have := hG.1
    omega
  rcases hcase with ⟨hab, rfl, hrg⟩ | ⟨hab, hno, rfl, g1, g2⟩ | ⟨hab, hyes, rfl, len, rg', hring, hrg⟩
  · rw [kgO_some]
    simp only [wpS_skip, wpS_break, wpS_cont, wpS_retV, wpS_throw, wpS_seq, wpS_if, wpS_trunc, yS_let, yS_inc, kgK_i, kgK_r, kok_nil, kok_i0, kok_is, kok_r0, kok_rs, kok_n0, kok_ns, xS_put, xS_putOp, xS_ast0, xS_ast1, xS_astOp, wpS_E, wpS_call, wpS_callS, wpS_ret, kThen_N, kThen_B, kThen_C, kThen_R, kThen_T, kNext_N, kNext_C, kNext_B, kNext_R, wpE_K, wpE_KL, xE_I, xE_R, wpE_J, xE_bin, wpE_ladd, wpE_i2l, xE_get, xE_ald0, xE_ald1, wpE_if, xE_max, xE_min, wpE_len, wpA_nil, wpA_snoc, xE_call, xE_callS, xC_C, xC_L, xC_Z, wpC_and, wpC_or, wpC_not, wpC_if, kcmp_0, kcmp_1, kcmp_2, kcmp_3, kcmp_4, kcmp_5, rR_inj, kgO_some, kgO_add, kgO_sub, kgO_mul, kgO_div, kgO_rem, kgO_and, kvI_inl, kvJ_inl, kgI_0, kgI_s, kgR_0, kgR_s, kst_nil, kst_0, kst_s, kNLl_nil, kNLl_i, kNLl_r, kNLl_n, ktag_i, ktag_r, List.length_cons, List.length_nil, List.take_succ_cons, List.take_zero, List.take_nil, List.nil_append, List.cons_append, decide_eq_true_eq, Bool.not_eq_true, Bool.not_eq_true', decide_eq_false_iff_not, ne_eq, Decidable.not_not, true_and, and_true, Nat.reduceAdd, Nat.reduceLeDiff, Nat.reduceEqDiff, Nat.le_refl, not_true_eq_false, not_false_eq_true, reduceIte, eq_self, Int.reduceNeg, Int.reduceEq, Int.reduceLT, Int.reduceLE, Nat.zero_le, Nat.one_ne_zero]
    exact told 1 s1 0 (fun _ => 0) k1 (Or.inl ⟨rfl, Or.inl hab⟩) (Or.inr ⟨rfl, Or.inl ⟨hab, rfl⟩⟩) hrg (by omega)
  · rw [kgO_some]
    simp only [wpS_skip, wpS_break, wpS_cont, wpS_retV, wpS_throw, wpS_seq, wpS_if, wpS_trunc, yS_let, yS_inc, kgK_i, kgK_r, kok_nil, kok_i0, kok_is, kok_r0, kok_rs, kok_n0, kok_ns, xS_put, xS_putOp, xS_ast0, xS_ast1, xS_astOp, wpS_E, wpS_call, wpS_callS, wpS_ret, kThen_N, kThen_B, kThen_C, kThen_R, kThen_T, kNext_N, kNext_C, kNext_B, kNext_R, wpE_K, wpE_KL, xE_I, xE_R, wpE_J, xE_bin, wpE_ladd, wpE_i2l, xE_get, xE_ald0, xE_ald1, wpE_if, xE_max, xE_min, wpE_len, wpA_nil, wpA_snoc, xE_call, xE_callS, xC_C, xC_L, xC_Z, wpC_and, wpC_or, wpC_not, wpC_if, kcmp_0, kcmp_1, kcmp_2, kcmp_3, kcmp_4, kcmp_5, rR_inj, kgO_some, kgO_add, kgO_sub, kgO_mul, kgO_div, kgO_rem, kgO_and, kvI_inl, kvJ_inl, kgI_0, kgI_s, kgR_0, kgR_s, kst_nil, kst_0, kst_s, kNLl_nil, kNLl_i, kNLl_r, kNLl_n, ktag_i, ktag_r, List.length_cons, List.length_nil, List.take_succ_cons, List.take_zero, List.take_nil, List.nil_append, List.cons_append, decide_eq_true_eq, Bool.not_eq_true, Bool.not_eq_true', decide_eq_false_iff_not, ne_eq, Decidable.not_not, true_and, and_true, Nat.reduceAdd, Nat.reduceLeDiff, Nat.reduceEqDiff, Nat.le_refl, not_true_eq_false, not_false_eq_true, reduceIte, eq_self, Int.reduceNeg, Int.reduceEq, Int.reduceLT, Int.reduceLE, Nat.zero_le, Nat.one_ne_zero]
    exact told 0 s1 rl rg k1 (Or.inr ⟨rfl, hab, hno⟩) (Or.inl ⟨rfl, rfl, rfl⟩) ⟨by rw [g1]; exact cG.1, fun k hk => by rw [g2]; exact cG.2 k hk⟩ hrl
  · rw [kgO_some]
    simp only [wpS_skip, wpS_break, wpS_cont, wpS_retV, wpS_throw, wpS_seq, wpS_if, wpS_trunc, yS_let, yS_inc, kgK_i, kgK_r, kok_nil, kok_i0, kok_is, kok_r0, kok_rs, kok_n0, kok_ns, xS_put, xS_putOp, xS_ast0, xS_ast1, xS_astOp, wpS_E, wpS_call, wpS_callS, wpS_ret, kThen_N, kThen_B, kThen_C, kThen_R, kThen_T, kNext_N, kNext_C, kNext_B, kNext_R, wpE_K, wpE_KL, xE_I, xE_R, wpE_J, xE_bin, wpE_ladd, wpE_i2l, xE_get, xE_ald0, xE_ald1, wpE_if, xE_max, xE_min, wpE_len, wpA_nil, wpA_snoc, xE_call, xE_callS, xC_C, xC_L, xC_Z, wpC_and, wpC_or, wpC_not, wpC_if, kcmp_0, kcmp_1, kcmp_2, kcmp_3, kcmp_4, kcmp_5, rR_inj, kgO_some, kgO_add, kgO_sub, kgO_mul, kgO_div, kgO_rem, kgO_and, kvI_inl, kvJ_inl, kgI_0, kgI_s, kgR_0, kgR_s, kst_nil, kst_0, kst_s, kNLl_nil, kNLl_i, kNLl_r, kNLl_n, ktag_i, ktag_r, List.length_cons, List.length_nil, List.take_succ_cons, List.take_zero, List.take_nil, List.nil_append, List.cons_append, decide_eq_true_eq, Bool.not_eq_true, Bool.not_eq_true', decide_eq_false_iff_not, ne_eq, Decidable.not_not, true_and, and_true, Nat.reduceAdd, Nat.reduceLeDiff, Nat.reduceEqDiff, Nat.le_refl, not_true_eq_false, not_false_eq_true, reduceIte, eq_self, Int.reduceNeg, Int.reduceEq, Int.reduceLT, Int.reduceLE, Nat.zero_le, Nat.one_ne_zero]
    exact told 1 s1 len rg' k1 (Or.inl ⟨rfl, Or.inr hyes⟩) (Or.inr ⟨rfl, Or.inr ⟨hab, hring⟩⟩) hrg (hlenb len rg' hring)
end AY
