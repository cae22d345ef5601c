/-! THE CLASS: an arc more; an arc less -/
section KA
variable {σ : kS} {n c ar st rl : Nat} {li fs sn lv od rt dp rg : Nat → Nat} {tr lo wt sp tk pa up : Nat → Int} {sf ss : Nat → Nat} {mv sx : Int} {S : Nat → Prop}
/-- what no change of the graph touches -/
def kpF (σ s : kS) : Prop := ∀ o k, isMd o ∨ o = 12 ∨ (54 ≤ o ∧ o ≤ 69) → s o k = σ o k
theorem oInv_put {a b : Nat} {fl : Int} (hG : gOk n c ar li fs sn) (hI : oInv n c li fs sn (lo, od)) (ha : a < n) (hb : b < n) (hfl : fl = 1 ∨ (fl = 0 ∧ a ≠ b ∧ ¬ rch (dE (fun y => th c li y ∧ lo y = 0) fs sn) b a)) :
    oInv n (c + 1) (adL c ar li) (adF ar a fs) (adF ar b sn) (adT ar fl lo, putOd n c ar li fs sn od lo a b fl) := by
  obtain ⟨o1, o2, o3⟩ := hI
  have o1 : prm n od (ivO n od) := o1
  have o2 : rsp (fun y => th c li y ∧ lo y = 0) fs sn (ivO n od) := o2
  obtain ⟨hO1, hO2⟩ := ord_ad (lo := lo) (a := a) (b := b) hG
  have hr' : rsp (fun y => th c li y ∧ lo y = 0) (adF ar a fs) (adF ar b sn) (ivO n od) := fun x hx => by
    have := th_lt_ar hG hx.1
    unfold adF
    rw [if_neg (by omega), if_neg (by omega)]
    exact o2 x hx
  have h01 : ∀ y, adT ar fl lo y = 0 ∨ adT ar fl lo y = 1 := fun y => by
    unfold adT
    split
    · rcases hfl with h | h
      · exact Or.inr h
      · exact Or.inl h.1
    · exact o3 y
  rcases hfl with rfl | ⟨rfl, hab, hno⟩
  · have e : putOd n c ar li fs sn od lo a b 1 = od := by unfold putOd; rw [if_neg (by decide)]
    rw [e]
    refine ⟨o1, ?_, h01⟩
    show rsp (fun y => th (c + 1) (adL c ar li) y ∧ adT ar 1 lo y = 0) _ _ _
    rw [hO1]
    exact hr'
  · have e : putOd n c ar li fs sn od lo a b 0 = reOd n (fun y => th c li y ∧ lo y = 0) (adF ar a fs) (adF ar b sn) od a b := by unfold putOd; rw [if_pos rfl]
    rw [e]
    obtain ⟨r1, r2, r3⟩ := reOd_ok (n := n) (a := a) (b := b) (O := fun y => th c li y ∧ lo y = 0) (fs := adF ar a fs) (sn := adF ar b sn) (od := od) o1 hr' (fun x hx => by
      have h1 := th_lt_ar hG hx.1
      obtain ⟨-, -, h3, h4⟩ := th_lt hG hx.1
      unfold adF
      rw [if_neg (by omega), if_neg (by omega)]
      exact ⟨h3, h4⟩) ha hb hab (by rw [hO2]; exact hno)
    refine ⟨r1, fun y hy => ?_, h01⟩
    obtain ⟨hy1, hy2⟩ := hy
    have hy2 : adT ar 0 lo y = 0 := hy2
    show ivO n (reOd n _ _ _ od a b) _ < ivO n (reOd n _ _ _ od a b) _
    by_cases e2 : y = ar
    · have ea : adF ar a fs y = a := by unfold adF; rw [if_pos e2]
      have eb : adF ar b sn y = b := by unfold adF; rw [if_pos e2]
      rw [ea, eb]
      exact r3
    · refine r2 y ⟨(th_ad.mp hy1).resolve_right e2, ?_⟩
      unfold adT at hy2
      rw [if_neg e2] at hy2
      exact hy2
theorem kpAddArc_ok {a b : Nat} {fl : Int} (hg : GO n c ar li fs sn lv od tr lo wt S) (hC : CR σ n c ar rl li fs sn lv od rt dp rg tr lo wt pa up mv sx S) (hc : c < 900) (har : ar < 5000) (ha : a < n) (hb : b < n) (hag : σ 1 5 < 2147483647)
    (hfl : fl = 1 ∨ (fl = 0 ∧ a ≠ b ∧ ¬ rch (dE (fun y => th c li y ∧ lo y = 0) fs sn) b a)) :
    wpF F_KP_addArc [.inr (.inl 0), .inl (a : Int), .inl (b : Int), .inl fl] σ (fun r s => r = some (.inl (ar : Int)) ∧ kpF σ s ∧ s 1 5 = σ 1 5 + 1 ∧
      ∃ S' rt' dp' pa' up', GO n (c + 1) (ar + 1) (adL c ar li) (adF ar a fs) (adF ar b sn) (adF ar 0 lv) (putOd n c ar li fs sn od lo a b fl) (adT ar (if rt a = rt b then 0 else 1) tr) (adT ar fl lo) wt S' ∧
      CR s n (c + 1) (ar + 1) rl (adL c ar li) (adF ar a fs) (adF ar b sn) (adF ar 0 lv) (putOd n c ar li fs sn od lo a b fl) rt' dp' rg (adT ar (if rt a = rt b then 0 else 1) tr) (adT ar fl lo) wt pa' up' (cntP (fun v => ¬ (S v ↔ S' v)) n : Int) sx S') := by
  obtain ⟨c0, c12, cW, cT, cL, cR, cG, ⟨rk, cC⟩, cS, ⟨a0, a1, a2, a3⟩, cSd, cTw, cSt⟩ := hC
  obtain ⟨hG, hHd, hLb, ht01, hI, hSet⟩ := id hg
  have hG' := gOk_add hG hc har ha hb
  obtain ⟨hO1, hO2⟩ := ord_ad (lo := lo) (a := a) (b := b) hG
  have hcong : ∀ x, th c li x → adF ar a fs x = fs x ∧ adF ar b sn x = sn x := fun x hx => by
    have := th_lt_ar hG hx
    unfold adF
    rw [if_neg (by omega), if_neg (by omega)]
    exact ⟨rfl, rfl⟩
  have ea : adF ar a fs ar = a := by unfold adF; rw [if_pos rfl]
  have eb : adF ar b sn ar = b := by unfold adF; rw [if_pos rfl]
  have hnx : ¬ th c li ar := fun h => absurd (th_lt_ar hG h) (Nat.lt_irrefl _)
  unfold F_KP_addArc
  rw [wpF_kF]
  refine ⟨rfl, rfl, ?_⟩
  unfold s_KP_addArc
  simp only [List.map_cons, List.map_nil]
  refine wpS_seq' (fun Q101 hQ101 => ?_)
  simp only [wpS_skip, wpS_break, wpS_cont, wpS_retV, wpS_throw, wpS_seq, wpS_if, wpS_trunc, yS_let, yS_inc, kgK_i, kgK_r, kok_nil, kok_i0, kok_is, kok_r0, kok_rs, kok_n0, kok_ns, xS_put, xS_putOp, xS_ast0, xS_ast1, xS_astOp, wpS_E, wpS_call, wpS_callS, wpS_ret, kThen_N, kThen_B, kThen_C, kThen_R, kThen_T, kNext_N, kNext_C, kNext_B, kNext_R, wpE_K, wpE_KL, xE_I, xE_R, wpE_J, xE_bin, wpE_ladd, wpE_i2l, xE_get, xE_ald0, xE_ald1, wpE_if, xE_max, xE_min, wpE_len, wpA_nil, wpA_snoc, xE_call, xE_callS, xC_C, xC_L, xC_Z, wpC_and, wpC_or, wpC_not, wpC_if, kcmp_0, kcmp_1, kcmp_2, kcmp_3, kcmp_4, kcmp_5, rR_inj, kgO_some, kgO_add, kgO_sub, kgO_mul, kgO_div, kgO_rem, kgO_and, kvI_inl, kvJ_inl, kgI_0, kgI_s, kgR_0, kgR_s, kst_nil, kst_0, kst_s, kNLl_nil, kNLl_i, kNLl_r, kNLl_n, ktag_i, ktag_r, List.length_cons, List.length_nil, List.take_succ_cons, List.take_zero, List.take_nil, List.nil_append, List.cons_append, decide_eq_true_eq, Bool.not_eq_true, Bool.not_eq_true', decide_eq_false_iff_not, ne_eq, Decidable.not_not, true_and, and_true, Nat.reduceAdd, Nat.reduceLeDiff, Nat.reduceEqDiff, Nat.le_refl, not_true_eq_false, not_false_eq_true, reduceIte, eq_self, Int.reduceNeg, Int.reduceEq, Int.reduceLT, Int.reduceLE, Nat.zero_le, Nat.one_ne_zero, ev_kp]
  refine ⟨rfl, ?_⟩
  refine (webAddArc_ok cW hG hc har ha hb ⟨a0, hag⟩).mono ?_
  rintro r s1 ⟨rfl, f1, e1, W1⟩
  have W1 : Wb s1 n (c + 1) (ar + 1) (adL c ar li) (adF ar a fs) (adF ar b sn) := W1
  rw [kgO_some]
  simp only [wpS_skip, wpS_break, wpS_cont, wpS_retV, wpS_throw, wpS_seq, wpS_if, wpS_trunc, yS_let, yS_inc, kgK_i, kgK_r, kok_nil, kok_i0, kok_is, kok_r0, kok_rs, kok_n0, kok_ns, xS_put, xS_putOp, xS_ast0, xS_ast1, xS_astOp, wpS_E, wpS_call, wpS_callS, wpS_ret, kThen_N, kThen_B, kThen_C, kThen_R, kThen_T, kNext_N, kNext_C, kNext_B, kNext_R, wpE_K, wpE_KL, xE_I, xE_R, wpE_J, xE_bin, wpE_ladd, wpE_i2l, xE_get, xE_ald0, xE_ald1, wpE_if, xE_max, xE_min, wpE_len, wpA_nil, wpA_snoc, xE_call, xE_callS, xC_C, xC_L, xC_Z, wpC_and, wpC_or, wpC_not, wpC_if, kcmp_0, kcmp_1, kcmp_2, kcmp_3, kcmp_4, kcmp_5, rR_inj, kgO_some, kgO_add, kgO_sub, kgO_mul, kgO_div, kgO_rem, kgO_and, kvI_inl, kvJ_inl, kgI_0, kgI_s, kgR_0, kgR_s, kst_nil, kst_0, kst_s, kNLl_nil, kNLl_i, kNLl_r, kNLl_n, ktag_i, ktag_r, List.length_cons, List.length_nil, List.take_succ_cons, List.take_zero, List.take_nil, List.nil_append, List.cons_append, decide_eq_true_eq, Bool.not_eq_true, Bool.not_eq_true', decide_eq_false_iff_not, ne_eq, Decidable.not_not, true_and, and_true, Nat.reduceAdd, Nat.reduceLeDiff, Nat.reduceEqDiff, Nat.le_refl, not_true_eq_false, not_false_eq_true, reduceIte, eq_self, Int.reduceNeg, Int.reduceEq, Int.reduceLT, Int.reduceLE, Nat.zero_le, Nat.one_ne_zero]
  rw [hQ101]
  clear hQ101
  refine kThen_N.mpr ?_
  refine wpS_seq' (fun Q102 hQ102 => ?_)
  simp only [wpS_skip, wpS_break, wpS_cont, wpS_retV, wpS_throw, wpS_seq, wpS_if, wpS_trunc, yS_let, yS_inc, kgK_i, kgK_r, kok_nil, kok_i0, kok_is, kok_r0, kok_rs, kok_n0, kok_ns, xS_put, xS_putOp, xS_ast0, xS_ast1, xS_astOp, wpS_E, wpS_call, wpS_callS, wpS_ret, kThen_N, kThen_B, kThen_C, kThen_R, kThen_T, kNext_N, kNext_C, kNext_B, kNext_R, wpE_K, wpE_KL, xE_I, xE_R, wpE_J, xE_bin, wpE_ladd, wpE_i2l, xE_get, xE_ald0, xE_ald1, wpE_if, xE_max, xE_min, wpE_len, wpA_nil, wpA_snoc, xE_call, xE_callS, xC_C, xC_L, xC_Z, wpC_and, wpC_or, wpC_not, wpC_if, kcmp_0, kcmp_1, kcmp_2, kcmp_3, kcmp_4, kcmp_5, rR_inj, kgO_some, kgO_add, kgO_sub, kgO_mul, kgO_div, kgO_rem, kgO_and, kvI_inl, kvJ_inl, kgI_0, kgI_s, kgR_0, kgR_s, kst_nil, kst_0, kst_s, kNLl_nil, kNLl_i, kNLl_r, kNLl_n, ktag_i, ktag_r, List.length_cons, List.length_nil, List.take_succ_cons, List.take_zero, List.take_nil, List.nil_append, List.cons_append, decide_eq_true_eq, Bool.not_eq_true, Bool.not_eq_true', decide_eq_false_iff_not, ne_eq, Decidable.not_not, true_and, and_true, Nat.reduceAdd, Nat.reduceLeDiff, Nat.reduceEqDiff, Nat.le_refl, not_true_eq_false, not_false_eq_true, reduceIte, eq_self, Int.reduceNeg, Int.reduceEq, Int.reduceLT, Int.reduceLE, Nat.zero_le, Nat.one_ne_zero, ev_kp]
  have Tb1 : Tb s1 lv tr := ⟨fun x => by rw [f1 _ _ (by unfold isWb; omega)]; exact cT.1.1 x, fun x => by rw [f1 _ _ (by unfold isWb; omega)]; exact cT.1.2 x⟩
  have Ht1 : Ht s1 n rt dp pa up := fun v hv => by
    rw [f1 _ _ (by unfold isWb; omega), f1 _ _ (by unfold isWb; omega), f1 _ _ (by unfold isWb; omega), f1 _ _ (by unfold isWb; omega)]
    exact cT.2.2.2.1 v hv
  refine ⟨rfl, ?_⟩
  refine (arcAdded_ok (W := th c li) hG' W1 (fun y => th_ad) hnx Tb1 ht01 (Hd_congr hcong hHd) Ht1 (FO_congr (fun x hx => hcong x hx.1) cT.2.2.2.2)).mono ?_
  rintro r s2 ⟨rfl, f2, rt', dp', pa', up', T2⟩
  rw [ea, eb] at T2
  have T2 : Trs s2 n (c + 1) (adL c ar li) (adF ar a fs) (adF ar b sn) (adF ar 0 lv) (adT ar (if rt a = rt b then 0 else 1) tr) rt' dp' pa' up' := T2
  refine ⟨rfl, ?_⟩
  rw [hQ102]
  clear hQ102
  refine kThen_N.mpr ?_
  refine wpS_seq' (fun Q103 hQ103 => ?_)
  simp only [wpS_skip, wpS_break, wpS_cont, wpS_retV, wpS_throw, wpS_seq, wpS_if, wpS_trunc, yS_let, yS_inc, kgK_i, kgK_r, kok_nil, kok_i0, kok_is, kok_r0, kok_rs, kok_n0, kok_ns, xS_put, xS_putOp, xS_ast0, xS_ast1, xS_astOp, wpS_E, wpS_call, wpS_callS, wpS_ret, kThen_N, kThen_B, kThen_C, kThen_R, kThen_T, kNext_N, kNext_C, kNext_B, kNext_R, wpE_K, wpE_KL, xE_I, xE_R, wpE_J, xE_bin, wpE_ladd, wpE_i2l, xE_get, xE_ald0, xE_ald1, wpE_if, xE_max, xE_min, wpE_len, wpA_nil, wpA_snoc, xE_call, xE_callS, xC_C, xC_L, xC_Z, wpC_and, wpC_or, wpC_not, wpC_if, kcmp_0, kcmp_1, kcmp_2, kcmp_3, kcmp_4, kcmp_5, rR_inj, kgO_some, kgO_add, kgO_sub, kgO_mul, kgO_div, kgO_rem, kgO_and, kvI_inl, kvJ_inl, kgI_0, kgI_s, kgR_0, kgR_s, kst_nil, kst_0, kst_s, kNLl_nil, kNLl_i, kNLl_r, kNLl_n, ktag_i, ktag_r, List.length_cons, List.length_nil, List.take_succ_cons, List.take_zero, List.take_nil, List.nil_append, List.cons_append, decide_eq_true_eq, Bool.not_eq_true, Bool.not_eq_true', decide_eq_false_iff_not, ne_eq, Decidable.not_not, true_and, and_true, Nat.reduceAdd, Nat.reduceLeDiff, Nat.reduceEqDiff, Nat.le_refl, not_true_eq_false, not_false_eq_true, reduceIte, eq_self, Int.reduceNeg, Int.reduceEq, Int.reduceLT, Int.reduceLE, Nat.zero_le, Nat.one_ne_zero, ev_kp]
  have W2 : Wb s2 n (c + 1) (ar + 1) (adL c ar li) (adF ar a fs) (adF ar b sn) := W1.agree (fun o k ho => by unfold isWb at ho; rw [f2 o k (by unfold isTr; omega) (by omega)])
  have R2 : Rw s2 n od := ⟨fun p hp => by rw [f2 _ _ (by unfold isTr; omega) (by decide), f1 _ _ (by unfold isWb; omega)]; exact cR.1 p hp, fun p hp => by rw [f2 _ _ (by unfold isTr; omega) (by decide), f1 _ _ (by unfold isWb; omega)]; exact cR.2.1 p hp, cR.2.2⟩
  have L2 : ∀ x, s2 33 x = lo x := fun x => by rw [f2 _ _ (by unfold isTr; omega) (by decide), f1 _ _ (by unfold isWb; omega)]; exact cL x
  have hr' : rsp (fun y => th c li y ∧ lo y = 0) (adF ar a fs) (adF ar b sn) (ivO n od) := fun x hx => by
    rw [(hcong x hx.1).1, (hcong x hx.1).2]
    exact hI.2.1 x hx
  refine ⟨rfl, ?_⟩
  refine (rowArcAdded_ok (x := ar) (fl := fl) (O := fun y => th c li y ∧ lo y = 0) hG' W2 L2 R2 har (th_ad.mpr (Or.inr rfl)) (fun y => ?_) hr' ?_).mono ?_
  · rw [th_ad]
    exact ⟨fun h => ⟨Or.inl h.1, h.2, fun e => hnx (e ▸ h.1)⟩, fun h => ⟨h.1.resolve_right h.2.2, h.2.1⟩⟩
  · rw [ea, eb, hO2]; exact hfl
  rintro r s3 ⟨rfl, f3, L3, R3⟩
  rw [ea, eb] at R3
  have R3 : Rw s3 n (putOd n c ar li fs sn od lo a b fl) := R3
  refine ⟨rfl, ?_⟩
  rw [hQ103]
  clear hQ103
  refine kThen_N.mpr ?_
  refine wpS_seq' (fun Q104 hQ104 => ?_)
  simp only [wpS_skip, wpS_break, wpS_cont, wpS_retV, wpS_throw, wpS_seq, wpS_if, wpS_trunc, yS_let, yS_inc, kgK_i, kgK_r, kok_nil, kok_i0, kok_is, kok_r0, kok_rs, kok_n0, kok_ns, xS_put, xS_putOp, xS_ast0, xS_ast1, xS_astOp, wpS_E, wpS_call, wpS_callS, wpS_ret, kThen_N, kThen_B, kThen_C, kThen_R, kThen_T, kNext_N, kNext_C, kNext_B, kNext_R, wpE_K, wpE_KL, xE_I, xE_R, wpE_J, xE_bin, wpE_ladd, wpE_i2l, xE_get, xE_ald0, xE_ald1, wpE_if, xE_max, xE_min, wpE_len, wpA_nil, wpA_snoc, xE_call, xE_callS, xC_C, xC_L, xC_Z, wpC_and, wpC_or, wpC_not, wpC_if, kcmp_0, kcmp_1, kcmp_2, kcmp_3, kcmp_4, kcmp_5, rR_inj, kgO_some, kgO_add, kgO_sub, kgO_mul, kgO_div, kgO_rem, kgO_and, kvI_inl, kvJ_inl, kgI_0, kgI_s, kgR_0, kgR_s, kst_nil, kst_0, kst_s, kNLl_nil, kNLl_i, kNLl_r, kNLl_n, ktag_i, ktag_r, List.length_cons, List.length_nil, List.take_succ_cons, List.take_zero, List.take_nil, List.nil_append, List.cons_append, decide_eq_true_eq, Bool.not_eq_true, Bool.not_eq_true', decide_eq_false_iff_not, ne_eq, Decidable.not_not, true_and, and_true, Nat.reduceAdd, Nat.reduceLeDiff, Nat.reduceEqDiff, Nat.le_refl, not_true_eq_false, not_false_eq_true, reduceIte, eq_self, Int.reduceNeg, Int.reduceEq, Int.reduceLT, Int.reduceLE, Nat.zero_le, Nat.one_ne_zero, ev_kp]
  have W3 : Wb s3 n (c + 1) (ar + 1) (adL c ar li) (adF ar a fs) (adF ar b sn) := W2.agree (fun o k ho => by unfold isWb at ho; rw [f3 o k (by omega)])
  have f03 : ∀ o k, ¬ isWb o → ¬ isTr o → o ≠ 29 → ¬ (33 ≤ o ∧ o ≤ 39) → s3 o k = σ o k := fun o k h1 h2 h3 h4 => by rw [f3 o k h4, f2 o k h2 h3, f1 o k h1]
  have C3 : Chn s3 n wt rk := ⟨fun v => by rw [f03 _ _ (by unfold isWb; omega) (by unfold isTr; omega) (by decide) (by decide)]; exact cC.1 v, fun i hi => by rw [f03 _ _ (by unfold isWb; omega) (by unfold isTr; omega) (by decide) (by decide)]; exact cC.2.1 i hi, cC.2.2⟩
  have S3 : inC s3 n S := fun v hv => by rw [f03 _ _ (by unfold isWb; omega) (by unfold isTr; omega) (by decide) (by decide)]; exact cS v hv
  refine ⟨rfl, ?_⟩
  refine (chArcChanged_ok hG' W3 C3 S3 ha hb hSet (fun u v hne => ?_)).mono ?_
  · unfold nbr
    refine and_congr Iff.rfl ⟨?_, ?_⟩
    · rintro ⟨x, hx, q⟩
      rcases th_ad.mp hx with hx | rfl
      · rw [(hcong x hx).1, (hcong x hx).2] at q
        exact ⟨x, hx, q⟩
      · rw [ea, eb] at q
        rcases q with q | q
        · exact absurd (Or.inl ⟨q.1.symm, q.2.symm⟩) hne
        · exact absurd (Or.inr ⟨q.1.symm, q.2.symm⟩) hne
    · rintro ⟨x, hx, q⟩
      refine ⟨x, th_ad.mpr (Or.inl hx), ?_⟩
      rw [(hcong x hx).1, (hcong x hx).2]
      exact q
  rintro r s4 ⟨f4, S', hS4, hI4, rfl⟩
  rw [kgO_some]
  simp only [wpS_skip, wpS_break, wpS_cont, wpS_retV, wpS_throw, wpS_seq, wpS_if, wpS_trunc, yS_let, yS_inc, kgK_i, kgK_r, kok_nil, kok_i0, kok_is, kok_r0, kok_rs, kok_n0, kok_ns, xS_put, xS_putOp, xS_ast0, xS_ast1, xS_astOp, wpS_E, wpS_call, wpS_callS, wpS_ret, kThen_N, kThen_B, kThen_C, kThen_R, kThen_T, kNext_N, kNext_C, kNext_B, kNext_R, wpE_K, wpE_KL, xE_I, xE_R, wpE_J, xE_bin, wpE_ladd, wpE_i2l, xE_get, xE_ald0, xE_ald1, wpE_if, xE_max, xE_min, wpE_len, wpA_nil, wpA_snoc, xE_call, xE_callS, xC_C, xC_L, xC_Z, wpC_and, wpC_or, wpC_not, wpC_if, kcmp_0, kcmp_1, kcmp_2, kcmp_3, kcmp_4, kcmp_5, rR_inj, kgO_some, kgO_add, kgO_sub, kgO_mul, kgO_div, kgO_rem, kgO_and, kvI_inl, kvJ_inl, kgI_0, kgI_s, kgR_0, kgR_s, kst_nil, kst_0, kst_s, kNLl_nil, kNLl_i, kNLl_r, kNLl_n, ktag_i, ktag_r, List.length_cons, List.length_nil, List.take_succ_cons, List.take_zero, List.take_nil, List.nil_append, List.cons_append, decide_eq_true_eq, Bool.not_eq_true, Bool.not_eq_true', decide_eq_false_iff_not, ne_eq, Decidable.not_not, true_and, and_true, Nat.reduceAdd, Nat.reduceLeDiff, Nat.reduceEqDiff, Nat.le_refl, not_true_eq_false, not_false_eq_true, reduceIte, eq_self, Int.reduceNeg, Int.reduceEq, Int.reduceLT, Int.reduceLE, Nat.zero_le, Nat.one_ne_zero, ev_kp]
  rw [hQ104]
  clear hQ104
  refine kThen_N.mpr ?_
  refine wpS_gen (fun Q1 hQ1 => ?_)
  simp only [wpS_skip, wpS_break, wpS_cont, wpS_retV, wpS_throw, wpS_seq, wpS_if, wpS_trunc, yS_let, yS_inc, kgK_i, kgK_r, kok_nil, kok_i0, kok_is, kok_r0, kok_rs, kok_n0, kok_ns, xS_put, xS_putOp, xS_ast0, xS_ast1, xS_astOp, wpS_E, wpS_call, wpS_callS, wpS_ret, kThen_N, kThen_B, kThen_C, kThen_R, kThen_T, kNext_N, kNext_C, kNext_B, kNext_R, wpE_K, wpE_KL, xE_I, xE_R, wpE_J, xE_bin, wpE_ladd, wpE_i2l, xE_get, xE_ald0, xE_ald1, wpE_if, xE_max, xE_min, wpE_len, wpA_nil, wpA_snoc, xE_call, xE_callS, xC_C, xC_L, xC_Z, wpC_and, wpC_or, wpC_not, wpC_if, kcmp_0, kcmp_1, kcmp_2, kcmp_3, kcmp_4, kcmp_5, rR_inj, kgO_some, kgO_add, kgO_sub, kgO_mul, kgO_div, kgO_rem, kgO_and, kvI_inl, kvJ_inl, kgI_0, kgI_s, kgR_0, kgR_s, kst_nil, kst_0, kst_s, kNLl_nil, kNLl_i, kNLl_r, kNLl_n, ktag_i, ktag_r, List.length_cons, List.length_nil, List.take_succ_cons, List.take_zero, List.take_nil, List.nil_append, List.cons_append, decide_eq_true_eq, Bool.not_eq_true, Bool.not_eq_true', decide_eq_false_iff_not, ne_eq, Decidable.not_not, true_and, and_true, Nat.reduceAdd, Nat.reduceLeDiff, Nat.reduceEqDiff, Nat.le_refl, not_true_eq_false, not_false_eq_true, reduceIte, eq_self, Int.reduceNeg, Int.reduceEq, Int.reduceLT, Int.reduceLE, Nat.zero_le, Nat.one_ne_zero]
  rw [hQ1]
  obtain ⟨s5, hs5⟩ : ∃ s5, s5 = kup s4 0 12 (cntP (fun v => ¬ (S v ↔ S' v)) n : Int) := ⟨_, rfl⟩
  rw [← hs5]
  have f5 : ∀ o k, (o ≠ 0 ∨ k ≠ 12) → s5 o k = s4 o k := fun o k h => by rw [hs5, kup_other h]
  have f05 : ∀ o k, ¬ isWb o → ¬ isTr o → o ≠ 29 → ¬ (33 ≤ o ∧ o ≤ 39) → o ≠ 53 → (o ≠ 0 ∨ k ≠ 12) → s5 o k = σ o k := fun o k h1 h2 h3 h4 h5 h6 => by rw [f5 o k h6, f4 o k h5, f03 o k h1 h2 h3 h4]
  have hag5 : s5 1 5 = σ 1 5 + 1 := by rw [f5 _ _ (by decide), f4 _ _ (by decide), f3 _ _ (by decide), f2 _ _ (by unfold isTr; omega) (by decide)]; exact e1
  have W5 : Wb s5 n (c + 1) (ar + 1) (adL c ar li) (adF ar a fs) (adF ar b sn) := W3.agree (fun o k ho => by unfold isWb at ho; rw [f5 o k (by omega), f4 o k (by omega)])
  have T5 := T2.agree (s' := s5) (fun o k ho => by unfold isTr at ho; rw [f5 o k (by omega), f4 o k (by omega), f3 o k (by omega)])
  have g63 : s5 6 3 = σ 6 3 := f05 _ _ (by unfold isWb; omega) (by unfold isTr; omega) (by decide) (by decide) (by decide) (by decide)
  have g86 : s5 8 6 = σ 8 6 := f05 _ _ (by unfold isWb; omega) (by unfold isTr; omega) (by decide) (by decide) (by decide) (by decide)
  have g98 : s5 9 8 = σ 9 8 := f05 _ _ (by unfold isWb; omega) (by unfold isTr; omega) (by decide) (by decide) (by decide) (by decide)
  refine ⟨_, rfl, rfl, rfl, fun o k h => ?_, hag5, S', rt', dp', pa', up', ⟨hG', T5.2.2.1, fun x hx => ?_, T5.2.1, oInv_put hG hI ha hb hfl, hI4⟩, ?_, ?_, W5, T5, fun x => ?_, ?_, ?_, ⟨rk, ?_⟩, ?_, ⟨by omega, by omega, by omega, by omega⟩, ⟨by omega, fun h => ?_⟩, ⟨by omega, fun h => ?_⟩, ⟨by omega, fun h => ?_⟩⟩
  · unfold isMd at h
    exact f05 o k (by unfold isWb; omega) (by unfold isTr; omega) (by omega) (by omega) (by omega) (by omega)
  · unfold adF
    rcases th_ad.mp hx with hx | rfl
    · rw [if_neg (by have := th_lt_ar hG hx; omega)]; exact hLb x hx
    · rw [if_pos rfl]; show 1 ≤ n; omega
  · rw [f05 _ _ (by unfold isWb; omega) (by unfold isTr; omega) (by decide) (by decide) (by decide) (by decide)]; exact c0
  · rw [hs5, kup_eq, if_pos rfl]
  · rw [f5 _ _ (Or.inl (by decide)), f4 _ _ (by decide)]; exact L3 x
  · exact ⟨fun p hp => by rw [f5 _ _ (Or.inl (by decide)), f4 _ _ (by decide)]; exact R3.1 p hp, fun p hp => by rw [f5 _ _ (Or.inl (by decide)), f4 _ _ (by decide)]; exact R3.2.1 p hp, R3.2.2⟩
  · exact ⟨by rw [f05 _ _ (by unfold isWb; omega) (by unfold isTr; omega) (by decide) (by decide) (by decide) (by decide)]; exact cG.1, fun k hk => by rw [f05 _ _ (by unfold isWb; omega) (by unfold isTr; omega) (by decide) (by decide) (by decide) (Or.inl (by decide))]; exact cG.2 k hk⟩
  · exact ⟨fun v => by rw [f5 _ _ (Or.inl (by decide)), f4 _ _ (by decide)]; exact C3.1 v, fun i hi => by rw [f5 _ _ (Or.inl (by decide)), f4 _ _ (by decide)]; exact C3.2.1 i hi, C3.2.2⟩
  · intro v hv
    rw [f5 _ _ (Or.inl (by decide))]
    exact hS4 v hv
  · omega
  · omega
  · omega
end KA
