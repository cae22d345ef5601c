/-! THE CLASS'S STATE AS A WHOLE; a node or an arc more -/
section KS
variable {σ : kS} {n c ar st rl : Nat} {li fs sn lv od rt dp rg : Nat → Nat} {tr lo wt sp tk pa up : Nat → Int} {sf ss : Nat → Nat} {mv sx : Int} {S : Nat → Prop}
/-- what holds of the graph -/
def GO (n c ar : Nat) (li fs sn lv od : Nat → Nat) (tr lo wt : Nat → Int) (S : Nat → Prop) : Prop := gOk n c ar li fs sn ∧ Hd n (th c li) fs sn lv tr ∧ Lb n (th c li) lv ∧ (∀ x, tr x = 0 ∨ tr x = 1) ∧ oInv n c li fs sn (lo, od) ∧ isSet n (nbr (th c li) fs sn) wt S
def isMd (o : Nat) : Prop := o = 14 ∨ 70 ≤ o
def CR (s : kS) (n c ar rl : Nat) (li fs sn lv od rt dp rg : Nat → Nat) (tr lo wt pa up : Nat → Int) (mv sx : Int) (S : Nat → Prop) : Prop :=
  s 0 0 = sx ∧ s 0 12 = mv ∧ Wb s n c ar li fs sn ∧ Trs s n c li fs sn lv tr rt dp pa up ∧ (∀ x, s 33 x = lo x) ∧ Rw s n od ∧ rgC s rl rg ∧ (∃ rk, Chn s n wt rk) ∧ inC s n S ∧ (0 ≤ s 1 5 ∧ s 6 3 ≤ s 1 5 ∧ s 8 6 ≤ s 1 5 ∧ s 9 8 ≤ s 1 5) ∧
  Csd s n (nbr (th c li) fs sn) ∧ TwS s n c li fs sn dp tr pa ∧ StS s n c li fs sn
theorem uE_congr {O : Nat → Prop} {fs sn fs' sn' : Nat → Nat} (h : ∀ x, O x → fs' x = fs x ∧ sn' x = sn x) : uE O fs' sn' = uE O fs sn := by
  funext u v
  refine propext ⟨?_, ?_⟩
  · rintro ⟨x, hx, q⟩
    rw [(h x hx).1, (h x hx).2] at q
    exact ⟨x, hx, q⟩
  · rintro ⟨x, hx, q⟩
    rw [← (h x hx).1, ← (h x hx).2] at q
    exact ⟨x, hx, q⟩
theorem Hd_congr {W : Nat → Prop} {fs' sn' : Nat → Nat} (h : ∀ x, W x → fs' x = fs x ∧ sn' x = sn x) (hH : Hd n W fs sn lv tr) : Hd n W fs' sn' lv tr := by
  obtain ⟨h1, h2, h3⟩ := hH
  have e : ∀ i, sd W fs' sn' lv tr i = sd W fs sn lv tr i := fun i => by
    funext u v
    unfold sd
    rw [uE_congr (fun x hx => h x hx.1)]
  refine ⟨fun x hx hr => ?_, fun x hx => ?_, fun i x hx hA => ?_⟩
  · rw [uE_congr (fun y hy => h y hy.1.1), (h x hx.1).1, (h x hx.1).2] at hr
    exact h1 x hx hr
  · rw [e, (h x hx).1, (h x hx).2]; exact h2 x hx
  · rw [e, (h x hx).1]; exact h3 i x hx hA
theorem FO_congr {A : Nat → Prop} {fs' sn' : Nat → Nat} (h : ∀ x, A x → fs' x = fs x ∧ sn' x = sn x) (hF : FO n A fs sn rt dp pa up) : FO n A fs' sn' rt dp pa up := by
  obtain ⟨⟨h1, h2⟩, h3⟩ := hF
  refine ⟨⟨fun v hv => ?_, fun x hx => ?_⟩, h3⟩
  · obtain ⟨q1, q2, q3⟩ := h1 v hv
    refine ⟨q1, q2, q3.imp id (fun ⟨w1, x, p, w2, w3, w4, w5, w6, w7, w8⟩ => ⟨w1, x, p, w2, w3, w4, w5, w6, w7, ?_⟩)⟩
    rw [(h x w2).1, (h x w2).2]; exact w8
  · rw [(h x hx).1, (h x hx).2]; exact h2 x hx
theorem nbr_congr {W : Nat → Prop} {fs' sn' : Nat → Nat} (h : ∀ x, W x → fs' x = fs x ∧ sn' x = sn x) : nbr W fs' sn' = nbr W fs sn := by
  funext u v
  unfold nbr
  rw [uE_congr h]
theorem GO_node {w : Int} {tr' : Nat → Int} (hg : GO n c ar li fs sn lv od tr lo wt S) (hn : n < 300) (hH' : Hd (n + 1) (th c li) fs sn lv tr) : GO (n + 1) c ar li fs sn lv (nodOd n od) tr lo (fun v => if v = n then w else wt v) (fun v => v = n ∨ S v) := by
  obtain ⟨⟨g1, g2, g3, g4, g5⟩, h2, h3, h4, ⟨o1, o2, o3⟩, h6⟩ := hg
  obtain ⟨p1, p2, p3⟩ := prm_node o1
  have hnb : ∀ u v, nbr (th c li) fs sn u v → u < n ∧ v < n := by
    rintro u v ⟨-, x, ⟨k, hk, rfl⟩, q⟩
    have := g4 k hk
    omega
  refine ⟨⟨by omega, g2, g3, fun k hk => by have := g4 k hk; omega, g5⟩, hH', fun x hx => by have := h3 x hx; omega, h4, ⟨p1, fun x hx => ?_, o3⟩, fun v hv => ?_⟩
  · obtain ⟨⟨k, hk, rfl⟩, -⟩ := id hx
    have := g4 k hk
    rw [p2 _ this.2.1, p2 _ this.2.2]
    exact o2 _ hx
  · by_cases e : v = n
    · subst e
      refine ⟨fun _ u _ hN => ?_, fun _ => Or.inl rfl⟩
      have := hnb u v hN
      omega
    · have hv' : v < n := by omega
      show (v = n ∨ S v) ↔ _
      rw [or_iff_right e, h6 v hv']
      constructor
      · intro h u hu hN ha
        have hun := (hnb u v hN).1
        unfold ahd at ha
        simp only [if_neg (show u ≠ n by omega), if_neg e] at ha
        exact fun q => h u hun hN ha (q.resolve_left (by omega))
      · intro h u hu hN ha q
        refine h u (by omega) hN ?_ (Or.inr q)
        unfold ahd
        simp only [if_neg (show u ≠ n by omega), if_neg e]
        exact ha
theorem kpAddNode_ok {w : Int} (hg : GO n c ar li fs sn lv od tr lo wt S) (hC : CR σ n c ar rl li fs sn lv od rt dp rg tr lo wt pa up mv sx S) (hn : n < 300) (hag : σ 1 5 < 2147483647) :
    wpF F_KP_addNode [.inr (.inl 0), .inl w] σ (fun r s => r = some (.inl (n : Int)) ∧ (∀ o k, isMd o ∨ o = 12 ∨ (54 ≤ o ∧ o ≤ 69) → s o k = σ o k) ∧ s 1 5 = σ 1 5 + 1 ∧
      GO (n + 1) c ar li fs sn lv (nodOd n od) tr lo (fun v => if v = n then w else wt v) (fun v => v = n ∨ S v) ∧
      ∃ rt' dp' pa' up', CR s (n + 1) c ar rl li fs sn lv (nodOd n od) rt' dp' rg tr lo (fun v => if v = n then w else wt v) pa' up' mv sx (fun v => v = n ∨ S v)) := by
  obtain ⟨c0, c12, cW, cT, cL, cR, cG, ⟨rk, cC⟩, cS, ⟨a0, a1, a2, a3⟩, cSd, cTw, cSt⟩ := hC
  have hG := hg.1
  unfold F_KP_addNode
  rw [wpF_kF]
  refine ⟨rfl, rfl, ?_⟩
  unfold s_KP_addNode
  simp only [List.map_cons, List.map_nil]
  refine wpS_seq' (fun Q101 hQ101 => ?_)
  simp only [wpS_skip, wpS_break, wpS_cont, wpS_retV, wpS_throw, wpS_seq, wpS_if, wpS_trunc, yS_let, yS_inc, kgK_i, kgK_r, kok_nil, kok_i0, kok_is, kok_r0, kok_rs, kok_n0, kok_ns, xS_put, xS_putOp, xS_ast0, xS_ast1, xS_astOp, wpS_E, wpS_call, wpS_callS, wpS_ret, kThen_N, kThen_B, kThen_C, kThen_R, kThen_T, kNext_N, kNext_C, kNext_B, kNext_R, wpE_K, wpE_KL, xE_I, xE_R, wpE_J, xE_bin, wpE_ladd, wpE_i2l, xE_get, xE_ald0, xE_ald1, wpE_if, xE_max, xE_min, wpE_len, wpA_nil, wpA_snoc, xE_call, xE_callS, xC_C, xC_L, xC_Z, wpC_and, wpC_or, wpC_not, wpC_if, kcmp_0, kcmp_1, kcmp_2, kcmp_3, kcmp_4, kcmp_5, rR_inj, kgO_some, kgO_add, kgO_sub, kgO_mul, kgO_div, kgO_rem, kgO_and, kvI_inl, kvJ_inl, kgI_0, kgI_s, kgR_0, kgR_s, kst_nil, kst_0, kst_s, kNLl_nil, kNLl_i, kNLl_r, kNLl_n, ktag_i, ktag_r, List.length_cons, List.length_nil, List.take_succ_cons, List.take_zero, List.take_nil, List.nil_append, List.cons_append, decide_eq_true_eq, Bool.not_eq_true, Bool.not_eq_true', decide_eq_false_iff_not, ne_eq, Decidable.not_not, true_and, and_true, Nat.reduceAdd, Nat.reduceLeDiff, Nat.reduceEqDiff, Nat.le_refl, not_true_eq_false, not_false_eq_true, reduceIte, eq_self, Int.reduceNeg, Int.reduceEq, Int.reduceLT, Int.reduceLE, Nat.zero_le, Nat.one_ne_zero, ev_kp]
  refine ⟨rfl, ?_⟩
  refine (webAddNode_ok cW hn hG.2.1 ⟨a0, hag⟩).mono ?_
  rintro r s1 ⟨rfl, f1, e1, W1⟩
  rw [kgO_some]
  simp only [wpS_skip, wpS_break, wpS_cont, wpS_retV, wpS_throw, wpS_seq, wpS_if, wpS_trunc, yS_let, yS_inc, kgK_i, kgK_r, kok_nil, kok_i0, kok_is, kok_r0, kok_rs, kok_n0, kok_ns, xS_put, xS_putOp, xS_ast0, xS_ast1, xS_astOp, wpS_E, wpS_call, wpS_callS, wpS_ret, kThen_N, kThen_B, kThen_C, kThen_R, kThen_T, kNext_N, kNext_C, kNext_B, kNext_R, wpE_K, wpE_KL, xE_I, xE_R, wpE_J, xE_bin, wpE_ladd, wpE_i2l, xE_get, xE_ald0, xE_ald1, wpE_if, xE_max, xE_min, wpE_len, wpA_nil, wpA_snoc, xE_call, xE_callS, xC_C, xC_L, xC_Z, wpC_and, wpC_or, wpC_not, wpC_if, kcmp_0, kcmp_1, kcmp_2, kcmp_3, kcmp_4, kcmp_5, rR_inj, kgO_some, kgO_add, kgO_sub, kgO_mul, kgO_div, kgO_rem, kgO_and, kvI_inl, kvJ_inl, kgI_0, kgI_s, kgR_0, kgR_s, kst_nil, kst_0, kst_s, kNLl_nil, kNLl_i, kNLl_r, kNLl_n, ktag_i, ktag_r, List.length_cons, List.length_nil, List.take_succ_cons, List.take_zero, List.take_nil, List.nil_append, List.cons_append, decide_eq_true_eq, Bool.not_eq_true, Bool.not_eq_true', decide_eq_false_iff_not, ne_eq, Decidable.not_not, true_and, and_true, Nat.reduceAdd, Nat.reduceLeDiff, Nat.reduceEqDiff, Nat.le_refl, not_true_eq_false, not_false_eq_true, reduceIte, eq_self, Int.reduceNeg, Int.reduceEq, Int.reduceLT, Int.reduceLE, Nat.zero_le, Nat.one_ne_zero]
  rw [hQ101]
  clear hQ101
  refine kThen_N.mpr ?_
  refine wpS_seq' (fun Q102 hQ102 => ?_)
  simp only [wpS_skip, wpS_break, wpS_cont, wpS_retV, wpS_throw, wpS_seq, wpS_if, wpS_trunc, yS_let, yS_inc, kgK_i, kgK_r, kok_nil, kok_i0, kok_is, kok_r0, kok_rs, kok_n0, kok_ns, xS_put, xS_putOp, xS_ast0, xS_ast1, xS_astOp, wpS_E, wpS_call, wpS_callS, wpS_ret, kThen_N, kThen_B, kThen_C, kThen_R, kThen_T, kNext_N, kNext_C, kNext_B, kNext_R, wpE_K, wpE_KL, xE_I, xE_R, wpE_J, xE_bin, wpE_ladd, wpE_i2l, xE_get, xE_ald0, xE_ald1, wpE_if, xE_max, xE_min, wpE_len, wpA_nil, wpA_snoc, xE_call, xE_callS, xC_C, xC_L, xC_Z, wpC_and, wpC_or, wpC_not, wpC_if, kcmp_0, kcmp_1, kcmp_2, kcmp_3, kcmp_4, kcmp_5, rR_inj, kgO_some, kgO_add, kgO_sub, kgO_mul, kgO_div, kgO_rem, kgO_and, kvI_inl, kvJ_inl, kgI_0, kgI_s, kgR_0, kgR_s, kst_nil, kst_0, kst_s, kNLl_nil, kNLl_i, kNLl_r, kNLl_n, ktag_i, ktag_r, List.length_cons, List.length_nil, List.take_succ_cons, List.take_zero, List.take_nil, List.nil_append, List.cons_append, decide_eq_true_eq, Bool.not_eq_true, Bool.not_eq_true', decide_eq_false_iff_not, ne_eq, Decidable.not_not, true_and, and_true, Nat.reduceAdd, Nat.reduceLeDiff, Nat.reduceEqDiff, Nat.le_refl, not_true_eq_false, not_false_eq_true, reduceIte, eq_self, Int.reduceNeg, Int.reduceEq, Int.reduceLT, Int.reduceLE, Nat.zero_le, Nat.one_ne_zero, ev_kp]
  have T1 : Trs s1 n c li fs sn lv tr rt dp pa up := cT.agree (fun o k ho => f1 o k (by unfold isTr at ho; unfold isWb; omega))
  refine ⟨rfl, ?_⟩
  refine (nodeAdded_ok hG hn W1 T1).mono ?_
  rintro r s2 ⟨rfl, f2, T2⟩
  refine ⟨rfl, ?_⟩
  rw [hQ102]
  clear hQ102
  refine kThen_N.mpr ?_
  refine wpS_seq' (fun Q103 hQ103 => ?_)
  simp only [wpS_skip, wpS_break, wpS_cont, wpS_retV, wpS_throw, wpS_seq, wpS_if, wpS_trunc, yS_let, yS_inc, kgK_i, kgK_r, kok_nil, kok_i0, kok_is, kok_r0, kok_rs, kok_n0, kok_ns, xS_put, xS_putOp, xS_ast0, xS_ast1, xS_astOp, wpS_E, wpS_call, wpS_callS, wpS_ret, kThen_N, kThen_B, kThen_C, kThen_R, kThen_T, kNext_N, kNext_C, kNext_B, kNext_R, wpE_K, wpE_KL, xE_I, xE_R, wpE_J, xE_bin, wpE_ladd, wpE_i2l, xE_get, xE_ald0, xE_ald1, wpE_if, xE_max, xE_min, wpE_len, wpA_nil, wpA_snoc, xE_call, xE_callS, xC_C, xC_L, xC_Z, wpC_and, wpC_or, wpC_not, wpC_if, kcmp_0, kcmp_1, kcmp_2, kcmp_3, kcmp_4, kcmp_5, rR_inj, kgO_some, kgO_add, kgO_sub, kgO_mul, kgO_div, kgO_rem, kgO_and, kvI_inl, kvJ_inl, kgI_0, kgI_s, kgR_0, kgR_s, kst_nil, kst_0, kst_s, kNLl_nil, kNLl_i, kNLl_r, kNLl_n, ktag_i, ktag_r, List.length_cons, List.length_nil, List.take_succ_cons, List.take_zero, List.take_nil, List.nil_append, List.cons_append, decide_eq_true_eq, Bool.not_eq_true, Bool.not_eq_true', decide_eq_false_iff_not, ne_eq, Decidable.not_not, true_and, and_true, Nat.reduceAdd, Nat.reduceLeDiff, Nat.reduceEqDiff, Nat.le_refl, not_true_eq_false, not_false_eq_true, reduceIte, eq_self, Int.reduceNeg, Int.reduceEq, Int.reduceLT, Int.reduceLE, Nat.zero_le, Nat.one_ne_zero, ev_kp]
  have R2 : Rw s2 n od := ⟨fun p hp => by rw [f2 _ _ (by unfold isTr; omega) (by decide), f1 _ _ (by unfold isWb; omega)]; exact cR.1 p hp, fun p hp => by rw [f2 _ _ (by unfold isTr; omega) (by decide), f1 _ _ (by unfold isWb; omega)]; exact cR.2.1 p hp, cR.2.2⟩
  refine ⟨rfl, ?_⟩
  refine (rowNodeAdded_ok hn R2).mono ?_
  rintro r s3 ⟨rfl, f3, R3⟩
  refine ⟨rfl, ?_⟩
  rw [hQ103]
  clear hQ103
  refine kThen_N.mpr ?_
  refine wpS_seq' (fun Q104 hQ104 => ?_)
  simp only [wpS_skip, wpS_break, wpS_cont, wpS_retV, wpS_throw, wpS_seq, wpS_if, wpS_trunc, yS_let, yS_inc, kgK_i, kgK_r, kok_nil, kok_i0, kok_is, kok_r0, kok_rs, kok_n0, kok_ns, xS_put, xS_putOp, xS_ast0, xS_ast1, xS_astOp, wpS_E, wpS_call, wpS_callS, wpS_ret, kThen_N, kThen_B, kThen_C, kThen_R, kThen_T, kNext_N, kNext_C, kNext_B, kNext_R, wpE_K, wpE_KL, xE_I, xE_R, wpE_J, xE_bin, wpE_ladd, wpE_i2l, xE_get, xE_ald0, xE_ald1, wpE_if, xE_max, xE_min, wpE_len, wpA_nil, wpA_snoc, xE_call, xE_callS, xC_C, xC_L, xC_Z, wpC_and, wpC_or, wpC_not, wpC_if, kcmp_0, kcmp_1, kcmp_2, kcmp_3, kcmp_4, kcmp_5, rR_inj, kgO_some, kgO_add, kgO_sub, kgO_mul, kgO_div, kgO_rem, kgO_and, kvI_inl, kvJ_inl, kgI_0, kgI_s, kgR_0, kgR_s, kst_nil, kst_0, kst_s, kNLl_nil, kNLl_i, kNLl_r, kNLl_n, ktag_i, ktag_r, List.length_cons, List.length_nil, List.take_succ_cons, List.take_zero, List.take_nil, List.nil_append, List.cons_append, decide_eq_true_eq, Bool.not_eq_true, Bool.not_eq_true', decide_eq_false_iff_not, ne_eq, Decidable.not_not, true_and, and_true, Nat.reduceAdd, Nat.reduceLeDiff, Nat.reduceEqDiff, Nat.le_refl, not_true_eq_false, not_false_eq_true, reduceIte, eq_self, Int.reduceNeg, Int.reduceEq, Int.reduceLT, Int.reduceLE, Nat.zero_le, Nat.one_ne_zero, ev_kp]
  have f03 : ∀ o k, ¬ isWb o → ¬ isTr o → o ≠ 29 → o ≠ 34 → o ≠ 35 → s3 o k = σ o k := fun o k h1 h2 h3 h4 h5 => by rw [f3 o k h4 h5, f2 o k h2 h3, f1 o k h1]
  have C3 : Chn s3 n wt rk := ⟨fun v => by rw [f03 _ _ (by unfold isWb; omega) (by unfold isTr; omega) (by decide) (by decide) (by decide)]; exact cC.1 v, fun i hi => by rw [f03 _ _ (by unfold isWb; omega) (by unfold isTr; omega) (by decide) (by decide) (by decide)]; exact cC.2.1 i hi, cC.2.2⟩
  have S3 : inC s3 n S := fun v hv => by rw [f03 _ _ (by unfold isWb; omega) (by unfold isTr; omega) (by decide) (by decide) (by decide)]; exact cS v hv
  refine ⟨rfl, ?_⟩
  refine (chNodeAdded_ok hn C3 S3).mono ?_
  rintro r s4 ⟨rfl, f4, rk', C4, S4⟩
  refine ⟨rfl, ?_⟩
  rw [hQ104]
  clear hQ104
  refine kThen_N.mpr ?_
  refine wpS_gen (fun Q1 hQ1 => ?_)
  simp only [wpS_skip, wpS_break, wpS_cont, wpS_retV, wpS_throw, wpS_seq, wpS_if, wpS_trunc, yS_let, yS_inc, kgK_i, kgK_r, kok_nil, kok_i0, kok_is, kok_r0, kok_rs, kok_n0, kok_ns, xS_put, xS_putOp, xS_ast0, xS_ast1, xS_astOp, wpS_E, wpS_call, wpS_callS, wpS_ret, kThen_N, kThen_B, kThen_C, kThen_R, kThen_T, kNext_N, kNext_C, kNext_B, kNext_R, wpE_K, wpE_KL, xE_I, xE_R, wpE_J, xE_bin, wpE_ladd, wpE_i2l, xE_get, xE_ald0, xE_ald1, wpE_if, xE_max, xE_min, wpE_len, wpA_nil, wpA_snoc, xE_call, xE_callS, xC_C, xC_L, xC_Z, wpC_and, wpC_or, wpC_not, wpC_if, kcmp_0, kcmp_1, kcmp_2, kcmp_3, kcmp_4, kcmp_5, rR_inj, kgO_some, kgO_add, kgO_sub, kgO_mul, kgO_div, kgO_rem, kgO_and, kvI_inl, kvJ_inl, kgI_0, kgI_s, kgR_0, kgR_s, kst_nil, kst_0, kst_s, kNLl_nil, kNLl_i, kNLl_r, kNLl_n, ktag_i, ktag_r, List.length_cons, List.length_nil, List.take_succ_cons, List.take_zero, List.take_nil, List.nil_append, List.cons_append, decide_eq_true_eq, Bool.not_eq_true, Bool.not_eq_true', decide_eq_false_iff_not, ne_eq, Decidable.not_not, true_and, and_true, Nat.reduceAdd, Nat.reduceLeDiff, Nat.reduceEqDiff, Nat.le_refl, not_true_eq_false, not_false_eq_true, reduceIte, eq_self, Int.reduceNeg, Int.reduceEq, Int.reduceLT, Int.reduceLE, Nat.zero_le, Nat.one_ne_zero]
  rw [hQ1]
  have f04 : ∀ o k, ¬ isWb o → ¬ isTr o → o ≠ 29 → o ≠ 34 → o ≠ 35 → ¬ (51 ≤ o ∧ o ≤ 53) → s4 o k = σ o k := fun o k h1 h2 h3 h4 h5 h6 => by rw [f4 o k (by omega) (by omega) (by omega), f03 o k h1 h2 h3 h4 h5]
  have hag4 : s4 1 5 = σ 1 5 + 1 := by rw [f4 _ _ (by decide) (by decide) (by decide), f3 _ _ (by decide) (by decide), f2 _ _ (by unfold isTr; omega) (by decide)]; exact e1
  have W4 : Wb s4 (n + 1) c ar li fs sn := W1.agree (fun o k ho => by unfold isWb at ho; rw [f4 o k (by omega) (by omega) (by omega), f3 o k (by omega) (by omega), f2 o k (by unfold isTr; omega) (by omega)])
  have T4 := T2.agree (s' := s4) (fun o k ho => by unfold isTr at ho; rw [f4 o k (by omega) (by omega) (by omega), f3 o k (by omega) (by omega)])
  have g63 : s4 6 3 = σ 6 3 := f04 _ _ (by unfold isWb; omega) (by unfold isTr; omega) (by decide) (by decide) (by decide) (by decide)
  have g86 : s4 8 6 = σ 8 6 := f04 _ _ (by unfold isWb; omega) (by unfold isTr; omega) (by decide) (by decide) (by decide) (by decide)
  have g98 : s4 9 8 = σ 9 8 := f04 _ _ (by unfold isWb; omega) (by unfold isTr; omega) (by decide) (by decide) (by decide) (by decide)
  refine ⟨_, rfl, rfl, rfl, fun o k h => ?_, hag4, GO_node (tr' := tr) hg hn T4.2.2.1, _, _, _, _, ⟨?_, ?_, W4, T4, fun x => ?_, ?_, ?_, ⟨rk', C4⟩, S4, ⟨by omega, by omega, by omega, by omega⟩, ⟨by omega, fun h => ?_⟩, ⟨by omega, fun h => ?_⟩, ⟨by omega, fun h => ?_⟩⟩⟩
  · unfold isMd at h
    exact f04 o k (by unfold isWb; omega) (by unfold isTr; omega) (by omega) (by omega) (by omega) (by omega)
  · rw [f04 _ _ (by unfold isWb; omega) (by unfold isTr; omega) (by decide) (by decide) (by decide) (by decide)]; exact c0
  · rw [f04 _ _ (by unfold isWb; omega) (by unfold isTr; omega) (by decide) (by decide) (by decide) (by decide)]; exact c12
  · rw [f04 _ _ (by unfold isWb; omega) (by unfold isTr; omega) (by decide) (by decide) (by decide) (by decide)]; exact cL x
  · exact ⟨fun p hp => by rw [f4 _ _ (by decide) (by decide) (by decide)]; exact R3.1 p hp, fun p hp => by rw [f4 _ _ (by decide) (by decide) (by decide)]; exact R3.2.1 p hp, R3.2.2⟩
  · exact ⟨by rw [f04 _ _ (by unfold isWb; omega) (by unfold isTr; omega) (by decide) (by decide) (by decide) (by decide)]; exact cG.1, fun k hk => by rw [f04 _ _ (by unfold isWb; omega) (by unfold isTr; omega) (by decide) (by decide) (by decide) (by decide)]; exact cG.2 k hk⟩
  · omega
  · omega
  · omega
end KS
