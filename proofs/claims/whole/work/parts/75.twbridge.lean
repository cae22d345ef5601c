/-! TWICE AND BRIDGES -/
section TB
variable {σ : kS} {n c ar : Nat} {li fs sn lv : Nat → Nat} {tr lo : Nat → Int} {rt dp : Nat → Nat} {pa up : Nat → Int}
/-- joined, and still so without any one arc -/
def twice (c : Nat) (li fs sn : Nat → Nat) (a b : Nat) : Prop := rch (uE (th c li) fs sn) a b ∧ ∀ x, th c li x → rch (uE (fun y => th c li y ∧ y ≠ x) fs sn) a b
theorem topIs.lt {A : Nat → Prop} {C : Nat → Prop} {a u : Nat} (hL : LF n A fs sn rt dp pa up) (ha : a < n) (h : topIs dp pa C a u) : u < n ∧ rt u = rt a ∧ dp u ≤ dp a := by
  obtain ⟨k, k1, k2, -⟩ := h
  have := hL.climb ha k1
  rw [← k2] at this
  exact ⟨this.1, this.2.2, by omega⟩
theorem twice_iff (hG : gOk n c ar li fs sn) (hF : FO n (fun x => th c li x ∧ tr x ≠ 0) fs sn rt dp pa up) (hH : ∀ x, th c li x → rt (fs x) = rt (sn x)) {a b u v : Nat} (ha : a < n) (hb : b < n) (hu : topIs dp pa (cov li fs sn dp tr pa c) a u) (hv : topIs dp pa (cov li fs sn dp tr pa c) b v) : u = v ↔ twice c li fs sn a b := by
  have U := hu.lt hF.1 ha
  have V := hv.lt hF.1 hb
  constructor
  · intro e
    have hr : rt a = rt b := by rw [← U.2.1, e, V.2.1]
    refine ⟨(part_iff' hF hH ha hb).mpr hr, fun x hx => ?_⟩
    by_cases htx : tr x = 0
    · exact ((hF.1.rch_iff ha hb).mpr hr).mono (fun _ _ => uE.mono (fun y hy => ⟨hy.1, fun q => hy.2 (by rw [q]; exact htx)⟩))
    · obtain ⟨w, w1, w2, w3⟩ := hF.2 x ⟨hx, htx⟩
      by_cases s : sub dp pa w a ↔ sub dp pa w b
      · exact (hF.sameSide w1 w3 ha hb hr s).mono (fun _ _ => uE.mono (fun y hy => ⟨hy.1.1, hy.2⟩))
      · have key : ∀ a b, a < n → b < n → topIs dp pa (cov li fs sn dp tr pa c) a u → topIs dp pa (cov li fs sn dp tr pa c) b u → sub dp pa w a → ¬ sub dp pa w b → cov li fs sn dp tr pa c w ∧ rt a = rt w := by
          rintro a b ha hb ⟨k, k1, k2, k3, k4⟩ ⟨j, j1, j2, j3, j4⟩ ⟨s1, s2⟩ hn
          have c1 := hF.1.climb ha k1
          have c2 := hF.1.climb hb j1
          have c3 := hF.1.climb ha (show dp a - dp w ≤ dp a by omega)
          rw [s2] at c3
          rw [← k2] at c1
          rw [← j2] at c2
          refine ⟨?_, c3.2.2.symm⟩
          by_cases z : dp a - dp w < k
          · rw [← s2]; exact k3 _ z
          · exfalso
            refine hn ⟨by omega, ?_⟩
            have a1 : clb pa (dp b - dp w) b = clb pa (dp u - dp w) u := by rw [j2, ← clb_add]; congr 1; rw [← j2]; omega
            have a2 : clb pa (dp a - dp w) a = clb pa (dp u - dp w) u := by rw [k2, ← clb_add]; congr 1; rw [← k2]; omega
            rw [a1, ← a2, s2]
        rw [← e] at hv
        by_cases sa : sub dp pa w a
        · obtain ⟨q1, q2⟩ := key a b ha hb hu hv sa (fun q => s ⟨fun _ => q, fun _ => sa⟩)
          exact covered hG hF hH w1 w3 htx q1 ha hb hr q2
        · have sb : sub dp pa w b := Classical.byContradiction fun q => s ⟨fun z => absurd z sa, fun z => absurd z q⟩
          obtain ⟨q1, q2⟩ := key b a hb ha hv hu sb sa
          exact covered hG hF hH w1 w3 htx q1 ha hb hr (hr.trans q2)
  · rintro ⟨h1, h2⟩
    have hr := (part_iff' hF hH ha hb).mp h1
    have key : ∀ a b u v, a < n → b < n → rt a = rt b → topIs dp pa (cov li fs sn dp tr pa c) a u → topIs dp pa (cov li fs sn dp tr pa c) b v → (∀ x, th c li x → rch (uE (fun y => th c li y ∧ y ≠ x) fs sn) a b) → u ≠ v → dp v ≤ dp u → False := by
      intro a b u v ha hb hr hu hv h2 hne hle
      obtain ⟨p, p1, p2, p3, p4, p5, p6, p7, -⟩ := tie_step hF.1 ha hb hr hu hv hne hle
      have hc : ¬ cov li fs sn dp tr pa c u := by obtain ⟨k, k1, k2, k3, k4⟩ := hu; exact k4
      rcases (hF.1.1 u p3).2.2 with q | ⟨-, y, p', q1, q2, q3, q4, q5, q6, q7⟩
      · omega
      · have := parted hF p3 q2 hc (h2 y q1.1)
        exact p7 (this.mp p6)
    refine Classical.byContradiction fun hne => ?_
    by_cases q : dp v ≤ dp u
    · exact key a b u v ha hb hr hu hv h2 hne q
    · exact key b a v u hb ha hr.symm hv hu (fun x hx => uE.rsymm (h2 x hx)) (fun h => hne h.symm) (by omega)
/-- a tree arc's ends hang together twice just if it is no bridge -/
theorem twice_brg (hG : gOk n c ar li fs sn) (hF : FO n (fun x => th c li x ∧ tr x ≠ 0) fs sn rt dp pa up) (hH : ∀ x, th c li x → rt (fs x) = rt (sn x)) {x : Nat} (hx : th c li x) (htx : tr x ≠ 0) : twice c li fs sn (fs x) (sn x) ↔ ¬ brg c li fs sn x := by
  obtain ⟨-, -, x3, x4⟩ := th_lt hG hx
  constructor
  · rintro ⟨-, h2⟩ ⟨-, b⟩
    exact b (h2 x hx)
  · intro h
    refine ⟨rch.one (uE.of hx), fun y hy => ?_⟩
    by_cases e : y = x
    · subst e
      refine Classical.byContradiction fun q => h ⟨fun e => q ?_, q⟩
      rw [e]; exact rch.rfl' _
    · exact rch.one (uE.of (A := fun z => th c li z ∧ z ≠ y) ⟨hx, fun q => e q.symm⟩)
theorem brg_tree (hG : gOk n c ar li fs sn) (hF : FO n (fun x => th c li x ∧ tr x ≠ 0) fs sn rt dp pa up) (hH : ∀ x, th c li x → rt (fs x) = rt (sn x)) {x : Nat} (hx : th c li x) (hb : brg c li fs sn x) : tr x ≠ 0 := by
  obtain ⟨-, -, x3, x4⟩ := th_lt hG hx
  intro e
  exact hb.2 (((hF.1.rch_iff x3 x4).mpr (hH x hx)).mono (fun _ _ => uE.mono (fun y hy => ⟨hy.1, fun q => hy.2 (by rw [q]; exact e)⟩)))
theorem twIsBridge_ok {x : Nat} (hG : gOk n c ar li fs sn) (hW : Wb σ n c ar li fs sn) (hT : Trs σ n c li fs sn lv tr rt dp pa up) (hH : ∀ x, th c li x → rt (fs x) = rt (sn x)) (hS : TwS σ n c li fs sn dp tr pa) (hx : th c li x) :
    wpF F_Twice_isBridge [.inr (.inl 6), .inl (x : Int)] σ (fun r s => (∀ o, o ≠ 32 → o ≠ 6 → s o = σ o) ∧ (∀ k, k ≠ 3 → s 6 k = σ 6 k) ∧ TwS s n c li fs sn dp tr pa ∧ ((brg c li fs sn x ∧ r = some (.inl 1)) ∨ (¬ brg c li fs sn x ∧ r = some (.inl 0)))) := by
  have hn3 := hG.1
  have hF := hT.2.2.2.2
  obtain ⟨x1, x2, x3, x4⟩ := th_lt hG hx
  obtain ⟨w1, w2, w3, w4, w5, w6, -⟩ := id hW
  have e24 := hT.1.2 x
  unfold F_Twice_isBridge
  rw [wpF_kF]
  refine ⟨rfl, rfl, ?_⟩
  unfold s_Twice_isBridge
  simp only [List.map_cons, List.map_nil]
  refine wpS_gen (fun Q2 hQ2 => ?_)
  by_cases q : tr x = 0
  · simp only [wpS_skip, wpS_break, wpS_cont, wpS_retV, wpS_throw, wpS_seq, wpS_if, wpS_trunc, yS_let, yS_inc, kgK_i, kgK_r, kok_nil, kok_i0, kok_is, kok_r0, kok_rs, kok_n0, kok_ns, xS_put, xS_putOp, xS_ast0, xS_ast1, xS_astOp, wpS_E, wpS_call, wpS_callS, wpS_ret, kThen_N, kThen_B, kThen_C, kThen_R, kThen_T, kNext_N, kNext_C, kNext_B, kNext_R, wpE_K, wpE_KL, xE_I, xE_R, wpE_J, xE_bin, wpE_ladd, wpE_i2l, xE_get, xE_ald0, xE_ald1, wpE_if, xE_max, xE_min, wpE_len, wpA_nil, wpA_snoc, xE_call, xE_callS, xC_C, xC_L, xC_Z, wpC_and, wpC_or, wpC_not, wpC_if, kcmp_0, kcmp_1, kcmp_2, kcmp_3, kcmp_4, kcmp_5, rR_inj, kgO_some, kgO_add, kgO_sub, kgO_mul, kgO_div, kgO_rem, kgO_and, kvI_inl, kvJ_inl, kgI_0, kgI_s, kgR_0, kgR_s, kst_nil, kst_0, kst_s, kNLl_nil, kNLl_i, kNLl_r, kNLl_n, ktag_i, ktag_r, List.length_cons, List.length_nil, List.take_succ_cons, List.take_zero, List.take_nil, List.nil_append, List.cons_append, decide_eq_true_eq, Bool.not_eq_true, Bool.not_eq_true', decide_eq_false_iff_not, ne_eq, Decidable.not_not, true_and, and_true, Nat.reduceAdd, Nat.reduceLeDiff, Nat.reduceEqDiff, Nat.le_refl, not_true_eq_false, not_false_eq_true, reduceIte, eq_self, Int.reduceNeg, Int.reduceEq, Int.reduceLT, Int.reduceLE, Nat.zero_le, Nat.one_ne_zero, ev_twice, ev_trees, ev_trees_arr, Int.toNat_natCast, e24, q, decide_true, decide_false, Bool.false_eq_true, if_true, if_false, true_and, and_true, not_true_eq_false, not_false_eq_true]
    repeat refine And.intro (by omega) ?_
    rw [hQ2]
    exact ⟨_, rfl, rfl, fun _ _ _ => rfl, fun _ _ => rfl, hS, Or.inr ⟨fun b => brg_tree hG hF hH hx b q, rfl⟩⟩
  · simp only [wpS_skip, wpS_break, wpS_cont, wpS_retV, wpS_throw, wpS_seq, wpS_if, wpS_trunc, yS_let, yS_inc, kgK_i, kgK_r, kok_nil, kok_i0, kok_is, kok_r0, kok_rs, kok_n0, kok_ns, xS_put, xS_putOp, xS_ast0, xS_ast1, xS_astOp, wpS_E, wpS_call, wpS_callS, wpS_ret, kThen_N, kThen_B, kThen_C, kThen_R, kThen_T, kNext_N, kNext_C, kNext_B, kNext_R, wpE_K, wpE_KL, xE_I, xE_R, wpE_J, xE_bin, wpE_ladd, wpE_i2l, xE_get, xE_ald0, xE_ald1, wpE_if, xE_max, xE_min, wpE_len, wpA_nil, wpA_snoc, xE_call, xE_callS, xC_C, xC_L, xC_Z, wpC_and, wpC_or, wpC_not, wpC_if, kcmp_0, kcmp_1, kcmp_2, kcmp_3, kcmp_4, kcmp_5, rR_inj, kgO_some, kgO_add, kgO_sub, kgO_mul, kgO_div, kgO_rem, kgO_and, kvI_inl, kvJ_inl, kgI_0, kgI_s, kgR_0, kgR_s, kst_nil, kst_0, kst_s, kNLl_nil, kNLl_i, kNLl_r, kNLl_n, ktag_i, ktag_r, List.length_cons, List.length_nil, List.take_succ_cons, List.take_zero, List.take_nil, List.nil_append, List.cons_append, decide_eq_true_eq, Bool.not_eq_true, Bool.not_eq_true', decide_eq_false_iff_not, ne_eq, Decidable.not_not, true_and, and_true, Nat.reduceAdd, Nat.reduceLeDiff, Nat.reduceEqDiff, Nat.le_refl, not_true_eq_false, not_false_eq_true, reduceIte, eq_self, Int.reduceNeg, Int.reduceEq, Int.reduceLT, Int.reduceLE, Nat.zero_le, Nat.one_ne_zero, ev_twice, ev_trees, ev_trees_arr, ev_web, ev_web_arr, Int.toNat_natCast, e24, w4 x, w5 x, q, decide_true, decide_false, Bool.false_eq_true, if_true, if_false, true_and, and_true, not_true_eq_false, not_false_eq_true]
    repeat refine And.intro (by omega) ?_
    refine (twTogether_ok hG hW hT hH hS x3 x4).mono ?_
    rintro r s ⟨k1, k2, T1, u, v, hu, hv, hr⟩
    have hi := (twice_iff hG hF hH x3 x4 hu hv).trans (twice_brg hG hF hH hx q)
    rcases hr with ⟨e, rfl⟩ | ⟨e, rfl⟩
    · rw [kgO_some]
      simp only [wpS_skip, wpS_break, wpS_cont, wpS_retV, wpS_throw, wpS_seq, wpS_if, wpS_trunc, yS_let, yS_inc, kgK_i, kgK_r, kok_nil, kok_i0, kok_is, kok_r0, kok_rs, kok_n0, kok_ns, xS_put, xS_putOp, xS_ast0, xS_ast1, xS_astOp, wpS_E, wpS_call, wpS_callS, wpS_ret, kThen_N, kThen_B, kThen_C, kThen_R, kThen_T, kNext_N, kNext_C, kNext_B, kNext_R, wpE_K, wpE_KL, xE_I, xE_R, wpE_J, xE_bin, wpE_ladd, wpE_i2l, xE_get, xE_ald0, xE_ald1, wpE_if, xE_max, xE_min, wpE_len, wpA_nil, wpA_snoc, xE_call, xE_callS, xC_C, xC_L, xC_Z, wpC_and, wpC_or, wpC_not, wpC_if, kcmp_0, kcmp_1, kcmp_2, kcmp_3, kcmp_4, kcmp_5, rR_inj, kgO_some, kgO_add, kgO_sub, kgO_mul, kgO_div, kgO_rem, kgO_and, kvI_inl, kvJ_inl, kgI_0, kgI_s, kgR_0, kgR_s, kst_nil, kst_0, kst_s, kNLl_nil, kNLl_i, kNLl_r, kNLl_n, ktag_i, ktag_r, List.length_cons, List.length_nil, List.take_succ_cons, List.take_zero, List.take_nil, List.nil_append, List.cons_append, decide_eq_true_eq, Bool.not_eq_true, Bool.not_eq_true', decide_eq_false_iff_not, ne_eq, Decidable.not_not, true_and, and_true, Nat.reduceAdd, Nat.reduceLeDiff, Nat.reduceEqDiff, Nat.le_refl, not_true_eq_false, not_false_eq_true, reduceIte, eq_self, Int.reduceNeg, Int.reduceEq, Int.reduceLT, Int.reduceLE, Nat.zero_le, Nat.one_ne_zero, decide_true, decide_false, Bool.false_eq_true, if_true, if_false, true_and, and_true, not_true_eq_false, not_false_eq_true]
      rw [hQ2]
      exact ⟨_, rfl, rfl, k1, k2, T1, Or.inr ⟨hi.mp e, rfl⟩⟩
    · rw [kgO_some]
      simp only [wpS_skip, wpS_break, wpS_cont, wpS_retV, wpS_throw, wpS_seq, wpS_if, wpS_trunc, yS_let, yS_inc, kgK_i, kgK_r, kok_nil, kok_i0, kok_is, kok_r0, kok_rs, kok_n0, kok_ns, xS_put, xS_putOp, xS_ast0, xS_ast1, xS_astOp, wpS_E, wpS_call, wpS_callS, wpS_ret, kThen_N, kThen_B, kThen_C, kThen_R, kThen_T, kNext_N, kNext_C, kNext_B, kNext_R, wpE_K, wpE_KL, xE_I, xE_R, wpE_J, xE_bin, wpE_ladd, wpE_i2l, xE_get, xE_ald0, xE_ald1, wpE_if, xE_max, xE_min, wpE_len, wpA_nil, wpA_snoc, xE_call, xE_callS, xC_C, xC_L, xC_Z, wpC_and, wpC_or, wpC_not, wpC_if, kcmp_0, kcmp_1, kcmp_2, kcmp_3, kcmp_4, kcmp_5, rR_inj, kgO_some, kgO_add, kgO_sub, kgO_mul, kgO_div, kgO_rem, kgO_and, kvI_inl, kvJ_inl, kgI_0, kgI_s, kgR_0, kgR_s, kst_nil, kst_0, kst_s, kNLl_nil, kNLl_i, kNLl_r, kNLl_n, ktag_i, ktag_r, List.length_cons, List.length_nil, List.take_succ_cons, List.take_zero, List.take_nil, List.nil_append, List.cons_append, decide_eq_true_eq, Bool.not_eq_true, Bool.not_eq_true', decide_eq_false_iff_not, ne_eq, Decidable.not_not, true_and, and_true, Nat.reduceAdd, Nat.reduceLeDiff, Nat.reduceEqDiff, Nat.le_refl, not_true_eq_false, not_false_eq_true, reduceIte, eq_self, Int.reduceNeg, Int.reduceEq, Int.reduceLT, Int.reduceLE, Nat.zero_le, Nat.one_ne_zero, decide_true, decide_false, Bool.false_eq_true, if_true, if_false, true_and, and_true, not_true_eq_false, not_false_eq_true]
      rw [hQ2]
      exact ⟨_, rfl, rfl, k1, k2, T1, Or.inl ⟨Classical.byContradiction fun z => e (hi.mpr z), rfl⟩⟩
end TB
