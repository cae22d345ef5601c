/-! THE CLASS'S TREES: an arc goes; counts -/
section T4
variable {σ : kS} {n c ar : Nat} {li fs sn lv : Nat → Nat} {tr : Nat → Int} {rt dp : Nat → Nat} {pa up : Nat → Int}
/-- node v hangs, its part's least node is r -/
def hgd (A : Nat → Prop) (fs sn : Nat → Nat) (n : Nat) (s : kS) (r v : Nat) : Prop :=
  rch (uE A fs sn) r v ∧ (∀ w, w < n → rch (uE A fs sn) r w → r ≤ w) ∧ s 25 v = (r : Int) ∧
  ((v = r ∧ s 26 v = -1 ∧ s 27 v = -1 ∧ s 28 v = 0) ∨ (v ≠ r ∧ ∃ (x p : Nat), A x ∧ s 27 v = (x : Int) ∧ s 26 v = (p : Int) ∧ s 28 v = s 28 p + 1 ∧ ((fs x = v ∧ sn x = p) ∨ (sn x = v ∧ fs x = p)))) ∧ 0 ≤ s 28 v
theorem hangAll_ok (hG : gOk n c ar li fs sn) (hW : Wb σ n c ar li fs sn) (hT : Tb σ lv tr) (t01 : ∀ x, tr x = 0 ∨ tr x = 1) (hH : Hd n (th c li) fs sn lv tr) :
    wpF F_Trees_hangAll [.inr (.inl 4)] σ (fun r s => r = none ∧ (∀ o k, ¬ isTr o → o ≠ 29 → s o k = σ o k) ∧ ∃ rt dp pa up, Trs s n c li fs sn lv tr rt dp pa up) := by
  have hn3 := hG.1
  obtain ⟨w1, -⟩ := id hW
  obtain ⟨A, hA⟩ : ∃ A : Nat → Prop, A = fun x => th c li x ∧ tr x ≠ 0 := ⟨_, rfl⟩
  have hAn : ∀ x, A x → fs x < n ∧ sn x < n := fun x hx => by rw [hA] at hx; exact (th_lt hG hx.1).2.2
  have hrn : ∀ u v, u < n → rch (uE A fs sn) u v → v < n := by
    intro u v hu hr
    refine rch.closed (S := fun v => v < n) ?_ hu hr
    rintro a b - ⟨y, hy, ⟨-, rfl⟩ | ⟨-, rfl⟩⟩
    · exact (hAn y hy).2
    · exact (hAn y hy).1
  unfold F_Trees_hangAll
  rw [wpF_kF]
  refine ⟨rfl, rfl, ?_⟩
  unfold s_Trees_hangAll
  simp only [List.map_cons, List.map_nil]
  refine wpS_seq' (fun Q0 hQ0 => ?_)
  refine wpS_seq' (fun Q101 hQ101 => ?_)
  simp only [wpS_skip, wpS_break, wpS_cont, wpS_retV, wpS_throw, wpS_seq, wpS_if, wpS_trunc, yS_let, yS_inc, kgK_i, kgK_r, kok_nil, kok_i0, kok_is, kok_r0, kok_rs, kok_n0, kok_ns, xS_put, xS_putOp, xS_ast0, xS_ast1, xS_astOp, wpS_E, wpS_call, wpS_callS, wpS_ret, kThen_N, kThen_B, kThen_C, kThen_R, kThen_T, kNext_N, kNext_C, kNext_B, kNext_R, wpE_K, wpE_KL, xE_I, xE_R, wpE_J, xE_bin, wpE_ladd, wpE_i2l, xE_get, xE_ald0, xE_ald1, wpE_if, xE_max, xE_min, wpE_len, wpA_nil, wpA_snoc, xE_call, xE_callS, xC_C, xC_L, xC_Z, wpC_and, wpC_or, wpC_not, wpC_if, kcmp_0, kcmp_1, kcmp_2, kcmp_3, kcmp_4, kcmp_5, rR_inj, kgO_some, kgO_add, kgO_sub, kgO_mul, kgO_div, kgO_rem, kgO_and, kvI_inl, kvJ_inl, kgI_0, kgI_s, kgR_0, kgR_s, kst_nil, kst_0, kst_s, kNLl_nil, kNLl_i, kNLl_r, kNLl_n, ktag_i, ktag_r, List.length_cons, List.length_nil, List.take_succ_cons, List.take_zero, List.take_nil, List.nil_append, List.cons_append, decide_eq_true_eq, Bool.not_eq_true, Bool.not_eq_true', decide_eq_false_iff_not, ne_eq, Decidable.not_not, true_and, and_true, Nat.reduceAdd, Nat.reduceLeDiff, Nat.reduceEqDiff, Nat.le_refl, not_true_eq_false, not_false_eq_true, reduceIte, eq_self, Int.reduceNeg, Int.reduceEq, Int.reduceLT, Int.reduceLE, Nat.zero_le, Nat.one_ne_zero, ev_trees, ev_trees_arr]
  refine (fill_ok (n := 300) (by omega) rfl rfl).mono ?_
  rintro r s1 ⟨rfl, hs1⟩
  refine ⟨rfl, ?_⟩
  rw [hQ101]
  clear hQ101
  refine kThen_N.mpr ?_
  have f1 : ∀ o k, o ≠ 25 → s1 o k = σ o k := by intro o k ho; rw [hs1]; unfold kfill; rw [if_neg (fun q => ho q.1)]
  have f2 : ∀ v, v < 300 → s1 25 v = -1 := by intro v hv; rw [hs1]; unfold kfill; rw [if_pos ⟨rfl, hv⟩]
  clear hs1
  refine wpS_gen (fun Q1 hQ1 => ?_)
  unfold l_Trees_hangAll_1
  refine wpS_fp (fun i s => (∀ o k, o ≠ 25 → o ≠ 26 → o ≠ 27 → o ≠ 28 → o ≠ 29 → s o k = σ o k) ∧ ∀ v, v < n → (∃ r, r < i ∧ hgd A fs sn n s r v) ∨ ((¬ ∃ u, u < i ∧ rch (uE A fs sn) u v) ∧ s 25 v = -1)) 0 n rfl rfl ?_ ?_ ?_ ?_ ?_ ?_
  · simp only [wpS_skip, wpS_break, wpS_cont, wpS_retV, wpS_throw, wpS_seq, wpS_if, wpS_trunc, yS_let, yS_inc, kgK_i, kgK_r, kok_nil, kok_i0, kok_is, kok_r0, kok_rs, kok_n0, kok_ns, xS_put, xS_putOp, xS_ast0, xS_ast1, xS_astOp, wpS_E, wpS_call, wpS_callS, wpS_ret, kThen_N, kThen_B, kThen_C, kThen_R, kThen_T, kNext_N, kNext_C, kNext_B, kNext_R, wpE_K, wpE_KL, xE_I, xE_R, wpE_J, xE_bin, wpE_ladd, wpE_i2l, xE_get, xE_ald0, xE_ald1, wpE_if, xE_max, xE_min, wpE_len, wpA_nil, wpA_snoc, xE_call, xE_callS, xC_C, xC_L, xC_Z, wpC_and, wpC_or, wpC_not, wpC_if, kcmp_0, kcmp_1, kcmp_2, kcmp_3, kcmp_4, kcmp_5, rR_inj, kgO_some, kgO_add, kgO_sub, kgO_mul, kgO_div, kgO_rem, kgO_and, kvI_inl, kvJ_inl, kgI_0, kgI_s, kgR_0, kgR_s, kst_nil, kst_0, kst_s, kNLl_nil, kNLl_i, kNLl_r, kNLl_n, ktag_i, ktag_r, List.length_cons, List.length_nil, List.take_succ_cons, List.take_zero, List.take_nil, List.nil_append, List.cons_append, decide_eq_true_eq, Bool.not_eq_true, Bool.not_eq_true', decide_eq_false_iff_not, ne_eq, Decidable.not_not, true_and, and_true, Nat.reduceAdd, Nat.reduceLeDiff, Nat.reduceEqDiff, Nat.le_refl, not_true_eq_false, not_false_eq_true, reduceIte, eq_self, Int.reduceNeg, Int.reduceEq, Int.reduceLT, Int.reduceLE, Nat.zero_le, Nat.one_ne_zero]; trivial
  · omega
  · exact ⟨fun o k o1 _ _ _ _ => f1 o k o1, fun v hv => Or.inr ⟨fun ⟨u, h, _⟩ => by omega, f2 v (by omega)⟩⟩
  · rintro i s h0 h1 ⟨S1, -⟩
    simp only [wpS_skip, wpS_break, wpS_cont, wpS_retV, wpS_throw, wpS_seq, wpS_if, wpS_trunc, yS_let, yS_inc, kgK_i, kgK_r, kok_nil, kok_i0, kok_is, kok_r0, kok_rs, kok_n0, kok_ns, xS_put, xS_putOp, xS_ast0, xS_ast1, xS_astOp, wpS_E, wpS_call, wpS_callS, wpS_ret, kThen_N, kThen_B, kThen_C, kThen_R, kThen_T, kNext_N, kNext_C, kNext_B, kNext_R, wpE_K, wpE_KL, xE_I, xE_R, wpE_J, xE_bin, wpE_ladd, wpE_i2l, xE_get, xE_ald0, xE_ald1, wpE_if, xE_max, xE_min, wpE_len, wpA_nil, wpA_snoc, xE_call, xE_callS, xC_C, xC_L, xC_Z, wpC_and, wpC_or, wpC_not, wpC_if, kcmp_0, kcmp_1, kcmp_2, kcmp_3, kcmp_4, kcmp_5, rR_inj, kgO_some, kgO_add, kgO_sub, kgO_mul, kgO_div, kgO_rem, kgO_and, kvI_inl, kvJ_inl, kgI_0, kgI_s, kgR_0, kgR_s, kst_nil, kst_0, kst_s, kNLl_nil, kNLl_i, kNLl_r, kNLl_n, ktag_i, ktag_r, List.length_cons, List.length_nil, List.take_succ_cons, List.take_zero, List.take_nil, List.nil_append, List.cons_append, decide_eq_true_eq, Bool.not_eq_true, Bool.not_eq_true', decide_eq_false_iff_not, ne_eq, Decidable.not_not, true_and, and_true, Nat.reduceAdd, Nat.reduceLeDiff, Nat.reduceEqDiff, Nat.le_refl, not_true_eq_false, not_false_eq_true, reduceIte, eq_self, Int.reduceNeg, Int.reduceEq, Int.reduceLT, Int.reduceLE, Nat.zero_le, Nat.one_ne_zero, ev_trees, ev_web, show s 1 3 = (n : Int) by rw [S1 _ _ (by decide) (by decide) (by decide) (by decide) (by decide)]; exact w1]
  · rintro i s h0 h1 ⟨S1, S2⟩
    refine wpS_gen (fun Q2 hQ2 => ?_)
    rcases S2 i h1 with ⟨r, r1, r2⟩ | ⟨q1, q2⟩
    · have e25 : s 25 i = r := r2.2.2.1
      have hne : ¬ (r : Int) = -1 := by omega
      simp only [wpS_skip, wpS_break, wpS_cont, wpS_retV, wpS_throw, wpS_seq, wpS_if, wpS_trunc, yS_let, yS_inc, kgK_i, kgK_r, kok_nil, kok_i0, kok_is, kok_r0, kok_rs, kok_n0, kok_ns, xS_put, xS_putOp, xS_ast0, xS_ast1, xS_astOp, wpS_E, wpS_call, wpS_callS, wpS_ret, kThen_N, kThen_B, kThen_C, kThen_R, kThen_T, kNext_N, kNext_C, kNext_B, kNext_R, wpE_K, wpE_KL, xE_I, xE_R, wpE_J, xE_bin, wpE_ladd, wpE_i2l, xE_get, xE_ald0, xE_ald1, wpE_if, xE_max, xE_min, wpE_len, wpA_nil, wpA_snoc, xE_call, xE_callS, xC_C, xC_L, xC_Z, wpC_and, wpC_or, wpC_not, wpC_if, kcmp_0, kcmp_1, kcmp_2, kcmp_3, kcmp_4, kcmp_5, rR_inj, kgO_some, kgO_add, kgO_sub, kgO_mul, kgO_div, kgO_rem, kgO_and, kvI_inl, kvJ_inl, kgI_0, kgI_s, kgR_0, kgR_s, kst_nil, kst_0, kst_s, kNLl_nil, kNLl_i, kNLl_r, kNLl_n, ktag_i, ktag_r, List.length_cons, List.length_nil, List.take_succ_cons, List.take_zero, List.take_nil, List.nil_append, List.cons_append, decide_eq_true_eq, Bool.not_eq_true, Bool.not_eq_true', decide_eq_false_iff_not, ne_eq, Decidable.not_not, true_and, and_true, Nat.reduceAdd, Nat.reduceLeDiff, Nat.reduceEqDiff, Nat.le_refl, not_true_eq_false, not_false_eq_true, reduceIte, eq_self, Int.reduceNeg, Int.reduceEq, Int.reduceLT, Int.reduceLE, Nat.zero_le, Nat.one_ne_zero, ev_trees, ev_trees_arr, Int.toNat_natCast, e25, hne, decide_true, decide_false, Bool.false_eq_true, if_true, if_false, true_and, and_true, not_true_eq_false, not_false_eq_true]
      refine ⟨by omega, ?_⟩
      rw [hQ2]
      refine kStep_N rfl ⟨rfl, S1, fun v hv => ?_⟩
      rcases S2 v hv with ⟨r', r1', r2'⟩ | ⟨q1, q2⟩
      · exact Or.inl ⟨r', by omega, r2'⟩
      · refine Or.inr ⟨fun ⟨u, u1, u2⟩ => ?_, q2⟩
        by_cases e : u = i
        · subst e; exact q1 ⟨r, r1, r2.1.trans u2⟩
        · exact q1 ⟨u, by omega, u2⟩
    · simp only [wpS_skip, wpS_break, wpS_cont, wpS_retV, wpS_throw, wpS_seq, wpS_if, wpS_trunc, yS_let, yS_inc, kgK_i, kgK_r, kok_nil, kok_i0, kok_is, kok_r0, kok_rs, kok_n0, kok_ns, xS_put, xS_putOp, xS_ast0, xS_ast1, xS_astOp, wpS_E, wpS_call, wpS_callS, wpS_ret, kThen_N, kThen_B, kThen_C, kThen_R, kThen_T, kNext_N, kNext_C, kNext_B, kNext_R, wpE_K, wpE_KL, xE_I, xE_R, wpE_J, xE_bin, wpE_ladd, wpE_i2l, xE_get, xE_ald0, xE_ald1, wpE_if, xE_max, xE_min, wpE_len, wpA_nil, wpA_snoc, xE_call, xE_callS, xC_C, xC_L, xC_Z, wpC_and, wpC_or, wpC_not, wpC_if, kcmp_0, kcmp_1, kcmp_2, kcmp_3, kcmp_4, kcmp_5, rR_inj, kgO_some, kgO_add, kgO_sub, kgO_mul, kgO_div, kgO_rem, kgO_and, kvI_inl, kvJ_inl, kgI_0, kgI_s, kgR_0, kgR_s, kst_nil, kst_0, kst_s, kNLl_nil, kNLl_i, kNLl_r, kNLl_n, ktag_i, ktag_r, List.length_cons, List.length_nil, List.take_succ_cons, List.take_zero, List.take_nil, List.nil_append, List.cons_append, decide_eq_true_eq, Bool.not_eq_true, Bool.not_eq_true', decide_eq_false_iff_not, ne_eq, Decidable.not_not, true_and, and_true, Nat.reduceAdd, Nat.reduceLeDiff, Nat.reduceEqDiff, Nat.le_refl, not_true_eq_false, not_false_eq_true, reduceIte, eq_self, Int.reduceNeg, Int.reduceEq, Int.reduceLT, Int.reduceLE, Nat.zero_le, Nat.one_ne_zero, ev_trees, ev_trees_arr, Int.toNat_natCast, q2, decide_true, decide_false, Bool.false_eq_true, if_true, if_false, true_and, and_true, not_true_eq_false, not_false_eq_true]
      refine ⟨by omega, ?_⟩
      have hW2 := hW.agree (s' := s) (fun o k ho => S1 o k (by unfold isWb at ho; omega) (by unfold isWb at ho; omega) (by unfold isWb at ho; omega) (by unfold isWb at ho; omega) (by unfold isWb at ho; omega))
      have hT2 : Tb s lv tr := ⟨fun x => by rw [S1 _ _ (by decide) (by decide) (by decide) (by decide) (by decide)]; exact hT.1 x, fun x => by rw [S1 _ _ (by decide) (by decide) (by decide) (by decide) (by decide)]; exact hT.2 x⟩
      have hiv : ∀ v, v < n → rch (uE A fs sn) i v → s 25 v = -1 := by
        intro v hv hr
        rcases S2 v hv with ⟨r, r1, r2⟩ | ⟨-, q⟩
        · exact absurd ⟨r, r1, r2.1.trans (uE.rsymm hr)⟩ q1
        · exact q
      refine (hang_ok hG hW2 hT2 h1 (by omega)).mono ?_
      rintro r s2 ⟨rfl, a1, a2, a3, a4, a5⟩
      refine ⟨rfl, ?_⟩
      have hV : ∀ v, rch (fun u v => uE (fun x => th c li x ∧ tr x ≠ 0) fs sn u v ∧ s 25 v ≠ (i : Int)) i v ↔ rch (uE A fs sn) i v := by
        intro v
        rw [hA]
        constructor
        · exact fun hr => hr.mono (fun _ _ q => q.1)
        · intro hr
          refine rch.mono_in hr ?_
          intro a b ha hab
          refine ⟨hab, ?_⟩
          have hb := rch.snoc ha hab
          have hbA : rch (uE A fs sn) i b := by rw [hA]; exact hb
          have := hiv b (hrn i b h1 hbA) hbA
          omega
      rw [hQ2]
      refine kStep_N rfl ⟨rfl, fun o k o1 o2 o3 o4 o5 => by rw [a1 o k o1 o2 o3 o4 o5]; exact S1 o k o1 o2 o3 o4 o5, fun v hv => ?_⟩
      by_cases hr : rch (uE A fs sn) i v
      · refine Or.inl ⟨i, by omega, hr, fun w hw hiw => ?_, (a3 v ((hV v).mpr hr)).1, ?_, ?_⟩
        · rcases Nat.lt_or_ge w i with z | z
          · exact absurd ⟨w, z, uE.rsymm hiw⟩ q1
          · exact z
        · by_cases e : v = i
          · subst e; exact Or.inl ⟨rfl, a2⟩
          · obtain ⟨p, x, p1, p2, p3, p4, p5, p6, p7⟩ := a4 v ((hV v).mpr hr) e
            exact Or.inr ⟨e, x, p, by rw [hA]; exact ⟨p2, p3⟩, p4, p5, p6, p7⟩
        · obtain ⟨-, d, -, d2⟩ := a3 v ((hV v).mpr hr)
          rw [d2]; omega
      · obtain ⟨b1, b2, b3, b4⟩ := a5 v (fun q => hr ((hV v).mp q))
        rcases S2 v hv with ⟨r, r1, r2, r3, r4, r5, r6⟩ | ⟨c1, c2⟩
        · refine Or.inl ⟨r, by omega, r2, r3, by rw [b1]; exact r4, ?_, by rw [b4]; exact r6⟩
          rcases r5 with ⟨t1, t2, t3, t4⟩ | ⟨t1, x, p, t2, t3, t4, t5, t6⟩
          · exact Or.inl ⟨t1, by rw [b2]; exact t2, by rw [b3]; exact t3, by rw [b4]; exact t4⟩
          · have hp : ¬ rch (uE A fs sn) i p := fun q => hr (q.snoc ⟨x, t2, t6.symm.imp (fun w => ⟨w.2, w.1⟩) (fun w => ⟨w.2, w.1⟩)⟩)
            obtain ⟨-, -, -, b4'⟩ := a5 p (fun q => hp ((hV p).mp q))
            exact Or.inr ⟨t1, x, p, t2, by rw [b3]; exact t3, by rw [b2]; exact t4, by rw [b4, b4']; exact t5, t6⟩
        · refine Or.inr ⟨fun ⟨u, u1, u2⟩ => ?_, by rw [b1]; exact c2⟩
          by_cases e : u = i
          · subst e; exact hr u2
          · exact c1 ⟨u, by omega, u2⟩
  · rintro s ⟨S1, S2⟩
    rw [hQ1]
    rw [hQ0]
    refine kThen_N.mpr (wpS_retV.mpr ⟨none, rfl, rfl, ?_⟩)
    have all : ∀ v, v < n → ∃ r, r < n ∧ hgd A fs sn n s r v := by
      intro v hv
      rcases S2 v hv with h | ⟨h, -⟩
      · exact h
      · exact absurd ⟨v, hv, rch.rfl' v⟩ h
    have uniq : ∀ u v r r', u < n → v < n → hgd A fs sn n s r u → hgd A fs sn n s r' v → r < n → r' < n → rch (uE A fs sn) u v → r = r' := by
      intro u v r r' hu hv h1 h2 hr hr' huv
      have e1 := h1.2.1 r' hr' (h1.1.trans (huv.trans (uE.rsymm h2.1)))
      have e2 := h2.2.1 r hr (h2.1.trans ((uE.rsymm huv).trans (uE.rsymm h1.1)))
      omega
    refine ⟨rfl, fun o k o1 o2 => S1 o k (by unfold isTr at o1; omega) (by unfold isTr at o1; omega) (by unfold isTr at o1; omega) (by unfold isTr at o1; omega) o2, fun v => (s 25 v).toNat, fun v => (s 28 v).toNat, fun v => s 26 v, fun v => s 27 v,
      ⟨fun y => by rw [S1 _ _ (by decide) (by decide) (by decide) (by decide) (by decide)]; exact hT.1 y, fun y => by rw [S1 _ _ (by decide) (by decide) (by decide) (by decide) (by decide)]; exact hT.2 y⟩, t01, hH, fun v hv => ?_, ?_⟩
    · obtain ⟨r, r0, r1, r2, r3, r4, r5⟩ := all v hv
      refine ⟨?_, rfl, rfl, ?_⟩ <;> dsimp only <;> omega
    · rw [← hA]
      have hAc : Ac A fs sn := by rw [hA]; exact hH.1
      refine LF.fo ⟨fun v hv => ?_, fun x hx => ?_⟩ hAc
      · obtain ⟨r, r0, r1, r2, r3, r4, r5⟩ := id (all v hv)
        obtain ⟨r', r0', h'⟩ := all r r0
        have e : r' = r := uniq r v r' r r0 hv h' ⟨r1, r2, r3, r4, r5⟩ r0' r0 r1
        rw [e] at h'
        have er : (s 25 v).toNat = r := by omega
        have er2 : (s 25 r).toNat = r := by have := h'.2.2.1; omega
        dsimp only
        rw [er, er2]
        refine ⟨r2 v hv r1, rfl, ?_⟩
        rcases r4 with ⟨t1, t2, t3, t4⟩ | ⟨t1, x, p, t2, t3, t4, t5, t6⟩
        · exact Or.inl ⟨t1.symm, by rw [t4]; rfl, t2, t3⟩
        · obtain ⟨xa, xb⟩ := hAn x t2
          have hp : p < n := by rcases t6 with ⟨-, rfl⟩ | ⟨-, rfl⟩ <;> assumption
          obtain ⟨rp, rp0, hp'⟩ := all p hp
          have ep : rp = r := uniq p v rp r hp hv hp' ⟨r1, r2, r3, Or.inr ⟨t1, x, p, t2, t3, t4, t5, t6⟩, r5⟩ rp0 r0 (rch.one ⟨x, t2, t6.symm.imp (fun w => ⟨w.2, w.1⟩) (fun w => ⟨w.2, w.1⟩)⟩)
          have hp0 := hp'.2.2.2.2
          have hp25 := hp'.2.2.1
          exact Or.inr ⟨fun e => t1 e.symm, x, p, t2, t3, t4, hp, by omega, by omega, t6⟩
      · obtain ⟨xa, xb⟩ := hAn x hx
        refine ⟨xa, xb, ?_⟩
        obtain ⟨r, r0, h1⟩ := all _ xa
        obtain ⟨r', r0', h2⟩ := all _ xb
        have e := uniq _ _ r r' xa xb h1 h2 r0 r0' (rch.one (uE.of hx))
        have e1 := h1.2.2.1
        have e2 := h2.2.2.1
        dsimp only
        omega
theorem tr2_01 {L R : Nat → Prop} {i : Nat} {l1 : Nat → Nat} (h : ∀ x, tr x = 0 ∨ tr x = 1) (x : Nat) : tr2 c li fs sn l1 tr L R i x = 0 ∨ tr2 c li fs sn l1 tr L R i x = 1 := by
  unfold tr2
  split
  · exact Or.inr rfl
  · exact h x
theorem mnd_01 {a0 b0 : Nat} : ∀ {i : Nat} {lv : Nat → Nat} {tr : Nat → Int}, (∀ x, tr x = 0 ∨ tr x = 1) → ∀ x, (mnd n c li fs sn a0 b0 i lv tr).2 x = 0 ∨ (mnd n c li fs sn a0 b0 i lv tr).2 x = 1 := by
  intro i
  induction i with
  | zero => intro lv tr h; exact h
  | succ i ih =>
    intro lv tr h x
    obtain ⟨m1, m2⟩ := @mnd_succ n c a0 b0 i li fs sn lv tr _ _ rfl rfl
    by_cases hk : ∃ k, hasK c li fs sn (rse (th c li) fs sn lv tr (sd (th c li) fs sn lv tr i (lesS n (th c li) fs sn lv tr a0 b0 i)) i) tr (sd (th c li) fs sn lv tr i (lesS n (th c li) fs sn lv tr a0 b0 i)) (sd (th c li) fs sn lv tr i (othS n (th c li) fs sn lv tr a0 b0 i)) i k
    · rw [m1 hk]; exact tr2_01 h x
    · rw [(m2 hk).1]; exact ih h x
/-- what becomes of levels and tree arcs as arc x0 goes -/
noncomputable def rem (n c : Nat) (li fs sn lv : Nat → Nat) (tr : Nat → Int) (x0 : Nat) : (Nat → Nat) × (Nat → Int) := if tr x0 = 0 then (lv, tr) else mnd n c li fs sn (fs x0) (sn x0) (lv x0 + 1) lv tr
theorem rem_Hd {W : Nat → Prop} {x0 : Nat} (hH : Hd n W fs sn lv tr) (h0 : W x0) (hW : ∀ x, th c li x ↔ W x ∧ x ≠ x0) : Hd n (th c li) fs sn (rem n c li fs sn lv tr x0).1 (rem n c li fs sn lv tr x0).2 := by
  unfold rem
  by_cases ht : tr x0 = 0
  · rw [if_pos ht]
    obtain ⟨h1, h2, h3⟩ := hH
    have e : ∀ i u v, sd W fs sn lv tr i u v → sd (th c li) fs sn lv tr i u v := fun i u v q => q.mono (fun x a b => ⟨(hW x).mpr ⟨a, fun e => b.1 (e ▸ ht)⟩, b⟩)
    have e' : ∀ i u v, sd (th c li) fs sn lv tr i u v → sd W fs sn lv tr i u v := fun i u v q => q.mono (fun x a b => ⟨((hW x).mp a).1, b⟩)
    exact ⟨h1.mono (fun x hx => ⟨((hW x).mp hx.1).1, hx.2⟩), fun x hx => e _ _ _ (h2 x ((hW x).mp hx).1), fun i x hx hA => Nat.le_trans (cntP_le (fun v _ hv => e' _ _ _ hv)) (h3 i x ((hW x).mp hx).1 hA)⟩
  · rw [if_neg ht]
    exact mnd_ok (Sg_start hH h0 ht hW)
theorem rem_01 {x0 : Nat} (h : ∀ x, tr x = 0 ∨ tr x = 1) (x : Nat) : (rem n c li fs sn lv tr x0).2 x = 0 ∨ (rem n c li fs sn lv tr x0).2 x = 1 := by
  unfold rem
  split
  · exact h x
  · exact mnd_01 h x
theorem rem_lv {x0 : Nat} (x : Nat) : (rem n c li fs sn lv tr x0).1 x ≤ lv x + 1 := by
  unfold rem
  split
  · exact Nat.le_succ _
  · rcases @mnd_rise n c (fs x0) (sn x0) li fs sn (lv x0 + 1) lv tr x with q | ⟨-, q⟩ <;> omega
theorem arcRemoved_ok {x0 : Nat} {W : Nat → Prop} (hG : gOk n c ar li fs sn) (hW : Wb σ n c ar li fs sn) (hth : ∀ x, th c li x ↔ W x ∧ x ≠ x0) (h0 : W x0) (hx0 : x0 < 5000) (ha : fs x0 < n) (hb : sn x0 < n) (hTb : Tb σ lv tr) (ht01 : ∀ y, tr y = 0 ∨ tr y = 1) (hH : Hd n W fs sn lv tr) (hHt : Ht σ n rt dp pa up) (hF : FO n (fun y => W y ∧ tr y ≠ 0) fs sn rt dp pa up)
    (hlv : ∀ x, W x → lv x ≤ 5000) :
    wpF F_Trees_arcRemoved [.inr (.inl 4), .inl (x0 : Int)] σ (fun r s => r = none ∧ (∀ o k, ¬ isTr o → o ≠ 29 → o ≠ 30 → s o k = σ o k) ∧
      ∃ rt' dp' pa' up', Trs s n c li fs sn (rem n c li fs sn lv tr x0).1 (rem n c li fs sn lv tr x0).2 rt' dp' pa' up') := by
  have hR := rem_Hd hH h0 hth
  have h01 := fun x => @rem_01 n c li fs sn lv tr x0 ht01 x
  have e24 := hTb.2 x0
  unfold F_Trees_arcRemoved
  rw [wpF_kF]
  refine ⟨rfl, rfl, ?_⟩
  unfold s_Trees_arcRemoved
  simp only [List.map_cons, List.map_nil]
  refine wpS_seq' (fun Q0 hQ0 => ?_)
  by_cases ht : tr x0 = 0
  · simp only [wpS_skip, wpS_break, wpS_cont, wpS_retV, wpS_throw, wpS_seq, wpS_if, wpS_trunc, yS_let, yS_inc, kgK_i, kgK_r, kok_nil, kok_i0, kok_is, kok_r0, kok_rs, kok_n0, kok_ns, xS_put, xS_putOp, xS_ast0, xS_ast1, xS_astOp, wpS_E, wpS_call, wpS_callS, wpS_ret, kThen_N, kThen_B, kThen_C, kThen_R, kThen_T, kNext_N, kNext_C, kNext_B, kNext_R, wpE_K, wpE_KL, xE_I, xE_R, wpE_J, xE_bin, wpE_ladd, wpE_i2l, xE_get, xE_ald0, xE_ald1, wpE_if, xE_max, xE_min, wpE_len, wpA_nil, wpA_snoc, xE_call, xE_callS, xC_C, xC_L, xC_Z, wpC_and, wpC_or, wpC_not, wpC_if, kcmp_0, kcmp_1, kcmp_2, kcmp_3, kcmp_4, kcmp_5, rR_inj, kgO_some, kgO_add, kgO_sub, kgO_mul, kgO_div, kgO_rem, kgO_and, kvI_inl, kvJ_inl, kgI_0, kgI_s, kgR_0, kgR_s, kst_nil, kst_0, kst_s, kNLl_nil, kNLl_i, kNLl_r, kNLl_n, ktag_i, ktag_r, List.length_cons, List.length_nil, List.take_succ_cons, List.take_zero, List.take_nil, List.nil_append, List.cons_append, decide_eq_true_eq, Bool.not_eq_true, Bool.not_eq_true', decide_eq_false_iff_not, ne_eq, Decidable.not_not, true_and, and_true, Nat.reduceAdd, Nat.reduceLeDiff, Nat.reduceEqDiff, Nat.le_refl, not_true_eq_false, not_false_eq_true, reduceIte, eq_self, Int.reduceNeg, Int.reduceEq, Int.reduceLT, Int.reduceLE, Nat.zero_le, Nat.one_ne_zero, ev_trees, ev_trees_arr, Int.toNat_natCast, e24, ht, decide_true, decide_false, Bool.false_eq_true, if_true, if_false, true_and, and_true, not_true_eq_false, not_false_eq_true]
    refine ⟨by omega, ?_⟩
    rw [hQ0]
    have e : rem n c li fs sn lv tr x0 = (lv, tr) := by unfold rem; rw [if_pos ht]
    rw [e] at hR h01 ⊢
    refine kThen_N.mpr (wpS_retV.mpr ⟨none, rfl, rfl, rfl, fun _ _ _ _ _ => rfl, rt, dp, pa, up, hTb, ht01, hR, hHt, ?_⟩)
    have hAe : (fun y => th c li y ∧ tr y ≠ 0) = (fun y => W y ∧ tr y ≠ 0) := funext fun y => propext ⟨fun q => ⟨((hth y).mp q.1).1, q.2⟩, fun q => ⟨(hth y).mpr ⟨q.1, fun e => q.2 (e ▸ ht)⟩, q.2⟩⟩
    rw [hAe]
    exact hF
  · rw [wpS_if]
    refine wpC_gen (fun Q1 hQ1 => ?_)
    simp only [wpS_skip, wpS_break, wpS_cont, wpS_retV, wpS_throw, wpS_seq, wpS_if, wpS_trunc, yS_let, yS_inc, kgK_i, kgK_r, kok_nil, kok_i0, kok_is, kok_r0, kok_rs, kok_n0, kok_ns, xS_put, xS_putOp, xS_ast0, xS_ast1, xS_astOp, wpS_E, wpS_call, wpS_callS, wpS_ret, kThen_N, kThen_B, kThen_C, kThen_R, kThen_T, kNext_N, kNext_C, kNext_B, kNext_R, wpE_K, wpE_KL, xE_I, xE_R, wpE_J, xE_bin, wpE_ladd, wpE_i2l, xE_get, xE_ald0, xE_ald1, wpE_if, xE_max, xE_min, wpE_len, wpA_nil, wpA_snoc, xE_call, xE_callS, xC_C, xC_L, xC_Z, wpC_and, wpC_or, wpC_not, wpC_if, kcmp_0, kcmp_1, kcmp_2, kcmp_3, kcmp_4, kcmp_5, rR_inj, kgO_some, kgO_add, kgO_sub, kgO_mul, kgO_div, kgO_rem, kgO_and, kvI_inl, kvJ_inl, kgI_0, kgI_s, kgR_0, kgR_s, kst_nil, kst_0, kst_s, kNLl_nil, kNLl_i, kNLl_r, kNLl_n, ktag_i, ktag_r, List.length_cons, List.length_nil, List.take_succ_cons, List.take_zero, List.take_nil, List.nil_append, List.cons_append, decide_eq_true_eq, Bool.not_eq_true, Bool.not_eq_true', decide_eq_false_iff_not, ne_eq, Decidable.not_not, true_and, and_true, Nat.reduceAdd, Nat.reduceLeDiff, Nat.reduceEqDiff, Nat.le_refl, not_true_eq_false, not_false_eq_true, reduceIte, eq_self, Int.reduceNeg, Int.reduceEq, Int.reduceLT, Int.reduceLE, Nat.zero_le, Nat.one_ne_zero, ev_trees, ev_trees_arr, Int.toNat_natCast, e24, ht, decide_true, decide_false, Bool.false_eq_true, if_true, if_false, true_and, and_true, not_true_eq_false, not_false_eq_true]
    refine ⟨by omega, ?_⟩
    rw [hQ1]
    refine (if_pos rfl).mpr ?_
    have e : rem n c li fs sn lv tr x0 = mnd n c li fs sn (fs x0) (sn x0) (lv x0 + 1) lv tr := by unfold rem; rw [if_neg ht]
    refine wpS_seq' (fun Q102 hQ102 => ?_)
    simp only [wpS_skip, wpS_break, wpS_cont, wpS_retV, wpS_throw, wpS_seq, wpS_if, wpS_trunc, yS_let, yS_inc, kgK_i, kgK_r, kok_nil, kok_i0, kok_is, kok_r0, kok_rs, kok_n0, kok_ns, xS_put, xS_putOp, xS_ast0, xS_ast1, xS_astOp, wpS_E, wpS_call, wpS_callS, wpS_ret, kThen_N, kThen_B, kThen_C, kThen_R, kThen_T, kNext_N, kNext_C, kNext_B, kNext_R, wpE_K, wpE_KL, xE_I, xE_R, wpE_J, xE_bin, wpE_ladd, wpE_i2l, xE_get, xE_ald0, xE_ald1, wpE_if, xE_max, xE_min, wpE_len, wpA_nil, wpA_snoc, xE_call, xE_callS, xC_C, xC_L, xC_Z, wpC_and, wpC_or, wpC_not, wpC_if, kcmp_0, kcmp_1, kcmp_2, kcmp_3, kcmp_4, kcmp_5, rR_inj, kgO_some, kgO_add, kgO_sub, kgO_mul, kgO_div, kgO_rem, kgO_and, kvI_inl, kvJ_inl, kgI_0, kgI_s, kgR_0, kgR_s, kst_nil, kst_0, kst_s, kNLl_nil, kNLl_i, kNLl_r, kNLl_n, ktag_i, ktag_r, List.length_cons, List.length_nil, List.take_succ_cons, List.take_zero, List.take_nil, List.nil_append, List.cons_append, decide_eq_true_eq, Bool.not_eq_true, Bool.not_eq_true', decide_eq_false_iff_not, ne_eq, Decidable.not_not, true_and, and_true, Nat.reduceAdd, Nat.reduceLeDiff, Nat.reduceEqDiff, Nat.le_refl, not_true_eq_false, not_false_eq_true, reduceIte, eq_self, Int.reduceNeg, Int.reduceEq, Int.reduceLT, Int.reduceLE, Nat.zero_le, Nat.one_ne_zero, ev_trees]
    refine (mend_ok hG hW hTb (fun x hx => hlv x ((hth x).mp hx).1) (hlv x0 h0) hx0 ha hb (Sg_start hH h0 ht hth)).mono ?_
    rintro r s1 ⟨rfl, a1, a2⟩
    refine ⟨rfl, ?_⟩
    rw [hQ102]
    clear hQ102
    refine kThen_N.mpr ?_
    rw [← e] at a2
    refine wpS_gen (fun Q3 hQ3 => ?_)
    simp only [wpS_skip, wpS_break, wpS_cont, wpS_retV, wpS_throw, wpS_seq, wpS_if, wpS_trunc, yS_let, yS_inc, kgK_i, kgK_r, kok_nil, kok_i0, kok_is, kok_r0, kok_rs, kok_n0, kok_ns, xS_put, xS_putOp, xS_ast0, xS_ast1, xS_astOp, wpS_E, wpS_call, wpS_callS, wpS_ret, kThen_N, kThen_B, kThen_C, kThen_R, kThen_T, kNext_N, kNext_C, kNext_B, kNext_R, wpE_K, wpE_KL, xE_I, xE_R, wpE_J, xE_bin, wpE_ladd, wpE_i2l, xE_get, xE_ald0, xE_ald1, wpE_if, xE_max, xE_min, wpE_len, wpA_nil, wpA_snoc, xE_call, xE_callS, xC_C, xC_L, xC_Z, wpC_and, wpC_or, wpC_not, wpC_if, kcmp_0, kcmp_1, kcmp_2, kcmp_3, kcmp_4, kcmp_5, rR_inj, kgO_some, kgO_add, kgO_sub, kgO_mul, kgO_div, kgO_rem, kgO_and, kvI_inl, kvJ_inl, kgI_0, kgI_s, kgR_0, kgR_s, kst_nil, kst_0, kst_s, kNLl_nil, kNLl_i, kNLl_r, kNLl_n, ktag_i, ktag_r, List.length_cons, List.length_nil, List.take_succ_cons, List.take_zero, List.take_nil, List.nil_append, List.cons_append, decide_eq_true_eq, Bool.not_eq_true, Bool.not_eq_true', decide_eq_false_iff_not, ne_eq, Decidable.not_not, true_and, and_true, Nat.reduceAdd, Nat.reduceLeDiff, Nat.reduceEqDiff, Nat.le_refl, not_true_eq_false, not_false_eq_true, reduceIte, eq_self, Int.reduceNeg, Int.reduceEq, Int.reduceLT, Int.reduceLE, Nat.zero_le, Nat.one_ne_zero, ev_trees]
    refine (hangAll_ok hG (hW.agree (fun o k ho => a1 o k (by unfold isWb at ho; omega) (by unfold isWb at ho; omega) (by unfold isWb at ho; omega) (by unfold isWb at ho; omega))) a2 h01 hR).mono ?_
    rintro r s2 ⟨rfl, b1, b2⟩
    refine ⟨rfl, ?_⟩
    rw [hQ3, hQ0]
    exact kThen_N.mpr (wpS_retV.mpr ⟨none, rfl, rfl, rfl, fun o k o1 o2 o3 => by rw [b1 o k o1 o2, a1 o k (by unfold isTr at o1; omega) (by unfold isTr at o1; omega) o2 o3], b2⟩)
/-- counting along the row of arcs: one more where a condition holds -/
theorem treeArcs_ok (hW : Wb σ n c ar li fs sn) (hG : gOk n c ar li fs sn) (hT : Tb σ lv tr) : wpF F_Trees_treeArcs [.inr (.inl 4)] σ (fun r s => s = σ ∧ r = some (.inl (cntP (fun k => tr (li k) ≠ 0) c : Int))) := by
  have hc9 := hG.2.1
  obtain ⟨w1, w2, w3, w4, w5, w6, -⟩ := id hW
  obtain ⟨G, hGG⟩ : ∃ G : Nat → Prop, G = fun k => tr (li k) ≠ 0 := ⟨_, rfl⟩
  rw [← hGG]
  unfold F_Trees_treeArcs
  rw [wpF_kF]
  refine ⟨rfl, rfl, ?_⟩
  unfold s_Trees_treeArcs
  simp only [List.map_cons, List.map_nil]
  refine wpS_seq' (fun Q103 hQ103 => ?_)
  simp only [wpS_skip, wpS_break, wpS_cont, wpS_retV, wpS_throw, wpS_seq, wpS_if, wpS_trunc, yS_let, yS_inc, kgK_i, kgK_r, kok_nil, kok_i0, kok_is, kok_r0, kok_rs, kok_n0, kok_ns, xS_put, xS_putOp, xS_ast0, xS_ast1, xS_astOp, wpS_E, wpS_call, wpS_callS, wpS_ret, kThen_N, kThen_B, kThen_C, kThen_R, kThen_T, kNext_N, kNext_C, kNext_B, kNext_R, wpE_K, wpE_KL, xE_I, xE_R, wpE_J, xE_bin, wpE_ladd, wpE_i2l, xE_get, xE_ald0, xE_ald1, wpE_if, xE_max, xE_min, wpE_len, wpA_nil, wpA_snoc, xE_call, xE_callS, xC_C, xC_L, xC_Z, wpC_and, wpC_or, wpC_not, wpC_if, kcmp_0, kcmp_1, kcmp_2, kcmp_3, kcmp_4, kcmp_5, rR_inj, kgO_some, kgO_add, kgO_sub, kgO_mul, kgO_div, kgO_rem, kgO_and, kvI_inl, kvJ_inl, kgI_0, kgI_s, kgR_0, kgR_s, kst_nil, kst_0, kst_s, kNLl_nil, kNLl_i, kNLl_r, kNLl_n, ktag_i, ktag_r, List.length_cons, List.length_nil, List.take_succ_cons, List.take_zero, List.take_nil, List.nil_append, List.cons_append, decide_eq_true_eq, Bool.not_eq_true, Bool.not_eq_true', decide_eq_false_iff_not, ne_eq, Decidable.not_not, true_and, and_true, Nat.reduceAdd, Nat.reduceLeDiff, Nat.reduceEqDiff, Nat.le_refl, not_true_eq_false, not_false_eq_true, reduceIte, eq_self, Int.reduceNeg, Int.reduceEq, Int.reduceLT, Int.reduceLE, Nat.zero_le, Nat.one_ne_zero]
  repeat refine And.intro (by omega) ?_
  rw [hQ103]
  clear hQ103 Q103
  refine kThen_N.mpr ?_
  refine wpS_seq' (fun Q1 hQ1 => ?_)
  unfold l_Trees_treeArcs_1
  refine wpS_fort (fun i P s => P = [some (.inr (.inl 4)), some (.inl (cntP G i : Int))] ∧ s = σ) 0 c rfl rfl ?_ ?_ ?_ ?_ ?_ ?_ ?_
  · simp only [wpS_skip, wpS_break, wpS_cont, wpS_retV, wpS_throw, wpS_seq, wpS_if, wpS_trunc, yS_let, yS_inc, kgK_i, kgK_r, kok_nil, kok_i0, kok_is, kok_r0, kok_rs, kok_n0, kok_ns, xS_put, xS_putOp, xS_ast0, xS_ast1, xS_astOp, wpS_E, wpS_call, wpS_callS, wpS_ret, kThen_N, kThen_B, kThen_C, kThen_R, kThen_T, kNext_N, kNext_C, kNext_B, kNext_R, wpE_K, wpE_KL, xE_I, xE_R, wpE_J, xE_bin, wpE_ladd, wpE_i2l, xE_get, xE_ald0, xE_ald1, wpE_if, xE_max, xE_min, wpE_len, wpA_nil, wpA_snoc, xE_call, xE_callS, xC_C, xC_L, xC_Z, wpC_and, wpC_or, wpC_not, wpC_if, kcmp_0, kcmp_1, kcmp_2, kcmp_3, kcmp_4, kcmp_5, rR_inj, kgO_some, kgO_add, kgO_sub, kgO_mul, kgO_div, kgO_rem, kgO_and, kvI_inl, kvJ_inl, kgI_0, kgI_s, kgR_0, kgR_s, kst_nil, kst_0, kst_s, kNLl_nil, kNLl_i, kNLl_r, kNLl_n, ktag_i, ktag_r, List.length_cons, List.length_nil, List.take_succ_cons, List.take_zero, List.take_nil, List.nil_append, List.cons_append, decide_eq_true_eq, Bool.not_eq_true, Bool.not_eq_true', decide_eq_false_iff_not, ne_eq, Decidable.not_not, true_and, and_true, Nat.reduceAdd, Nat.reduceLeDiff, Nat.reduceEqDiff, Nat.le_refl, not_true_eq_false, not_false_eq_true, reduceIte, eq_self, Int.reduceNeg, Int.reduceEq, Int.reduceLT, Int.reduceLE, Nat.zero_le, Nat.one_ne_zero]; trivial
  · omega
  · exact ⟨rfl, rfl⟩
  · rintro i P s ⟨rfl, -⟩; exact ⟨rfl, rfl⟩
  · rintro i P s h0 h1 ⟨rfl, rfl⟩
    simp only [wpS_skip, wpS_break, wpS_cont, wpS_retV, wpS_throw, wpS_seq, wpS_if, wpS_trunc, yS_let, yS_inc, kgK_i, kgK_r, kok_nil, kok_i0, kok_is, kok_r0, kok_rs, kok_n0, kok_ns, xS_put, xS_putOp, xS_ast0, xS_ast1, xS_astOp, wpS_E, wpS_call, wpS_callS, wpS_ret, kThen_N, kThen_B, kThen_C, kThen_R, kThen_T, kNext_N, kNext_C, kNext_B, kNext_R, wpE_K, wpE_KL, xE_I, xE_R, wpE_J, xE_bin, wpE_ladd, wpE_i2l, xE_get, xE_ald0, xE_ald1, wpE_if, xE_max, xE_min, wpE_len, wpA_nil, wpA_snoc, xE_call, xE_callS, xC_C, xC_L, xC_Z, wpC_and, wpC_or, wpC_not, wpC_if, kcmp_0, kcmp_1, kcmp_2, kcmp_3, kcmp_4, kcmp_5, rR_inj, kgO_some, kgO_add, kgO_sub, kgO_mul, kgO_div, kgO_rem, kgO_and, kvI_inl, kvJ_inl, kgI_0, kgI_s, kgR_0, kgR_s, kst_nil, kst_0, kst_s, kNLl_nil, kNLl_i, kNLl_r, kNLl_n, ktag_i, ktag_r, List.length_cons, List.length_nil, List.take_succ_cons, List.take_zero, List.take_nil, List.nil_append, List.cons_append, decide_eq_true_eq, Bool.not_eq_true, Bool.not_eq_true', decide_eq_false_iff_not, ne_eq, Decidable.not_not, true_and, and_true, Nat.reduceAdd, Nat.reduceLeDiff, Nat.reduceEqDiff, Nat.le_refl, not_true_eq_false, not_false_eq_true, reduceIte, eq_self, Int.reduceNeg, Int.reduceEq, Int.reduceLT, Int.reduceLE, Nat.zero_le, Nat.one_ne_zero, ev_trees, ev_web, w2]
  · rintro i P s h0 h1 ⟨rfl, rfl⟩
    have e17 := w6 i h1
    have x5 : li i < 5000 := by have := (hG.2.2.2.1 i h1).1; have := hG.2.2.1; omega
    have e24 := hT.2 (li i)
    have hb := @cntP_bound G i
    have hq : G i ↔ tr (li i) ≠ 0 := by rw [hGG]
    refine wpS_gen (fun Q2 hQ2 => ?_)
    by_cases q : tr (li i) = 0
    · simp only [wpS_skip, wpS_break, wpS_cont, wpS_retV, wpS_throw, wpS_seq, wpS_if, wpS_trunc, yS_let, yS_inc, kgK_i, kgK_r, kok_nil, kok_i0, kok_is, kok_r0, kok_rs, kok_n0, kok_ns, xS_put, xS_putOp, xS_ast0, xS_ast1, xS_astOp, wpS_E, wpS_call, wpS_callS, wpS_ret, kThen_N, kThen_B, kThen_C, kThen_R, kThen_T, kNext_N, kNext_C, kNext_B, kNext_R, wpE_K, wpE_KL, xE_I, xE_R, wpE_J, xE_bin, wpE_ladd, wpE_i2l, xE_get, xE_ald0, xE_ald1, wpE_if, xE_max, xE_min, wpE_len, wpA_nil, wpA_snoc, xE_call, xE_callS, xC_C, xC_L, xC_Z, wpC_and, wpC_or, wpC_not, wpC_if, kcmp_0, kcmp_1, kcmp_2, kcmp_3, kcmp_4, kcmp_5, rR_inj, kgO_some, kgO_add, kgO_sub, kgO_mul, kgO_div, kgO_rem, kgO_and, kvI_inl, kvJ_inl, kgI_0, kgI_s, kgR_0, kgR_s, kst_nil, kst_0, kst_s, kNLl_nil, kNLl_i, kNLl_r, kNLl_n, ktag_i, ktag_r, List.length_cons, List.length_nil, List.take_succ_cons, List.take_zero, List.take_nil, List.nil_append, List.cons_append, decide_eq_true_eq, Bool.not_eq_true, Bool.not_eq_true', decide_eq_false_iff_not, ne_eq, Decidable.not_not, true_and, and_true, Nat.reduceAdd, Nat.reduceLeDiff, Nat.reduceEqDiff, Nat.le_refl, not_true_eq_false, not_false_eq_true, reduceIte, eq_self, Int.reduceNeg, Int.reduceEq, Int.reduceLT, Int.reduceLE, Nat.zero_le, Nat.one_ne_zero, ev_trees, ev_trees_arr, ev_web, ev_web_arr, Int.toNat_natCast, e17, e24, q, decide_true, decide_false, Bool.false_eq_true, if_true, if_false, true_and, and_true, not_true_eq_false, not_false_eq_true]
      repeat refine And.intro (by omega) ?_
      rw [hQ2]
      refine kStep_N (P := [some (.inr (.inl 4)), some (.inl (cntP G (i + 1) : Int))]) ?_ ⟨rfl, rfl⟩
      rw [cntP_succ_neg (fun h => hq.mp h q)]; rfl
    · simp only [wpS_skip, wpS_break, wpS_cont, wpS_retV, wpS_throw, wpS_seq, wpS_if, wpS_trunc, yS_let, yS_inc, kgK_i, kgK_r, kok_nil, kok_i0, kok_is, kok_r0, kok_rs, kok_n0, kok_ns, xS_put, xS_putOp, xS_ast0, xS_ast1, xS_astOp, wpS_E, wpS_call, wpS_callS, wpS_ret, kThen_N, kThen_B, kThen_C, kThen_R, kThen_T, kNext_N, kNext_C, kNext_B, kNext_R, wpE_K, wpE_KL, xE_I, xE_R, wpE_J, xE_bin, wpE_ladd, wpE_i2l, xE_get, xE_ald0, xE_ald1, wpE_if, xE_max, xE_min, wpE_len, wpA_nil, wpA_snoc, xE_call, xE_callS, xC_C, xC_L, xC_Z, wpC_and, wpC_or, wpC_not, wpC_if, kcmp_0, kcmp_1, kcmp_2, kcmp_3, kcmp_4, kcmp_5, rR_inj, kgO_some, kgO_add, kgO_sub, kgO_mul, kgO_div, kgO_rem, kgO_and, kvI_inl, kvJ_inl, kgI_0, kgI_s, kgR_0, kgR_s, kst_nil, kst_0, kst_s, kNLl_nil, kNLl_i, kNLl_r, kNLl_n, ktag_i, ktag_r, List.length_cons, List.length_nil, List.take_succ_cons, List.take_zero, List.take_nil, List.nil_append, List.cons_append, decide_eq_true_eq, Bool.not_eq_true, Bool.not_eq_true', decide_eq_false_iff_not, ne_eq, Decidable.not_not, true_and, and_true, Nat.reduceAdd, Nat.reduceLeDiff, Nat.reduceEqDiff, Nat.le_refl, not_true_eq_false, not_false_eq_true, reduceIte, eq_self, Int.reduceNeg, Int.reduceEq, Int.reduceLT, Int.reduceLE, Nat.zero_le, Nat.one_ne_zero, ev_trees, ev_trees_arr, ev_web, ev_web_arr, Int.toNat_natCast, e17, e24, q, decide_true, decide_false, Bool.false_eq_true, if_true, if_false, true_and, and_true, not_true_eq_false, not_false_eq_true]
      repeat refine And.intro (by omega) ?_
      rw [hQ2]
      refine kStep_N (P := [some (.inr (.inl 4)), some (.inl (cntP G (i + 1) : Int))]) ?_ ⟨rfl, rfl⟩
      rw [cntP_succ_pos (hq.mpr q)]; rfl
  · rintro P s ⟨rfl, rfl⟩
    rw [hQ1]
    refine kThen_N.mpr ?_
    refine wpS_gen (fun Q104 hQ104 => ?_)
    simp only [wpS_skip, wpS_break, wpS_cont, wpS_retV, wpS_throw, wpS_seq, wpS_if, wpS_trunc, yS_let, yS_inc, kgK_i, kgK_r, kok_nil, kok_i0, kok_is, kok_r0, kok_rs, kok_n0, kok_ns, xS_put, xS_putOp, xS_ast0, xS_ast1, xS_astOp, wpS_E, wpS_call, wpS_callS, wpS_ret, kThen_N, kThen_B, kThen_C, kThen_R, kThen_T, kNext_N, kNext_C, kNext_B, kNext_R, wpE_K, wpE_KL, xE_I, xE_R, wpE_J, xE_bin, wpE_ladd, wpE_i2l, xE_get, xE_ald0, xE_ald1, wpE_if, xE_max, xE_min, wpE_len, wpA_nil, wpA_snoc, xE_call, xE_callS, xC_C, xC_L, xC_Z, wpC_and, wpC_or, wpC_not, wpC_if, kcmp_0, kcmp_1, kcmp_2, kcmp_3, kcmp_4, kcmp_5, rR_inj, kgO_some, kgO_add, kgO_sub, kgO_mul, kgO_div, kgO_rem, kgO_and, kvI_inl, kvJ_inl, kgI_0, kgI_s, kgR_0, kgR_s, kst_nil, kst_0, kst_s, kNLl_nil, kNLl_i, kNLl_r, kNLl_n, ktag_i, ktag_r, List.length_cons, List.length_nil, List.take_succ_cons, List.take_zero, List.take_nil, List.nil_append, List.cons_append, decide_eq_true_eq, Bool.not_eq_true, Bool.not_eq_true', decide_eq_false_iff_not, ne_eq, Decidable.not_not, true_and, and_true, Nat.reduceAdd, Nat.reduceLeDiff, Nat.reduceEqDiff, Nat.le_refl, not_true_eq_false, not_false_eq_true, reduceIte, eq_self, Int.reduceNeg, Int.reduceEq, Int.reduceLT, Int.reduceLE, Nat.zero_le, Nat.one_ne_zero]
    repeat refine And.intro (by omega) ?_
    rw [hQ104]
    clear hQ104 Q104
    exact ⟨_, rfl, rfl, rfl, rfl⟩
theorem treesParts_ok (hW : Wb σ n c ar li fs sn) (hG : gOk n c ar li fs sn) (hT : Trs σ n c li fs sn lv tr rt dp pa up) : wpF F_Trees_parts [.inr (.inl 4)] σ (fun r s => s = σ ∧ r = some (.inl (cntP (fun v => rt v = v) n : Int))) := by
  have hc9 := hG.2.1
  have hn3 := hG.1
  obtain ⟨w1, -⟩ := id hW
  unfold F_Trees_parts
  rw [wpF_kF]
  refine ⟨rfl, rfl, ?_⟩
  unfold s_Trees_parts
  simp only [List.map_cons, List.map_nil]
  refine wpS_gen (fun Q1 hQ1 => ?_)
  simp only [wpS_skip, wpS_break, wpS_cont, wpS_retV, wpS_throw, wpS_seq, wpS_if, wpS_trunc, yS_let, yS_inc, kgK_i, kgK_r, kok_nil, kok_i0, kok_is, kok_r0, kok_rs, kok_n0, kok_ns, xS_put, xS_putOp, xS_ast0, xS_ast1, xS_astOp, wpS_E, wpS_call, wpS_callS, wpS_ret, kThen_N, kThen_B, kThen_C, kThen_R, kThen_T, kNext_N, kNext_C, kNext_B, kNext_R, wpE_K, wpE_KL, xE_I, xE_R, wpE_J, xE_bin, wpE_ladd, wpE_i2l, xE_get, xE_ald0, xE_ald1, wpE_if, xE_max, xE_min, wpE_len, wpA_nil, wpA_snoc, xE_call, xE_callS, xC_C, xC_L, xC_Z, wpC_and, wpC_or, wpC_not, wpC_if, kcmp_0, kcmp_1, kcmp_2, kcmp_3, kcmp_4, kcmp_5, rR_inj, kgO_some, kgO_add, kgO_sub, kgO_mul, kgO_div, kgO_rem, kgO_and, kvI_inl, kvJ_inl, kgI_0, kgI_s, kgR_0, kgR_s, kst_nil, kst_0, kst_s, kNLl_nil, kNLl_i, kNLl_r, kNLl_n, ktag_i, ktag_r, List.length_cons, List.length_nil, List.take_succ_cons, List.take_zero, List.take_nil, List.nil_append, List.cons_append, decide_eq_true_eq, Bool.not_eq_true, Bool.not_eq_true', decide_eq_false_iff_not, ne_eq, Decidable.not_not, true_and, and_true, Nat.reduceAdd, Nat.reduceLeDiff, Nat.reduceEqDiff, Nat.le_refl, not_true_eq_false, not_false_eq_true, reduceIte, eq_self, Int.reduceNeg, Int.reduceEq, Int.reduceLT, Int.reduceLE, Nat.zero_le, Nat.one_ne_zero, ev_trees, ev_web, w1]
  refine (treeArcs_ok hW hG hT.1).mono ?_
  rintro r s ⟨hs, rfl⟩
  subst s
  have h1 := FO.count (c := c) hT.2.2.2.2 (li := li) (fun x hx => hx.1) hG.inj
  have h2 : cntP (fun k => tr (li k) ≠ 0) c = cntP (fun k => th c li (li k) ∧ tr (li k) ≠ 0) c := cntP_congr (fun k hk => ⟨fun q => ⟨⟨k, hk, rfl⟩, q⟩, fun q => q.2⟩)
  have hb := @cntP_bound (fun k => tr (li k) ≠ 0) c
  obtain ⟨m, hm⟩ : ∃ m, m = cntP (fun k => tr (li k) ≠ 0) c := ⟨_, rfl⟩
  rw [← hm] at hb h2 ⊢
  simp only [wpS_skip, wpS_break, wpS_cont, wpS_retV, wpS_throw, wpS_seq, wpS_if, wpS_trunc, yS_let, yS_inc, kgK_i, kgK_r, kok_nil, kok_i0, kok_is, kok_r0, kok_rs, kok_n0, kok_ns, xS_put, xS_putOp, xS_ast0, xS_ast1, xS_astOp, wpS_E, wpS_call, wpS_callS, wpS_ret, kThen_N, kThen_B, kThen_C, kThen_R, kThen_T, kNext_N, kNext_C, kNext_B, kNext_R, wpE_K, wpE_KL, xE_I, xE_R, wpE_J, xE_bin, wpE_ladd, wpE_i2l, xE_get, xE_ald0, xE_ald1, wpE_if, xE_max, xE_min, wpE_len, wpA_nil, wpA_snoc, xE_call, xE_callS, xC_C, xC_L, xC_Z, wpC_and, wpC_or, wpC_not, wpC_if, kcmp_0, kcmp_1, kcmp_2, kcmp_3, kcmp_4, kcmp_5, rR_inj, kgO_some, kgO_add, kgO_sub, kgO_mul, kgO_div, kgO_rem, kgO_and, kvI_inl, kvJ_inl, kgI_0, kgI_s, kgR_0, kgR_s, kst_nil, kst_0, kst_s, kNLl_nil, kNLl_i, kNLl_r, kNLl_n, ktag_i, ktag_r, List.length_cons, List.length_nil, List.take_succ_cons, List.take_zero, List.take_nil, List.nil_append, List.cons_append, decide_eq_true_eq, Bool.not_eq_true, Bool.not_eq_true', decide_eq_false_iff_not, ne_eq, Decidable.not_not, true_and, and_true, Nat.reduceAdd, Nat.reduceLeDiff, Nat.reduceEqDiff, Nat.le_refl, not_true_eq_false, not_false_eq_true, reduceIte, eq_self, Int.reduceNeg, Int.reduceEq, Int.reduceLT, Int.reduceLE, Nat.zero_le, Nat.one_ne_zero]
  repeat refine And.intro (by omega) ?_
  rw [hQ1]
  refine ⟨_, rfl, rfl, rfl, ?_⟩
  have e : (n : Int) - (m : Int) = (cntP (fun v => rt v = v) n : Int) := by omega
  rw [e]
end T4
