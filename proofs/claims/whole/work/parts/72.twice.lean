/-! TWICE -/
section TW
variable {σ : kS} {n c ar : Nat} {li fs sn lv : Nat → Nat} {tr : Nat → Int} {rt dp : Nat → Nat} {pa up : Nat → Int} {C : Nat → Prop}
/-- the row top leads along covered nodes, and from each covered one -/
def Tp (s : kS) (n : Nat) (dp : Nat → Nat) (pa : Nat → Int) (C : Nat → Prop) : Prop :=
  ∀ v, v < n → ∃ d, d ≤ dp v ∧ s 32 v = (clb pa d v : Int) ∧ (∀ k, k < d → C (clb pa k v)) ∧ (d = 0 → ¬ C v)
/-- u is the first node above v (v with it) that is not covered -/
def topIs (dp : Nat → Nat) (pa : Nat → Int) (C : Nat → Prop) (v u : Nat) : Prop := ∃ k, k ≤ dp v ∧ u = clb pa k v ∧ (∀ j, j < k → C (clb pa j v)) ∧ ¬ C u
theorem topIs.uniq {v u w : Nat} (h1 : topIs dp pa C v u) (h2 : topIs dp pa C v w) : u = w := by
  obtain ⟨k, k1, rfl, k3, k4⟩ := h1
  obtain ⟨j, j1, rfl, j3, j4⟩ := h2
  rcases Nat.lt_trichotomy k j with z | z | z
  · exact absurd (j3 k z) k4
  · rw [z]
  · exact absurd (k3 j z) j4
theorem topOf_ok {A : Nat → Prop} {v : Nat} (hL : LF n A fs sn rt dp pa up) (hn : n ≤ 300) (hT : Tp σ n dp pa C) (hv : v < n) :
    wpF F_Twice_topOf [.inr (.inl 6), .inl (v : Int)] σ (fun r s => (∀ o, o ≠ 32 → s o = σ o) ∧ Tp s n dp pa C ∧ ∃ u : Nat, r = some (.inl (u : Int)) ∧ topIs dp pa C v u) := by
  have hdv := hL.dp_lt hv
  unfold F_Twice_topOf
  rw [wpF_kF]
  refine ⟨rfl, rfl, ?_⟩
  unfold s_Twice_topOf
  simp only [List.map_cons, List.map_nil]
  refine wpS_seq' (fun Q101 hQ101 => ?_)
  simp only [wpS_skip, wpS_break, wpS_cont, wpS_retV, wpS_throw, wpS_seq, wpS_if, wpS_trunc, yS_let, yS_inc, kgK_i, kgK_r, kok_nil, kok_i0, kok_is, kok_r0, kok_rs, kok_n0, kok_ns, xS_put, xS_putOp, xS_ast0, xS_ast1, xS_astOp, wpS_E, wpS_call, wpS_callS, wpS_ret, kThen_N, kThen_B, kThen_C, kThen_R, kThen_T, kNext_N, kNext_C, kNext_B, kNext_R, wpE_K, wpE_KL, xE_I, xE_R, wpE_J, xE_bin, wpE_ladd, wpE_i2l, xE_get, xE_ald0, xE_ald1, wpE_if, xE_max, xE_min, wpE_len, wpA_nil, wpA_snoc, xE_call, xE_callS, xC_C, xC_L, xC_Z, wpC_and, wpC_or, wpC_not, wpC_if, kcmp_0, kcmp_1, kcmp_2, kcmp_3, kcmp_4, kcmp_5, rR_inj, kgO_some, kgO_add, kgO_sub, kgO_mul, kgO_div, kgO_rem, kgO_and, kvI_inl, kvJ_inl, kgI_0, kgI_s, kgR_0, kgR_s, kst_nil, kst_0, kst_s, kNLl_nil, kNLl_i, kNLl_r, kNLl_n, ktag_i, ktag_r, List.length_cons, List.length_nil, List.take_succ_cons, List.take_zero, List.take_nil, List.nil_append, List.cons_append, decide_eq_true_eq, Bool.not_eq_true, Bool.not_eq_true', decide_eq_false_iff_not, ne_eq, Decidable.not_not, true_and, and_true, Nat.reduceAdd, Nat.reduceLeDiff, Nat.reduceEqDiff, Nat.le_refl, not_true_eq_false, not_false_eq_true, reduceIte, eq_self, Int.reduceNeg, Int.reduceEq, Int.reduceLT, Int.reduceLE, Nat.zero_le, Nat.one_ne_zero]
  repeat refine And.intro (by omega) ?_
  rw [hQ101]
  clear hQ101 Q101
  refine kThen_N.mpr ?_
  refine wpS_seq' (fun Q1 hQ1 => ?_)
  unfold l_Twice_topOf_1
  refine wpS_fortG (fun i P s => ∃ k, i ≤ k ∧ k ≤ dp v ∧ P = [some (.inr (.inl 6)), some (.inl (v : Int)), some (.inl (clb pa k v : Int))] ∧ (∀ o, o ≠ 32 → s o = σ o) ∧ Tp s n dp pa C ∧ ∀ j, j < k → C (clb pa j v)) (fun i => (i : Int)) (dp v) rfl rfl ?_ ?_ ?_ ?_
  · simp only [wpS_skip, wpS_break, wpS_cont, wpS_retV, wpS_throw, wpS_seq, wpS_if, wpS_trunc, yS_let, yS_inc, kgK_i, kgK_r, kok_nil, kok_i0, kok_is, kok_r0, kok_rs, kok_n0, kok_ns, xS_put, xS_putOp, xS_ast0, xS_ast1, xS_astOp, wpS_E, wpS_call, wpS_callS, wpS_ret, kThen_N, kThen_B, kThen_C, kThen_R, kThen_T, kNext_N, kNext_C, kNext_B, kNext_R, wpE_K, wpE_KL, xE_I, xE_R, wpE_J, xE_bin, wpE_ladd, wpE_i2l, xE_get, xE_ald0, xE_ald1, wpE_if, xE_max, xE_min, wpE_len, wpA_nil, wpA_snoc, xE_call, xE_callS, xC_C, xC_L, xC_Z, wpC_and, wpC_or, wpC_not, wpC_if, kcmp_0, kcmp_1, kcmp_2, kcmp_3, kcmp_4, kcmp_5, rR_inj, kgO_some, kgO_add, kgO_sub, kgO_mul, kgO_div, kgO_rem, kgO_and, kvI_inl, kvJ_inl, kgI_0, kgI_s, kgR_0, kgR_s, kst_nil, kst_0, kst_s, kNLl_nil, kNLl_i, kNLl_r, kNLl_n, ktag_i, ktag_r, List.length_cons, List.length_nil, List.take_succ_cons, List.take_zero, List.take_nil, List.nil_append, List.cons_append, decide_eq_true_eq, Bool.not_eq_true, Bool.not_eq_true', decide_eq_false_iff_not, ne_eq, Decidable.not_not, true_and, and_true, Nat.reduceAdd, Nat.reduceLeDiff, Nat.reduceEqDiff, Nat.le_refl, not_true_eq_false, not_false_eq_true, reduceIte, eq_self, Int.reduceNeg, Int.reduceEq, Int.reduceLT, Int.reduceLE, Nat.zero_le, Nat.one_ne_zero]; trivial
  · exact ⟨0, Nat.le_refl _, Nat.zero_le _, rfl, fun _ _ => rfl, hT, fun j hj => by omega⟩
  · rintro i P s ⟨k, -, -, rfl, -⟩; exact ⟨rfl, rfl⟩
  · rintro i P s hi ⟨k, k1, k2, rfl, k3, k4, k5⟩
    obtain ⟨w, hw⟩ : ∃ w, w = clb pa k v := ⟨_, rfl⟩
    have hcl := hL.climb hv k2
    rw [← hw] at hcl ⊢
    obtain ⟨hwn, hwd, -⟩ := hcl
    obtain ⟨d, d1, d2, d3, d4⟩ := k4 w hwn
    have hi3 : (i : Int) < 300 := by omega
    refine wpC_gen (fun Q2 hQ2 => ?_)
    simp only [wpS_skip, wpS_break, wpS_cont, wpS_retV, wpS_throw, wpS_seq, wpS_if, wpS_trunc, yS_let, yS_inc, kgK_i, kgK_r, kok_nil, kok_i0, kok_is, kok_r0, kok_rs, kok_n0, kok_ns, xS_put, xS_putOp, xS_ast0, xS_ast1, xS_astOp, wpS_E, wpS_call, wpS_callS, wpS_ret, kThen_N, kThen_B, kThen_C, kThen_R, kThen_T, kNext_N, kNext_C, kNext_B, kNext_R, wpE_K, wpE_KL, xE_I, xE_R, wpE_J, xE_bin, wpE_ladd, wpE_i2l, xE_get, xE_ald0, xE_ald1, wpE_if, xE_max, xE_min, wpE_len, wpA_nil, wpA_snoc, xE_call, xE_callS, xC_C, xC_L, xC_Z, wpC_and, wpC_or, wpC_not, wpC_if, kcmp_0, kcmp_1, kcmp_2, kcmp_3, kcmp_4, kcmp_5, rR_inj, kgO_some, kgO_add, kgO_sub, kgO_mul, kgO_div, kgO_rem, kgO_and, kvI_inl, kvJ_inl, kgI_0, kgI_s, kgR_0, kgR_s, kst_nil, kst_0, kst_s, kNLl_nil, kNLl_i, kNLl_r, kNLl_n, ktag_i, ktag_r, List.length_cons, List.length_nil, List.take_succ_cons, List.take_zero, List.take_nil, List.nil_append, List.cons_append, decide_eq_true_eq, Bool.not_eq_true, Bool.not_eq_true', decide_eq_false_iff_not, ne_eq, Decidable.not_not, true_and, and_true, Nat.reduceAdd, Nat.reduceLeDiff, Nat.reduceEqDiff, Nat.le_refl, not_true_eq_false, not_false_eq_true, reduceIte, eq_self, Int.reduceNeg, Int.reduceEq, Int.reduceLT, Int.reduceLE, Nat.zero_le, Nat.one_ne_zero, ev_twice, ev_twice_arr, Int.toNat_natCast, hi3, decide_true, decide_false, Bool.false_eq_true, if_true, if_false, true_and, and_true, not_true_eq_false, not_false_eq_true]
    refine ⟨by omega, ?_⟩
    rw [hQ2]
    by_cases e : d = 0
    · subst e
      have e2 : s 32 w = (w : Int) := d2
      have : (decide (s 32 w = (w : Int))) = true := decide_eq_true e2
      refine ⟨rfl, Or.inr ⟨by simp [e2], ?_⟩⟩
      rw [hQ1]
      refine kThen_N.mpr ?_
      refine wpS_gen (fun Q102 hQ102 => ?_)
      simp only [wpS_skip, wpS_break, wpS_cont, wpS_retV, wpS_throw, wpS_seq, wpS_if, wpS_trunc, yS_let, yS_inc, kgK_i, kgK_r, kok_nil, kok_i0, kok_is, kok_r0, kok_rs, kok_n0, kok_ns, xS_put, xS_putOp, xS_ast0, xS_ast1, xS_astOp, wpS_E, wpS_call, wpS_callS, wpS_ret, kThen_N, kThen_B, kThen_C, kThen_R, kThen_T, kNext_N, kNext_C, kNext_B, kNext_R, wpE_K, wpE_KL, xE_I, xE_R, wpE_J, xE_bin, wpE_ladd, wpE_i2l, xE_get, xE_ald0, xE_ald1, wpE_if, xE_max, xE_min, wpE_len, wpA_nil, wpA_snoc, xE_call, xE_callS, xC_C, xC_L, xC_Z, wpC_and, wpC_or, wpC_not, wpC_if, kcmp_0, kcmp_1, kcmp_2, kcmp_3, kcmp_4, kcmp_5, rR_inj, kgO_some, kgO_add, kgO_sub, kgO_mul, kgO_div, kgO_rem, kgO_and, kvI_inl, kvJ_inl, kgI_0, kgI_s, kgR_0, kgR_s, kst_nil, kst_0, kst_s, kNLl_nil, kNLl_i, kNLl_r, kNLl_n, ktag_i, ktag_r, List.length_cons, List.length_nil, List.take_succ_cons, List.take_zero, List.take_nil, List.nil_append, List.cons_append, decide_eq_true_eq, Bool.not_eq_true, Bool.not_eq_true', decide_eq_false_iff_not, ne_eq, Decidable.not_not, true_and, and_true, Nat.reduceAdd, Nat.reduceLeDiff, Nat.reduceEqDiff, Nat.le_refl, not_true_eq_false, not_false_eq_true, reduceIte, eq_self, Int.reduceNeg, Int.reduceEq, Int.reduceLT, Int.reduceLE, Nat.zero_le, Nat.one_ne_zero]
      repeat refine And.intro (by omega) ?_
      rw [hQ102]
      clear hQ102 Q102
      exact ⟨_, rfl, rfl, k3, k4, w, rfl, k, k2, hw, k5, d4 rfl⟩
    · have hx := hL.climb hwn d1
      have hne : ¬ s 32 w = (w : Int) := by
        intro q
        have q2 : clb pa d w = w := by omega
        rw [q2] at hx; omega
      refine ⟨rfl, Or.inl ⟨by simp [hne], by omega, by omega, by omega, by omega, ?_⟩⟩
      obtain ⟨y, hy⟩ : ∃ y, y = clb pa d w := ⟨_, rfl⟩
      rw [← hy] at hx d2
      obtain ⟨d', e1, e2, e3, e4⟩ := k4 y hx.1
      have e2' : s 32 y = (clb pa d' y : Int) := e2
      have hz := hL.climb hx.1 e1
      obtain ⟨z, hzz⟩ : ∃ z, z = clb pa d' y := ⟨_, rfl⟩
      rw [← hzz] at hz e2
      have hadd : clb pa (d + d') w = z := by rw [clb_add, ← hy, ← hzz]
      have hC : ∀ j, j < d + d' → C (clb pa j w) := by
        intro j hj
        by_cases q : j < d
        · exact d3 j q
        · have : clb pa j w = clb pa (j - d) y := by rw [hy, ← clb_add]; congr 1; omega
          rw [this]; exact e3 _ (by omega)
      refine wpS_seq' (fun Q103 hQ103 => ?_)
      simp only [wpS_skip, wpS_break, wpS_cont, wpS_retV, wpS_throw, wpS_seq, wpS_if, wpS_trunc, yS_let, yS_inc, kgK_i, kgK_r, kok_nil, kok_i0, kok_is, kok_r0, kok_rs, kok_n0, kok_ns, xS_put, xS_putOp, xS_ast0, xS_ast1, xS_astOp, wpS_E, wpS_call, wpS_callS, wpS_ret, kThen_N, kThen_B, kThen_C, kThen_R, kThen_T, kNext_N, kNext_C, kNext_B, kNext_R, wpE_K, wpE_KL, xE_I, xE_R, wpE_J, xE_bin, wpE_ladd, wpE_i2l, xE_get, xE_ald0, xE_ald1, wpE_if, xE_max, xE_min, wpE_len, wpA_nil, wpA_snoc, xE_call, xE_callS, xC_C, xC_L, xC_Z, wpC_and, wpC_or, wpC_not, wpC_if, kcmp_0, kcmp_1, kcmp_2, kcmp_3, kcmp_4, kcmp_5, rR_inj, kgO_some, kgO_add, kgO_sub, kgO_mul, kgO_div, kgO_rem, kgO_and, kvI_inl, kvJ_inl, kgI_0, kgI_s, kgR_0, kgR_s, kst_nil, kst_0, kst_s, kNLl_nil, kNLl_i, kNLl_r, kNLl_n, ktag_i, ktag_r, List.length_cons, List.length_nil, List.take_succ_cons, List.take_zero, List.take_nil, List.nil_append, List.cons_append, decide_eq_true_eq, Bool.not_eq_true, Bool.not_eq_true', decide_eq_false_iff_not, ne_eq, Decidable.not_not, true_and, and_true, Nat.reduceAdd, Nat.reduceLeDiff, Nat.reduceEqDiff, Nat.le_refl, not_true_eq_false, not_false_eq_true, reduceIte, eq_self, Int.reduceNeg, Int.reduceEq, Int.reduceLT, Int.reduceLE, Nat.zero_le, Nat.one_ne_zero, ev_twice, ev_twice_arr, Int.toNat_natCast, d2, e2]
      repeat refine And.intro (by omega) ?_
      rw [hQ103]
      clear hQ103
      refine kThen_N.mpr ?_
      have e3' : kup s 32 w (z : Int) 32 w = (z : Int) := by rw [kup_eq, if_pos rfl]
      refine wpS_gen (fun Q4 hQ4 => ?_)
      simp only [wpS_skip, wpS_break, wpS_cont, wpS_retV, wpS_throw, wpS_seq, wpS_if, wpS_trunc, yS_let, yS_inc, kgK_i, kgK_r, kok_nil, kok_i0, kok_is, kok_r0, kok_rs, kok_n0, kok_ns, xS_put, xS_putOp, xS_ast0, xS_ast1, xS_astOp, wpS_E, wpS_call, wpS_callS, wpS_ret, kThen_N, kThen_B, kThen_C, kThen_R, kThen_T, kNext_N, kNext_C, kNext_B, kNext_R, wpE_K, wpE_KL, xE_I, xE_R, wpE_J, xE_bin, wpE_ladd, wpE_i2l, xE_get, xE_ald0, xE_ald1, wpE_if, xE_max, xE_min, wpE_len, wpA_nil, wpA_snoc, xE_call, xE_callS, xC_C, xC_L, xC_Z, wpC_and, wpC_or, wpC_not, wpC_if, kcmp_0, kcmp_1, kcmp_2, kcmp_3, kcmp_4, kcmp_5, rR_inj, kgO_some, kgO_add, kgO_sub, kgO_mul, kgO_div, kgO_rem, kgO_and, kvI_inl, kvJ_inl, kgI_0, kgI_s, kgR_0, kgR_s, kst_nil, kst_0, kst_s, kNLl_nil, kNLl_i, kNLl_r, kNLl_n, ktag_i, ktag_r, List.length_cons, List.length_nil, List.take_succ_cons, List.take_zero, List.take_nil, List.nil_append, List.cons_append, decide_eq_true_eq, Bool.not_eq_true, Bool.not_eq_true', decide_eq_false_iff_not, ne_eq, Decidable.not_not, true_and, and_true, Nat.reduceAdd, Nat.reduceLeDiff, Nat.reduceEqDiff, Nat.le_refl, not_true_eq_false, not_false_eq_true, reduceIte, eq_self, Int.reduceNeg, Int.reduceEq, Int.reduceLT, Int.reduceLE, Nat.zero_le, Nat.one_ne_zero, ev_twice, ev_twice_arr, Int.toNat_natCast, e3']
      refine ⟨by omega, ?_⟩
      rw [hQ4]
      have hkz : clb pa (k + (d + d')) v = z := by rw [clb_add, ← hw, hadd]
      refine kStep_N (P := [some (.inr (.inl 6)), some (.inl (v : Int)), some (.inl (z : Int))]) rfl ⟨k + (d + d'), by omega, by omega, by rw [hkz], fun o ho => by rw [kup_ne ho]; exact k3 o ho, fun t ht => ?_, fun j hj => ?_⟩
      · by_cases q : t = w
        · subst q
          exact ⟨d + d', by omega, by rw [e3', hadd], hC, fun h => by omega⟩
        · obtain ⟨b, b1, b2, b3, b4⟩ := k4 t ht
          exact ⟨b, b1, by rw [kup_eq, if_neg q]; exact b2, b3, b4⟩
      · by_cases q : j < k
        · exact k5 j q
        · have : clb pa j v = clb pa (j - k) w := by rw [hw, ← clb_add]; congr 1; omega
          rw [this]; exact hC _ (by omega)
/-- one more covered node -/
def addC (D : Nat → Prop) (u : Nat) (w : Nat) : Prop := D w ∨ w = u
theorem tie_step {A : Nat → Prop} {D : Nat → Prop} {x y u v : Nat} (hL : LF n A fs sn rt dp pa up) (hx : x < n) (hy : y < n) (hr : rt x = rt y) (h1 : topIs dp pa D x u) (h2 : topIs dp pa D y v) (hne : u ≠ v) (hle : dp v ≤ dp u) :
    ∃ p : Nat, pa u = (p : Int) ∧ p < n ∧ u < n ∧ v < n ∧ dp u = dp p + 1 ∧ sub dp pa u x ∧ ¬ sub dp pa u y ∧ topIs dp pa (addC D u) y v ∧ (∀ t, topIs dp pa (addC D u) p t → topIs dp pa (addC D u) x t) := by
  obtain ⟨k, k1, k2, k3, k4⟩ := h1
  obtain ⟨j, j1, j2, j3, j4⟩ := h2
  have c1 := hL.climb hx k1
  have c2 := hL.climb hy j1
  rw [← k2] at c1
  rw [← j2] at c2
  obtain ⟨un, ud, ur⟩ := c1
  obtain ⟨vn, vd, vr⟩ := c2
  have hs1 : sub dp pa u x := by rw [k2]; exact hL.sub_climb hx k1
  have hs2 : ¬ sub dp pa u y := by
    rintro ⟨a1, a2⟩
    by_cases e : dp y - dp u = j
    · exact hne (by rw [← a2, e, j2])
    · exact k4 (by rw [← a2]; exact j3 _ (by omega))
  rcases (hL.1 u un).2.2 with q | ⟨-, z, p, q1, q2, q3, q4, q5, q6, q7⟩
  · exfalso
    have e0 : dp v = 0 := by omega
    have t1 := hL.top un
    have t2 := hL.top vn
    rw [q.2.1] at t1
    rw [e0] at t2
    refine hne ?_
    have t1' : u = rt u := t1
    have t2' : v = rt v := t2
    rw [t1', t2', ur, vr, hr]
  · refine ⟨p, q3, q4, un, vn, q6, hs1, hs2, ⟨j, j1, j2, fun i hi => Or.inl (j3 i hi), fun h => h.elim j4 (fun h => hne h.symm)⟩, fun t ht => ?_⟩
    obtain ⟨m, m1, m2, m3, m4⟩ := ht
    have hup : clb pa (k + 1) x = p := by rw [clb_succ, ← k2, q3]; rfl
    refine ⟨k + 1 + m, by omega, by rw [clb_add, hup]; exact m2, fun i hi => ?_, m4⟩
    by_cases e : i < k
    · exact Or.inl (k3 i e)
    · by_cases e2 : i = k
      · rw [e2]; exact Or.inr k2.symm
      · have : clb pa i x = clb pa (i - (k + 1)) p := by rw [← hup, ← clb_add]; congr 1; omega
        rw [this]; exact m3 _ (by omega)
theorem Tp.step {D : Nat → Prop} {s : kS} {u p : Nat} (h : Tp s n dp pa D) (hp : pa u = (p : Int)) (hd : dp u = dp p + 1) : Tp (kup s 32 u (p : Int)) n dp pa (addC D u) := by
  intro v hv
  by_cases e : v = u
  · subst e
    refine ⟨1, by omega, ?_, fun k hk => ?_, fun h => by omega⟩
    · rw [kup_eq, if_pos rfl]
      have : clb pa 1 v = p := by rw [clb_succ, show clb pa 0 v = v from rfl, hp]; rfl
      rw [this]
    · have : k = 0 := by omega
      subst this
      exact Or.inr rfl
  · obtain ⟨b, b1, b2, b3, b4⟩ := h v hv
    exact ⟨b, b1, by rw [kup_eq, if_neg e]; exact b2, fun k hk => Or.inl (b3 k hk), fun q r => r.elim (b4 q) e⟩
/-- one end is below w and one isn't -/
def parts (dp : Nat → Nat) (pa : Nat → Int) (a b w : Nat) : Prop := (sub dp pa w a ∧ ¬ sub dp pa w b) ∨ (sub dp pa w b ∧ ¬ sub dp pa w a)
theorem parts.symm {a b w : Nat} (h : parts dp pa a b w) : parts dp pa b a w := h.elim Or.inr Or.inl
theorem tie_ok {A : Nat → Prop} {a b : Nat} (hL : LF n A fs sn rt dp pa up) (hn : n ≤ 300) (hH : Ht σ n rt dp pa up) (hT : Tp σ n dp pa C) (ha : a < n) (hb : b < n) (hr : rt a = rt b) :
    wpF F_Twice_tie [.inr (.inl 6), .inl (a : Int), .inl (b : Int)] σ (fun r s => r = none ∧ (∀ o, o ≠ 32 → s o = σ o) ∧ Tp s n dp pa (fun w => C w ∨ parts dp pa a b w)) := by
  have hda := hL.dp_lt ha
  have hdb := hL.dp_lt hb
  unfold F_Twice_tie
  rw [wpF_kF]
  refine ⟨rfl, rfl, ?_⟩
  unfold s_Twice_tie
  simp only [List.map_cons, List.map_nil]
  refine wpS_seq' (fun Q0 hQ0 => ?_)
  refine wpS_seq' (fun Q104 hQ104 => ?_)
  simp only [wpS_skip, wpS_break, wpS_cont, wpS_retV, wpS_throw, wpS_seq, wpS_if, wpS_trunc, yS_let, yS_inc, kgK_i, kgK_r, kok_nil, kok_i0, kok_is, kok_r0, kok_rs, kok_n0, kok_ns, xS_put, xS_putOp, xS_ast0, xS_ast1, xS_astOp, wpS_E, wpS_call, wpS_callS, wpS_ret, kThen_N, kThen_B, kThen_C, kThen_R, kThen_T, kNext_N, kNext_C, kNext_B, kNext_R, wpE_K, wpE_KL, xE_I, xE_R, wpE_J, xE_bin, wpE_ladd, wpE_i2l, xE_get, xE_ald0, xE_ald1, wpE_if, xE_max, xE_min, wpE_len, wpA_nil, wpA_snoc, xE_call, xE_callS, xC_C, xC_L, xC_Z, wpC_and, wpC_or, wpC_not, wpC_if, kcmp_0, kcmp_1, kcmp_2, kcmp_3, kcmp_4, kcmp_5, rR_inj, kgO_some, kgO_add, kgO_sub, kgO_mul, kgO_div, kgO_rem, kgO_and, kvI_inl, kvJ_inl, kgI_0, kgI_s, kgR_0, kgR_s, kst_nil, kst_0, kst_s, kNLl_nil, kNLl_i, kNLl_r, kNLl_n, ktag_i, ktag_r, List.length_cons, List.length_nil, List.take_succ_cons, List.take_zero, List.take_nil, List.nil_append, List.cons_append, decide_eq_true_eq, Bool.not_eq_true, Bool.not_eq_true', decide_eq_false_iff_not, ne_eq, Decidable.not_not, true_and, and_true, Nat.reduceAdd, Nat.reduceLeDiff, Nat.reduceEqDiff, Nat.le_refl, not_true_eq_false, not_false_eq_true, reduceIte, eq_self, Int.reduceNeg, Int.reduceEq, Int.reduceLT, Int.reduceLE, Nat.zero_le, Nat.one_ne_zero]
  refine ⟨rfl, ?_⟩
  refine (topOf_ok hL hn hT ha).mono ?_
  rintro r s0 ⟨k1, T1, u, rfl, hu⟩
  rw [kgO_some]
  simp only [wpS_skip, wpS_break, wpS_cont, wpS_retV, wpS_throw, wpS_seq, wpS_if, wpS_trunc, yS_let, yS_inc, kgK_i, kgK_r, kok_nil, kok_i0, kok_is, kok_r0, kok_rs, kok_n0, kok_ns, xS_put, xS_putOp, xS_ast0, xS_ast1, xS_astOp, wpS_E, wpS_call, wpS_callS, wpS_ret, kThen_N, kThen_B, kThen_C, kThen_R, kThen_T, kNext_N, kNext_C, kNext_B, kNext_R, wpE_K, wpE_KL, xE_I, xE_R, wpE_J, xE_bin, wpE_ladd, wpE_i2l, xE_get, xE_ald0, xE_ald1, wpE_if, xE_max, xE_min, wpE_len, wpA_nil, wpA_snoc, xE_call, xE_callS, xC_C, xC_L, xC_Z, wpC_and, wpC_or, wpC_not, wpC_if, kcmp_0, kcmp_1, kcmp_2, kcmp_3, kcmp_4, kcmp_5, rR_inj, kgO_some, kgO_add, kgO_sub, kgO_mul, kgO_div, kgO_rem, kgO_and, kvI_inl, kvJ_inl, kgI_0, kgI_s, kgR_0, kgR_s, kst_nil, kst_0, kst_s, kNLl_nil, kNLl_i, kNLl_r, kNLl_n, ktag_i, ktag_r, List.length_cons, List.length_nil, List.take_succ_cons, List.take_zero, List.take_nil, List.nil_append, List.cons_append, decide_eq_true_eq, Bool.not_eq_true, Bool.not_eq_true', decide_eq_false_iff_not, ne_eq, Decidable.not_not, true_and, and_true, Nat.reduceAdd, Nat.reduceLeDiff, Nat.reduceEqDiff, Nat.le_refl, not_true_eq_false, not_false_eq_true, reduceIte, eq_self, Int.reduceNeg, Int.reduceEq, Int.reduceLT, Int.reduceLE, Nat.zero_le, Nat.one_ne_zero]
  rw [hQ104]
  clear hQ104
  refine kThen_N.mpr ?_
  refine wpS_seq' (fun Q105 hQ105 => ?_)
  simp only [wpS_skip, wpS_break, wpS_cont, wpS_retV, wpS_throw, wpS_seq, wpS_if, wpS_trunc, yS_let, yS_inc, kgK_i, kgK_r, kok_nil, kok_i0, kok_is, kok_r0, kok_rs, kok_n0, kok_ns, xS_put, xS_putOp, xS_ast0, xS_ast1, xS_astOp, wpS_E, wpS_call, wpS_callS, wpS_ret, kThen_N, kThen_B, kThen_C, kThen_R, kThen_T, kNext_N, kNext_C, kNext_B, kNext_R, wpE_K, wpE_KL, xE_I, xE_R, wpE_J, xE_bin, wpE_ladd, wpE_i2l, xE_get, xE_ald0, xE_ald1, wpE_if, xE_max, xE_min, wpE_len, wpA_nil, wpA_snoc, xE_call, xE_callS, xC_C, xC_L, xC_Z, wpC_and, wpC_or, wpC_not, wpC_if, kcmp_0, kcmp_1, kcmp_2, kcmp_3, kcmp_4, kcmp_5, rR_inj, kgO_some, kgO_add, kgO_sub, kgO_mul, kgO_div, kgO_rem, kgO_and, kvI_inl, kvJ_inl, kgI_0, kgI_s, kgR_0, kgR_s, kst_nil, kst_0, kst_s, kNLl_nil, kNLl_i, kNLl_r, kNLl_n, ktag_i, ktag_r, List.length_cons, List.length_nil, List.take_succ_cons, List.take_zero, List.take_nil, List.nil_append, List.cons_append, decide_eq_true_eq, Bool.not_eq_true, Bool.not_eq_true', decide_eq_false_iff_not, ne_eq, Decidable.not_not, true_and, and_true, Nat.reduceAdd, Nat.reduceLeDiff, Nat.reduceEqDiff, Nat.le_refl, not_true_eq_false, not_false_eq_true, reduceIte, eq_self, Int.reduceNeg, Int.reduceEq, Int.reduceLT, Int.reduceLE, Nat.zero_le, Nat.one_ne_zero]
  refine ⟨rfl, ?_⟩
  refine (topOf_ok hL hn T1 hb).mono ?_
  rintro r s1 ⟨k2, T2, v, rfl, hv⟩
  rw [kgO_some]
  simp only [wpS_skip, wpS_break, wpS_cont, wpS_retV, wpS_throw, wpS_seq, wpS_if, wpS_trunc, yS_let, yS_inc, kgK_i, kgK_r, kok_nil, kok_i0, kok_is, kok_r0, kok_rs, kok_n0, kok_ns, xS_put, xS_putOp, xS_ast0, xS_ast1, xS_astOp, wpS_E, wpS_call, wpS_callS, wpS_ret, kThen_N, kThen_B, kThen_C, kThen_R, kThen_T, kNext_N, kNext_C, kNext_B, kNext_R, wpE_K, wpE_KL, xE_I, xE_R, wpE_J, xE_bin, wpE_ladd, wpE_i2l, xE_get, xE_ald0, xE_ald1, wpE_if, xE_max, xE_min, wpE_len, wpA_nil, wpA_snoc, xE_call, xE_callS, xC_C, xC_L, xC_Z, wpC_and, wpC_or, wpC_not, wpC_if, kcmp_0, kcmp_1, kcmp_2, kcmp_3, kcmp_4, kcmp_5, rR_inj, kgO_some, kgO_add, kgO_sub, kgO_mul, kgO_div, kgO_rem, kgO_and, kvI_inl, kvJ_inl, kgI_0, kgI_s, kgR_0, kgR_s, kst_nil, kst_0, kst_s, kNLl_nil, kNLl_i, kNLl_r, kNLl_n, ktag_i, ktag_r, List.length_cons, List.length_nil, List.take_succ_cons, List.take_zero, List.take_nil, List.nil_append, List.cons_append, decide_eq_true_eq, Bool.not_eq_true, Bool.not_eq_true', decide_eq_false_iff_not, ne_eq, Decidable.not_not, true_and, and_true, Nat.reduceAdd, Nat.reduceLeDiff, Nat.reduceEqDiff, Nat.le_refl, not_true_eq_false, not_false_eq_true, reduceIte, eq_self, Int.reduceNeg, Int.reduceEq, Int.reduceLT, Int.reduceLE, Nat.zero_le, Nat.one_ne_zero]
  rw [hQ105]
  clear hQ105
  refine kThen_N.mpr ?_
  have hu' : dp u ≤ dp a := by obtain ⟨k, q1, q2, -⟩ := hu; have := (hL.climb ha q1).2.1; rw [← q2] at this; omega
  have hv' : dp v ≤ dp b := by obtain ⟨k, q1, q2, -⟩ := hv; have := (hL.climb hb q1).2.1; rw [← q2] at this; omega
  unfold l_Twice_tie_1
  refine wpS_fortG (fun i P s => ∃ (D : Nat → Prop) (x y u v : Nat), ((x = a ∧ y = b) ∨ (x = b ∧ y = a)) ∧ topIs dp pa D x u ∧ topIs dp pa D y v ∧ (∀ w, C w → D w) ∧ (∀ w, D w → C w ∨ parts dp pa a b w) ∧ Tp s n dp pa D ∧ (∀ o, o ≠ 32 → s o = σ o) ∧ dp u + dp v + i ≤ dp a + dp b ∧ P = [some (.inr (.inl 6)), some (.inl (a : Int)), some (.inl (b : Int)), some (.inl (u : Int)), some (.inl (v : Int))]) (fun i => (i : Int)) (dp a + dp b) rfl rfl ?_ ?_ ?_ ?_
  · simp only [wpS_skip, wpS_break, wpS_cont, wpS_retV, wpS_throw, wpS_seq, wpS_if, wpS_trunc, yS_let, yS_inc, kgK_i, kgK_r, kok_nil, kok_i0, kok_is, kok_r0, kok_rs, kok_n0, kok_ns, xS_put, xS_putOp, xS_ast0, xS_ast1, xS_astOp, wpS_E, wpS_call, wpS_callS, wpS_ret, kThen_N, kThen_B, kThen_C, kThen_R, kThen_T, kNext_N, kNext_C, kNext_B, kNext_R, wpE_K, wpE_KL, xE_I, xE_R, wpE_J, xE_bin, wpE_ladd, wpE_i2l, xE_get, xE_ald0, xE_ald1, wpE_if, xE_max, xE_min, wpE_len, wpA_nil, wpA_snoc, xE_call, xE_callS, xC_C, xC_L, xC_Z, wpC_and, wpC_or, wpC_not, wpC_if, kcmp_0, kcmp_1, kcmp_2, kcmp_3, kcmp_4, kcmp_5, rR_inj, kgO_some, kgO_add, kgO_sub, kgO_mul, kgO_div, kgO_rem, kgO_and, kvI_inl, kvJ_inl, kgI_0, kgI_s, kgR_0, kgR_s, kst_nil, kst_0, kst_s, kNLl_nil, kNLl_i, kNLl_r, kNLl_n, ktag_i, ktag_r, List.length_cons, List.length_nil, List.take_succ_cons, List.take_zero, List.take_nil, List.nil_append, List.cons_append, decide_eq_true_eq, Bool.not_eq_true, Bool.not_eq_true', decide_eq_false_iff_not, ne_eq, Decidable.not_not, true_and, and_true, Nat.reduceAdd, Nat.reduceLeDiff, Nat.reduceEqDiff, Nat.le_refl, not_true_eq_false, not_false_eq_true, reduceIte, eq_self, Int.reduceNeg, Int.reduceEq, Int.reduceLT, Int.reduceLE, Nat.zero_le, Nat.one_ne_zero]; trivial
  · exact ⟨C, a, b, u, v, Or.inl ⟨rfl, rfl⟩, hu, hv, fun _ h => h, fun _ h => Or.inl h, T2, fun o ho => (k2 o ho).trans (k1 o ho), by omega, rfl⟩
  · rintro i P s ⟨D, x, y, u, v, -, -, -, -, -, -, -, -, rfl⟩; exact ⟨rfl, rfl⟩
  · clear hu hv hu' hv' T1 T2 k1 k2 s0 s1 u v
    rintro i P s hi ⟨D, x, y, u, v, hxy, hu, hv, hCD, hDC, T, hk, hm, rfl⟩
    have hi6 : (i : Int) < 600 := by omega
    have hxn : x < n := by rcases hxy with ⟨q1, q2⟩ | ⟨q1, q2⟩ <;> omega
    have hyn : y < n := by rcases hxy with ⟨q1, q2⟩ | ⟨q1, q2⟩ <;> omega
    have hxr : rt x = rt y := by
      rcases hxy with ⟨q1, q2⟩ | ⟨q1, q2⟩
      · rw [q1, q2]; exact hr
      · rw [q1, q2]; exact hr.symm
    by_cases e : u = v
    · have e' : (u : Int) = (v : Int) := by omega
      refine wpC_gen (fun Q2 hQ2 => ?_)
      simp only [wpS_skip, wpS_break, wpS_cont, wpS_retV, wpS_throw, wpS_seq, wpS_if, wpS_trunc, yS_let, yS_inc, kgK_i, kgK_r, kok_nil, kok_i0, kok_is, kok_r0, kok_rs, kok_n0, kok_ns, xS_put, xS_putOp, xS_ast0, xS_ast1, xS_astOp, wpS_E, wpS_call, wpS_callS, wpS_ret, kThen_N, kThen_B, kThen_C, kThen_R, kThen_T, kNext_N, kNext_C, kNext_B, kNext_R, wpE_K, wpE_KL, xE_I, xE_R, wpE_J, xE_bin, wpE_ladd, wpE_i2l, xE_get, xE_ald0, xE_ald1, wpE_if, xE_max, xE_min, wpE_len, wpA_nil, wpA_snoc, xE_call, xE_callS, xC_C, xC_L, xC_Z, wpC_and, wpC_or, wpC_not, wpC_if, kcmp_0, kcmp_1, kcmp_2, kcmp_3, kcmp_4, kcmp_5, rR_inj, kgO_some, kgO_add, kgO_sub, kgO_mul, kgO_div, kgO_rem, kgO_and, kvI_inl, kvJ_inl, kgI_0, kgI_s, kgR_0, kgR_s, kst_nil, kst_0, kst_s, kNLl_nil, kNLl_i, kNLl_r, kNLl_n, ktag_i, ktag_r, List.length_cons, List.length_nil, List.take_succ_cons, List.take_zero, List.take_nil, List.nil_append, List.cons_append, decide_eq_true_eq, Bool.not_eq_true, Bool.not_eq_true', decide_eq_false_iff_not, ne_eq, Decidable.not_not, true_and, and_true, Nat.reduceAdd, Nat.reduceLeDiff, Nat.reduceEqDiff, Nat.le_refl, not_true_eq_false, not_false_eq_true, reduceIte, eq_self, Int.reduceNeg, Int.reduceEq, Int.reduceLT, Int.reduceLE, Nat.zero_le, Nat.one_ne_zero, hi6, e', decide_true, decide_false, Bool.false_eq_true, if_true, if_false, true_and, and_true, not_true_eq_false, not_false_eq_true]
      rw [hQ2]
      refine ⟨rfl, Or.inr ⟨rfl, ?_⟩⟩
      rw [hQ0]
      refine kThen_N.mpr (wpS_retV.mpr ⟨none, rfl, rfl, rfl, hk, ?_⟩)
      have hD : D = fun w => C w ∨ parts dp pa a b w := by
        funext w
        refine propext ⟨hDC w, fun h => h.elim (hCD w) (fun h => ?_)⟩
        have key : ∀ x y u, x < n → y < n → topIs dp pa D x u → topIs dp pa D y u → sub dp pa w x → ¬ sub dp pa w y → D w := by
          rintro x y u hx hy ⟨k, q1, q2, q3, q4⟩ ⟨j, r1, r2, r3, r4⟩ ⟨t1, t2⟩ hn2
          by_cases z : dp x - dp w < k
          · rw [← t2]; exact q3 _ z
          · exfalso
            have c1 := (hL.climb hx q1).2.1
            have c2 := (hL.climb hy r1).2.1
            rw [← q2] at c1
            rw [← r2] at c2
            refine hn2 ⟨by omega, ?_⟩
            have a1 : clb pa (dp y - dp w) y = clb pa (dp u - dp w) u := by rw [r2, ← clb_add]; congr 1; rw [← r2]; omega
            have a2 : clb pa (dp x - dp w) x = clb pa (dp u - dp w) u := by
              rw [q2, ← clb_add]; congr 1; rw [← q2]; omega
            rw [a1, ← a2, t2]
        rw [← e] at hv
        rcases hxy with ⟨q1, q2⟩ | ⟨q1, q2⟩
        · subst q1 q2
          exact h.elim (fun h => key _ _ _ hxn hyn hu hv h.1 h.2) (fun h => key _ _ _ hyn hxn hv hu h.1 h.2)
        · subst q1 q2
          exact h.elim (fun h => key _ _ _ hyn hxn hv hu h.1 h.2) (fun h => key _ _ _ hxn hyn hu hv h.1 h.2)
      rw [← hD]; exact T
    · have e' : ¬ (u : Int) = (v : Int) := by omega
      obtain ⟨lw, uw, x', y', hxy', hu2, hv2, hne2, hle2, e1, e2, hm2⟩ : ∃ lw uw x' y', ((x' = a ∧ y' = b) ∨ (x' = b ∧ y' = a)) ∧ topIs dp pa D x' lw ∧ topIs dp pa D y' uw ∧ lw ≠ uw ∧ dp uw ≤ dp lw ∧ lw = (if dp v ≤ dp u then u else v) ∧ uw = (if lw = u then v else u) ∧ dp lw + dp uw = dp u + dp v := by
        by_cases q : dp v ≤ dp u
        · exact ⟨u, v, x, y, hxy, hu, hv, e, q, by rw [if_pos q], by rw [if_pos rfl], rfl⟩
        · exact ⟨v, u, y, x, by rcases hxy with ⟨q1, q2⟩ | ⟨q1, q2⟩ <;> simp [q1, q2], hv, hu, fun h => e h.symm, by omega, by rw [if_neg q], by rw [if_neg (fun h => e h.symm)], by omega⟩
      have hxn' : x' < n := by rcases hxy' with ⟨q1, q2⟩ | ⟨q1, q2⟩ <;> omega
      have hyn' : y' < n := by rcases hxy' with ⟨q1, q2⟩ | ⟨q1, q2⟩ <;> omega
      have hxr' : rt x' = rt y' := by
        rcases hxy' with ⟨q1, q2⟩ | ⟨q1, q2⟩
        · rw [q1, q2]; exact hr
        · rw [q1, q2]; exact hr.symm
      obtain ⟨p, p1, p2, p3, p4, p5, p6, p7, p8, p9⟩ := tie_step hL hxn' hyn' hxr' hu2 hv2 hne2 hle2
      have hun : u < n ∧ v < n := by
        by_cases q : dp v ≤ dp u
        · rw [if_pos q] at e1; rw [if_pos e1] at e2; omega
        · rw [if_neg q] at e1; rw [if_neg (fun h => e (by omega))] at e2; omega
      obtain ⟨hun, hvn⟩ := hun
      refine wpC_gen (fun Q2 hQ2 => ?_)
      simp only [wpS_skip, wpS_break, wpS_cont, wpS_retV, wpS_throw, wpS_seq, wpS_if, wpS_trunc, yS_let, yS_inc, kgK_i, kgK_r, kok_nil, kok_i0, kok_is, kok_r0, kok_rs, kok_n0, kok_ns, xS_put, xS_putOp, xS_ast0, xS_ast1, xS_astOp, wpS_E, wpS_call, wpS_callS, wpS_ret, kThen_N, kThen_B, kThen_C, kThen_R, kThen_T, kNext_N, kNext_C, kNext_B, kNext_R, wpE_K, wpE_KL, xE_I, xE_R, wpE_J, xE_bin, wpE_ladd, wpE_i2l, xE_get, xE_ald0, xE_ald1, wpE_if, xE_max, xE_min, wpE_len, wpA_nil, wpA_snoc, xE_call, xE_callS, xC_C, xC_L, xC_Z, wpC_and, wpC_or, wpC_not, wpC_if, kcmp_0, kcmp_1, kcmp_2, kcmp_3, kcmp_4, kcmp_5, rR_inj, kgO_some, kgO_add, kgO_sub, kgO_mul, kgO_div, kgO_rem, kgO_and, kvI_inl, kvJ_inl, kgI_0, kgI_s, kgR_0, kgR_s, kst_nil, kst_0, kst_s, kNLl_nil, kNLl_i, kNLl_r, kNLl_n, ktag_i, ktag_r, List.length_cons, List.length_nil, List.take_succ_cons, List.take_zero, List.take_nil, List.nil_append, List.cons_append, decide_eq_true_eq, Bool.not_eq_true, Bool.not_eq_true', decide_eq_false_iff_not, ne_eq, Decidable.not_not, true_and, and_true, Nat.reduceAdd, Nat.reduceLeDiff, Nat.reduceEqDiff, Nat.le_refl, not_true_eq_false, not_false_eq_true, reduceIte, eq_self, Int.reduceNeg, Int.reduceEq, Int.reduceLT, Int.reduceLE, Nat.zero_le, Nat.one_ne_zero, hi6, e', decide_true, decide_false, Bool.false_eq_true, if_true, if_false, true_and, and_true, not_true_eq_false, not_false_eq_true]
      rw [hQ2]
      refine ⟨rfl, Or.inl ⟨rfl, by omega, by omega, by omega, by omega, ?_⟩⟩
      have s26 : ∀ v, v < n → s 26 v = pa v := fun v hv => by rw [hk 26 (by decide)]; exact (hH v hv).2.1
      have s28 : ∀ v, v < n → s 28 v = (dp v : Int) := fun v hv => by rw [hk 28 (by decide)]; exact (hH v hv).2.2.2
      rw [wpS_trunc]
      refine wpS_seq' (fun Q106 hQ106 => ?_)
      simp only [wpS_skip, wpS_break, wpS_cont, wpS_retV, wpS_throw, wpS_seq, wpS_if, wpS_trunc, yS_let, yS_inc, kgK_i, kgK_r, kok_nil, kok_i0, kok_is, kok_r0, kok_rs, kok_n0, kok_ns, xS_put, xS_putOp, xS_ast0, xS_ast1, xS_astOp, wpS_E, wpS_call, wpS_callS, wpS_ret, kThen_N, kThen_B, kThen_C, kThen_R, kThen_T, kNext_N, kNext_C, kNext_B, kNext_R, wpE_K, wpE_KL, xE_I, xE_R, wpE_J, xE_bin, wpE_ladd, wpE_i2l, xE_get, xE_ald0, xE_ald1, wpE_if, xE_max, xE_min, wpE_len, wpA_nil, wpA_snoc, xE_call, xE_callS, xC_C, xC_L, xC_Z, wpC_and, wpC_or, wpC_not, wpC_if, kcmp_0, kcmp_1, kcmp_2, kcmp_3, kcmp_4, kcmp_5, rR_inj, kgO_some, kgO_add, kgO_sub, kgO_mul, kgO_div, kgO_rem, kgO_and, kvI_inl, kvJ_inl, kgI_0, kgI_s, kgR_0, kgR_s, kst_nil, kst_0, kst_s, kNLl_nil, kNLl_i, kNLl_r, kNLl_n, ktag_i, ktag_r, List.length_cons, List.length_nil, List.take_succ_cons, List.take_zero, List.take_nil, List.nil_append, List.cons_append, decide_eq_true_eq, Bool.not_eq_true, Bool.not_eq_true', decide_eq_false_iff_not, ne_eq, Decidable.not_not, true_and, and_true, Nat.reduceAdd, Nat.reduceLeDiff, Nat.reduceEqDiff, Nat.le_refl, not_true_eq_false, not_false_eq_true, reduceIte, eq_self, Int.reduceNeg, Int.reduceEq, Int.reduceLT, Int.reduceLE, Nat.zero_le, Nat.one_ne_zero, ev_twice, ev_trees, ev_trees_arr, Int.toNat_natCast, s28 u hun, s28 v hvn]
      refine ⟨by omega, by omega, ?_⟩
      suffices hh : Q106 rN [some (.inr (.inl 6)), some (.inl (a : Int)), some (.inl (b : Int)), some (.inl (u : Int)), some (.inl (v : Int)), some (.inl (i : Int)), some (.inl (lw : Int))] s by
        by_cases q : dp v ≤ dp u
        · rw [if_pos (by omega)]; rw [if_pos q] at e1; rw [e1] at hh; exact hh
        · rw [if_neg (by omega)]; rw [if_neg q] at e1; rw [e1] at hh; exact hh
      rw [hQ106]
      clear hQ106
      refine kThen_N.mpr ?_
      refine wpS_seq' (fun Q107 hQ107 => ?_)
      simp only [wpS_skip, wpS_break, wpS_cont, wpS_retV, wpS_throw, wpS_seq, wpS_if, wpS_trunc, yS_let, yS_inc, kgK_i, kgK_r, kok_nil, kok_i0, kok_is, kok_r0, kok_rs, kok_n0, kok_ns, xS_put, xS_putOp, xS_ast0, xS_ast1, xS_astOp, wpS_E, wpS_call, wpS_callS, wpS_ret, kThen_N, kThen_B, kThen_C, kThen_R, kThen_T, kNext_N, kNext_C, kNext_B, kNext_R, wpE_K, wpE_KL, xE_I, xE_R, wpE_J, xE_bin, wpE_ladd, wpE_i2l, xE_get, xE_ald0, xE_ald1, wpE_if, xE_max, xE_min, wpE_len, wpA_nil, wpA_snoc, xE_call, xE_callS, xC_C, xC_L, xC_Z, wpC_and, wpC_or, wpC_not, wpC_if, kcmp_0, kcmp_1, kcmp_2, kcmp_3, kcmp_4, kcmp_5, rR_inj, kgO_some, kgO_add, kgO_sub, kgO_mul, kgO_div, kgO_rem, kgO_and, kvI_inl, kvJ_inl, kgI_0, kgI_s, kgR_0, kgR_s, kst_nil, kst_0, kst_s, kNLl_nil, kNLl_i, kNLl_r, kNLl_n, ktag_i, ktag_r, List.length_cons, List.length_nil, List.take_succ_cons, List.take_zero, List.take_nil, List.nil_append, List.cons_append, decide_eq_true_eq, Bool.not_eq_true, Bool.not_eq_true', decide_eq_false_iff_not, ne_eq, Decidable.not_not, true_and, and_true, Nat.reduceAdd, Nat.reduceLeDiff, Nat.reduceEqDiff, Nat.le_refl, not_true_eq_false, not_false_eq_true, reduceIte, eq_self, Int.reduceNeg, Int.reduceEq, Int.reduceLT, Int.reduceLE, Nat.zero_le, Nat.one_ne_zero]
      suffices hh : Q107 rN [some (.inr (.inl 6)), some (.inl (a : Int)), some (.inl (b : Int)), some (.inl (u : Int)), some (.inl (v : Int)), some (.inl (i : Int)), some (.inl (lw : Int)), some (.inl (uw : Int))] s by
        by_cases q : lw = u
        · rw [if_pos (by omega)]; rw [if_pos q] at e2; rw [e2] at hh; exact hh
        · rw [if_neg (by omega)]; rw [if_neg q] at e2; rw [e2] at hh; exact hh
      rw [hQ107]
      clear hQ107
      refine kThen_N.mpr ?_
      have q26 := s26 lw p3
      rw [p1] at q26
      have pn1 : ¬ (p : Int) = -1 := by omega
      refine wpS_seq' (fun Q108 hQ108 => ?_)
      simp only [wpS_skip, wpS_break, wpS_cont, wpS_retV, wpS_throw, wpS_seq, wpS_if, wpS_trunc, yS_let, yS_inc, kgK_i, kgK_r, kok_nil, kok_i0, kok_is, kok_r0, kok_rs, kok_n0, kok_ns, xS_put, xS_putOp, xS_ast0, xS_ast1, xS_astOp, wpS_E, wpS_call, wpS_callS, wpS_ret, kThen_N, kThen_B, kThen_C, kThen_R, kThen_T, kNext_N, kNext_C, kNext_B, kNext_R, wpE_K, wpE_KL, xE_I, xE_R, wpE_J, xE_bin, wpE_ladd, wpE_i2l, xE_get, xE_ald0, xE_ald1, wpE_if, xE_max, xE_min, wpE_len, wpA_nil, wpA_snoc, xE_call, xE_callS, xC_C, xC_L, xC_Z, wpC_and, wpC_or, wpC_not, wpC_if, kcmp_0, kcmp_1, kcmp_2, kcmp_3, kcmp_4, kcmp_5, rR_inj, kgO_some, kgO_add, kgO_sub, kgO_mul, kgO_div, kgO_rem, kgO_and, kvI_inl, kvJ_inl, kgI_0, kgI_s, kgR_0, kgR_s, kst_nil, kst_0, kst_s, kNLl_nil, kNLl_i, kNLl_r, kNLl_n, ktag_i, ktag_r, List.length_cons, List.length_nil, List.take_succ_cons, List.take_zero, List.take_nil, List.nil_append, List.cons_append, decide_eq_true_eq, Bool.not_eq_true, Bool.not_eq_true', decide_eq_false_iff_not, ne_eq, Decidable.not_not, true_and, and_true, Nat.reduceAdd, Nat.reduceLeDiff, Nat.reduceEqDiff, Nat.le_refl, not_true_eq_false, not_false_eq_true, reduceIte, eq_self, Int.reduceNeg, Int.reduceEq, Int.reduceLT, Int.reduceLE, Nat.zero_le, Nat.one_ne_zero, ev_twice, ev_trees, ev_trees_arr, Int.toNat_natCast, q26]
      repeat refine And.intro (by omega) ?_
      rw [hQ108]
      clear hQ108 Q108
      refine kThen_N.mpr ?_
      refine wpS_seq' (fun Q109 hQ109 => ?_)
      simp only [wpS_skip, wpS_break, wpS_cont, wpS_retV, wpS_throw, wpS_seq, wpS_if, wpS_trunc, yS_let, yS_inc, kgK_i, kgK_r, kok_nil, kok_i0, kok_is, kok_r0, kok_rs, kok_n0, kok_ns, xS_put, xS_putOp, xS_ast0, xS_ast1, xS_astOp, wpS_E, wpS_call, wpS_callS, wpS_ret, kThen_N, kThen_B, kThen_C, kThen_R, kThen_T, kNext_N, kNext_C, kNext_B, kNext_R, wpE_K, wpE_KL, xE_I, xE_R, wpE_J, xE_bin, wpE_ladd, wpE_i2l, xE_get, xE_ald0, xE_ald1, wpE_if, xE_max, xE_min, wpE_len, wpA_nil, wpA_snoc, xE_call, xE_callS, xC_C, xC_L, xC_Z, wpC_and, wpC_or, wpC_not, wpC_if, kcmp_0, kcmp_1, kcmp_2, kcmp_3, kcmp_4, kcmp_5, rR_inj, kgO_some, kgO_add, kgO_sub, kgO_mul, kgO_div, kgO_rem, kgO_and, kvI_inl, kvJ_inl, kgI_0, kgI_s, kgR_0, kgR_s, kst_nil, kst_0, kst_s, kNLl_nil, kNLl_i, kNLl_r, kNLl_n, ktag_i, ktag_r, List.length_cons, List.length_nil, List.take_succ_cons, List.take_zero, List.take_nil, List.nil_append, List.cons_append, decide_eq_true_eq, Bool.not_eq_true, Bool.not_eq_true', decide_eq_false_iff_not, ne_eq, Decidable.not_not, true_and, and_true, Nat.reduceAdd, Nat.reduceLeDiff, Nat.reduceEqDiff, Nat.le_refl, not_true_eq_false, not_false_eq_true, reduceIte, eq_self, Int.reduceNeg, Int.reduceEq, Int.reduceLT, Int.reduceLE, Nat.zero_le, Nat.one_ne_zero, pn1, decide_true, decide_false, Bool.false_eq_true, if_true, if_false, true_and, and_true, not_true_eq_false, not_false_eq_true]
      repeat refine And.intro (by omega) ?_
      rw [hQ109]
      clear hQ109 Q109
      refine kThen_N.mpr ?_
      refine wpS_seq' (fun Q110 hQ110 => ?_)
      simp only [wpS_skip, wpS_break, wpS_cont, wpS_retV, wpS_throw, wpS_seq, wpS_if, wpS_trunc, yS_let, yS_inc, kgK_i, kgK_r, kok_nil, kok_i0, kok_is, kok_r0, kok_rs, kok_n0, kok_ns, xS_put, xS_putOp, xS_ast0, xS_ast1, xS_astOp, wpS_E, wpS_call, wpS_callS, wpS_ret, kThen_N, kThen_B, kThen_C, kThen_R, kThen_T, kNext_N, kNext_C, kNext_B, kNext_R, wpE_K, wpE_KL, xE_I, xE_R, wpE_J, xE_bin, wpE_ladd, wpE_i2l, xE_get, xE_ald0, xE_ald1, wpE_if, xE_max, xE_min, wpE_len, wpA_nil, wpA_snoc, xE_call, xE_callS, xC_C, xC_L, xC_Z, wpC_and, wpC_or, wpC_not, wpC_if, kcmp_0, kcmp_1, kcmp_2, kcmp_3, kcmp_4, kcmp_5, rR_inj, kgO_some, kgO_add, kgO_sub, kgO_mul, kgO_div, kgO_rem, kgO_and, kvI_inl, kvJ_inl, kgI_0, kgI_s, kgR_0, kgR_s, kst_nil, kst_0, kst_s, kNLl_nil, kNLl_i, kNLl_r, kNLl_n, ktag_i, ktag_r, List.length_cons, List.length_nil, List.take_succ_cons, List.take_zero, List.take_nil, List.nil_append, List.cons_append, decide_eq_true_eq, Bool.not_eq_true, Bool.not_eq_true', decide_eq_false_iff_not, ne_eq, Decidable.not_not, true_and, and_true, Nat.reduceAdd, Nat.reduceLeDiff, Nat.reduceEqDiff, Nat.le_refl, not_true_eq_false, not_false_eq_true, reduceIte, eq_self, Int.reduceNeg, Int.reduceEq, Int.reduceLT, Int.reduceLE, Nat.zero_le, Nat.one_ne_zero, ev_twice, ev_twice_arr, Int.toNat_natCast]
      repeat refine And.intro (by omega) ?_
      rw [hQ110]
      clear hQ110 Q110
      refine kThen_N.mpr ?_
      have hT' := T.step p1 p5
      refine wpS_seq' (fun Q111 hQ111 => ?_)
      simp only [wpS_skip, wpS_break, wpS_cont, wpS_retV, wpS_throw, wpS_seq, wpS_if, wpS_trunc, yS_let, yS_inc, kgK_i, kgK_r, kok_nil, kok_i0, kok_is, kok_r0, kok_rs, kok_n0, kok_ns, xS_put, xS_putOp, xS_ast0, xS_ast1, xS_astOp, wpS_E, wpS_call, wpS_callS, wpS_ret, kThen_N, kThen_B, kThen_C, kThen_R, kThen_T, kNext_N, kNext_C, kNext_B, kNext_R, wpE_K, wpE_KL, xE_I, xE_R, wpE_J, xE_bin, wpE_ladd, wpE_i2l, xE_get, xE_ald0, xE_ald1, wpE_if, xE_max, xE_min, wpE_len, wpA_nil, wpA_snoc, xE_call, xE_callS, xC_C, xC_L, xC_Z, wpC_and, wpC_or, wpC_not, wpC_if, kcmp_0, kcmp_1, kcmp_2, kcmp_3, kcmp_4, kcmp_5, rR_inj, kgO_some, kgO_add, kgO_sub, kgO_mul, kgO_div, kgO_rem, kgO_and, kvI_inl, kvJ_inl, kgI_0, kgI_s, kgR_0, kgR_s, kst_nil, kst_0, kst_s, kNLl_nil, kNLl_i, kNLl_r, kNLl_n, ktag_i, ktag_r, List.length_cons, List.length_nil, List.take_succ_cons, List.take_zero, List.take_nil, List.nil_append, List.cons_append, decide_eq_true_eq, Bool.not_eq_true, Bool.not_eq_true', decide_eq_false_iff_not, ne_eq, Decidable.not_not, true_and, and_true, Nat.reduceAdd, Nat.reduceLeDiff, Nat.reduceEqDiff, Nat.le_refl, not_true_eq_false, not_false_eq_true, reduceIte, eq_self, Int.reduceNeg, Int.reduceEq, Int.reduceLT, Int.reduceLE, Nat.zero_le, Nat.one_ne_zero]
      refine ⟨rfl, ?_⟩
      refine (topOf_ok hL hn hT' p2).mono ?_
      rintro r s2 ⟨k3, T3, t, rfl, ht⟩
      rw [kgO_some]
      simp only [wpS_skip, wpS_break, wpS_cont, wpS_retV, wpS_throw, wpS_seq, wpS_if, wpS_trunc, yS_let, yS_inc, kgK_i, kgK_r, kok_nil, kok_i0, kok_is, kok_r0, kok_rs, kok_n0, kok_ns, xS_put, xS_putOp, xS_ast0, xS_ast1, xS_astOp, wpS_E, wpS_call, wpS_callS, wpS_ret, kThen_N, kThen_B, kThen_C, kThen_R, kThen_T, kNext_N, kNext_C, kNext_B, kNext_R, wpE_K, wpE_KL, xE_I, xE_R, wpE_J, xE_bin, wpE_ladd, wpE_i2l, xE_get, xE_ald0, xE_ald1, wpE_if, xE_max, xE_min, wpE_len, wpA_nil, wpA_snoc, xE_call, xE_callS, xC_C, xC_L, xC_Z, wpC_and, wpC_or, wpC_not, wpC_if, kcmp_0, kcmp_1, kcmp_2, kcmp_3, kcmp_4, kcmp_5, rR_inj, kgO_some, kgO_add, kgO_sub, kgO_mul, kgO_div, kgO_rem, kgO_and, kvI_inl, kvJ_inl, kgI_0, kgI_s, kgR_0, kgR_s, kst_nil, kst_0, kst_s, kNLl_nil, kNLl_i, kNLl_r, kNLl_n, ktag_i, ktag_r, List.length_cons, List.length_nil, List.take_succ_cons, List.take_zero, List.take_nil, List.nil_append, List.cons_append, decide_eq_true_eq, Bool.not_eq_true, Bool.not_eq_true', decide_eq_false_iff_not, ne_eq, Decidable.not_not, true_and, and_true, Nat.reduceAdd, Nat.reduceLeDiff, Nat.reduceEqDiff, Nat.le_refl, not_true_eq_false, not_false_eq_true, reduceIte, eq_self, Int.reduceNeg, Int.reduceEq, Int.reduceLT, Int.reduceLE, Nat.zero_le, Nat.one_ne_zero]
      rw [hQ111]
      clear hQ111
      refine kThen_N.mpr ?_
      refine wpS_gen (fun Q4 hQ4 => ?_)
      simp only [wpS_skip, wpS_break, wpS_cont, wpS_retV, wpS_throw, wpS_seq, wpS_if, wpS_trunc, yS_let, yS_inc, kgK_i, kgK_r, kok_nil, kok_i0, kok_is, kok_r0, kok_rs, kok_n0, kok_ns, xS_put, xS_putOp, xS_ast0, xS_ast1, xS_astOp, wpS_E, wpS_call, wpS_callS, wpS_ret, kThen_N, kThen_B, kThen_C, kThen_R, kThen_T, kNext_N, kNext_C, kNext_B, kNext_R, wpE_K, wpE_KL, xE_I, xE_R, wpE_J, xE_bin, wpE_ladd, wpE_i2l, xE_get, xE_ald0, xE_ald1, wpE_if, xE_max, xE_min, wpE_len, wpA_nil, wpA_snoc, xE_call, xE_callS, xC_C, xC_L, xC_Z, wpC_and, wpC_or, wpC_not, wpC_if, kcmp_0, kcmp_1, kcmp_2, kcmp_3, kcmp_4, kcmp_5, rR_inj, kgO_some, kgO_add, kgO_sub, kgO_mul, kgO_div, kgO_rem, kgO_and, kvI_inl, kvJ_inl, kgI_0, kgI_s, kgR_0, kgR_s, kst_nil, kst_0, kst_s, kNLl_nil, kNLl_i, kNLl_r, kNLl_n, ktag_i, ktag_r, List.length_cons, List.length_nil, List.take_succ_cons, List.take_zero, List.take_nil, List.nil_append, List.cons_append, decide_eq_true_eq, Bool.not_eq_true, Bool.not_eq_true', decide_eq_false_iff_not, ne_eq, Decidable.not_not, true_and, and_true, Nat.reduceAdd, Nat.reduceLeDiff, Nat.reduceEqDiff, Nat.le_refl, not_true_eq_false, not_false_eq_true, reduceIte, eq_self, Int.reduceNeg, Int.reduceEq, Int.reduceLT, Int.reduceLE, Nat.zero_le, Nat.one_ne_zero]
      rw [hQ4]
      have hdt : dp t ≤ dp p := by obtain ⟨k, q1, q2, -⟩ := ht; have := (hL.climb p2 q1).2.1; rw [← q2] at this; omega
      refine kStep_N (P := [some (.inr (.inl 6)), some (.inl (a : Int)), some (.inl (b : Int)), some (.inl (t : Int)), some (.inl (uw : Int))]) rfl ⟨addC D lw, x', y', t, uw, hxy', p9 t ht, p8, fun w h => Or.inl (hCD w h), fun w h => ?_, T3, fun o ho => by rw [k3 o ho, kup_ne ho]; exact hk o ho, by omega, rfl⟩
      rcases h with h | h
      · exact hDC w h
      · subst h
        rcases hxy' with ⟨q1, q2⟩ | ⟨q1, q2⟩
        · subst q1 q2; exact Or.inr (Or.inl ⟨p6, p7⟩)
        · subst q1 q2; exact Or.inr (Or.inr ⟨p6, p7⟩)
end TW
