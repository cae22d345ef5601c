/-! THE REFERENCE'S odd -/
section MO
variable {σ : kS} {n c ar : Nat} {li fs sn lv : Nat → Nat} {tr lo : Nat → Int} {rt dp : Nat → Nat} {pa up : Nat → Int}
def pth (pa : Nat → Int) (s f i j q : Nat) : Nat := if q ≤ i then clb pa q s else clb pa (i + j - q) f
theorem FO.next {A : Nat → Prop} (h : FO n A fs sn rt dp pa up) {s f m i j q u w x d : Nat} (hs : s < n) (hf : f < n) (hm : meetAt dp pa s f m i j) (hq : q < i + j) (hw : w = pth pa s f i j q) (hA : A x) (he : (fs x = u ∧ sn x = w) ∨ (sn x = u ∧ fs x = w)) (h1 : ds (uE A fs sn) f u d) (h2 : ds (uE A fs sn) f w (d + 1)) :
    u = pth pa s f i j (q + 1) ∧ (x : Int) = ringV pa up s f i j (q + 1) := by
  obtain ⟨hi, hj, hm1, hm2, hA1, hB1⟩ := hm
  -- above f from the meeting on
  have hwd : w < n ∧ (q < i → w = clb pa q s) ∧ (i ≤ q → w = clb pa (i + j - q) f) := by
    rw [hw]
    unfold pth
    by_cases e : q ≤ i
    · rw [if_pos e]
      refine ⟨(h.1.climb hs (by omega)).1, fun _ => rfl, fun h2 => ?_⟩
      have : q = i := by omega
      rw [this, hm1, ← hm2]; congr 1; omega
    · rw [if_neg e]
      exact ⟨(h.1.climb hf (by omega)).1, fun h2 => by omega, fun _ => rfl⟩
  obtain ⟨hwn, hwl, hwr⟩ := hwd
  obtain ⟨w', v1, v2, v3⟩ := h.2 x hA
  rcases (h.1.1 w' v1).2.2 with q0 | ⟨-, y, p, q1, q2, q3, q4, q5, q6, q7⟩
  · exact absurd q0.1 v2
  · have : y = x := by omega
    subst this
    have hcase : (w' = w ∧ p = u) ∨ (w' = u ∧ p = w) := by
      rcases q7 with ⟨r1, r2⟩ | ⟨r1, r2⟩ <;> rcases he with ⟨t1, t2⟩ | ⟨t1, t2⟩
      · exact Or.inr ⟨by omega, by omega⟩
      · exact Or.inl ⟨by omega, by omega⟩
      · exact Or.inl ⟨by omega, by omega⟩
      · exact Or.inr ⟨by omega, by omega⟩
    rcases hcase with ⟨rfl, rfl⟩ | ⟨rfl, rfl⟩
    · -- up from w
      have hns : ¬ sub dp pa w' f := fun z => by have := (h.ds_up v1 q3 z h2).uniq h1; omega
      have hqi : q < i := by
        rcases Nat.lt_or_ge q i with z | z
        · exact z
        · exact absurd (by rw [hwr z]; exact h.1.sub_climb hf (by omega)) hns
      have e1 := hwl hqi
      refine ⟨?_, ?_⟩
      · unfold pth
        rw [if_pos (by omega), clb_succ, ← e1, q3]; rfl
      · unfold ringV
        rw [if_pos (by omega), show q + 1 - 1 = q by omega, ← e1, ← q2]
    · -- down to w'
      have hsub : sub dp pa w' f := Classical.byContradiction fun z => by have := (h.ds_down v1 q3 z h2).uniq h1; omega
      obtain ⟨z1, z2⟩ := hsub
      have hpf : clb pa (dp f - dp w' + 1) f = p := by rw [clb_succ, z2, q3]; rfl
      have hqi : i ≤ q := by
        rcases Nat.lt_or_ge q i with z | z
        · exfalso
          refine hA1 q z ?_
          rw [← hwl z]
          exact ⟨by omega, by rw [show dp f - dp p = dp f - dp w' + 1 by omega]; exact hpf⟩
        · exact z
      have e1 := hwr hqi
      have e2 := (h.1.climb hf (show i + j - q ≤ dp f by omega)).2.1
      rw [← e1] at e2
      have e3 : dp f - dp w' = i + j - (q + 1) := by omega
      rw [e3] at z2
      refine ⟨?_, ?_⟩
      · unfold pth
        by_cases e : q + 1 ≤ i
        · omega
        · rw [if_neg e]; exact z2.symm
      · unfold ringV
        rw [if_neg (by omega), if_pos (by omega), z2, ← q2]
theorem mdOther_ok {e : Nat} (h1 : ∀ x, σ 71 x = (fs x : Int)) (h2 : ∀ x, σ 72 x = (sn x : Int)) (he : e < 10000) : wpF F_Md_other [.inr (.inl 14), .inl (e : Int)] σ (fun r s => s = σ ∧ r = some (.inl ((if e % 2 = 0 then fs (e / 2) else sn (e / 2) : Nat) : Int))) := by
  unfold F_Md_other
  rw [wpF_kF]
  refine ⟨rfl, rfl, ?_⟩
  unfold s_Md_other
  simp only [List.map_cons, List.map_nil]
  refine wpS_gen (fun Q1 hQ1 => ?_)
  have ed : ((e : Int) / 2).toNat = e / 2 := by omega
  by_cases q : e % 2 = 0
  · have q' : (e : Int) % 2 = 0 := by omega
    simp only [wpS_skip, wpS_break, wpS_cont, wpS_retV, wpS_throw, wpS_seq, wpS_if, wpS_trunc, yS_let, yS_inc, kgK_i, kgK_r, kok_nil, kok_i0, kok_is, kok_r0, kok_rs, kok_n0, kok_ns, xS_put, xS_putOp, xS_ast0, xS_ast1, xS_astOp, wpS_E, wpS_call, wpS_callS, wpS_ret, kThen_N, kThen_B, kThen_C, kThen_R, kThen_T, kNext_N, kNext_C, kNext_B, kNext_R, wpE_K, wpE_KL, xE_I, xE_R, wpE_J, xE_bin, wpE_ladd, wpE_i2l, xE_get, xE_ald0, xE_ald1, wpE_if, xE_max, xE_min, wpE_len, wpA_nil, wpA_snoc, xE_call, xE_callS, xC_C, xC_L, xC_Z, wpC_and, wpC_or, wpC_not, wpC_if, kcmp_0, kcmp_1, kcmp_2, kcmp_3, kcmp_4, kcmp_5, rR_inj, kgO_some, kgO_add, kgO_sub, kgO_mul, kgO_div, kgO_rem, kgO_and, kvI_inl, kvJ_inl, kgI_0, kgI_s, kgR_0, kgR_s, kst_nil, kst_0, kst_s, kNLl_nil, kNLl_i, kNLl_r, kNLl_n, ktag_i, ktag_r, List.length_cons, List.length_nil, List.take_succ_cons, List.take_zero, List.take_nil, List.nil_append, List.cons_append, decide_eq_true_eq, Bool.not_eq_true, Bool.not_eq_true', decide_eq_false_iff_not, ne_eq, Decidable.not_not, true_and, and_true, Nat.reduceAdd, Nat.reduceLeDiff, Nat.reduceEqDiff, Nat.le_refl, not_true_eq_false, not_false_eq_true, reduceIte, eq_self, Int.reduceNeg, Int.reduceEq, Int.reduceLT, Int.reduceLE, Nat.zero_le, Nat.one_ne_zero, ev_model, ev_model_arr, q', ed, h1, decide_true, decide_false, Bool.false_eq_true, if_true, if_false, true_and, and_true, not_true_eq_false, not_false_eq_true]
    repeat refine And.intro (by omega) ?_
    rw [hQ1]
    exact ⟨_, rfl, rfl, rfl, by rw [if_pos q]⟩
  · have q' : ¬ (e : Int) % 2 = 0 := by omega
    simp only [wpS_skip, wpS_break, wpS_cont, wpS_retV, wpS_throw, wpS_seq, wpS_if, wpS_trunc, yS_let, yS_inc, kgK_i, kgK_r, kok_nil, kok_i0, kok_is, kok_r0, kok_rs, kok_n0, kok_ns, xS_put, xS_putOp, xS_ast0, xS_ast1, xS_astOp, wpS_E, wpS_call, wpS_callS, wpS_ret, kThen_N, kThen_B, kThen_C, kThen_R, kThen_T, kNext_N, kNext_C, kNext_B, kNext_R, wpE_K, wpE_KL, xE_I, xE_R, wpE_J, xE_bin, wpE_ladd, wpE_i2l, xE_get, xE_ald0, xE_ald1, wpE_if, xE_max, xE_min, wpE_len, wpA_nil, wpA_snoc, xE_call, xE_callS, xC_C, xC_L, xC_Z, wpC_and, wpC_or, wpC_not, wpC_if, kcmp_0, kcmp_1, kcmp_2, kcmp_3, kcmp_4, kcmp_5, rR_inj, kgO_some, kgO_add, kgO_sub, kgO_mul, kgO_div, kgO_rem, kgO_and, kvI_inl, kvJ_inl, kgI_0, kgI_s, kgR_0, kgR_s, kst_nil, kst_0, kst_s, kNLl_nil, kNLl_i, kNLl_r, kNLl_n, ktag_i, ktag_r, List.length_cons, List.length_nil, List.take_succ_cons, List.take_zero, List.take_nil, List.nil_append, List.cons_append, decide_eq_true_eq, Bool.not_eq_true, Bool.not_eq_true', decide_eq_false_iff_not, ne_eq, Decidable.not_not, true_and, and_true, Nat.reduceAdd, Nat.reduceLeDiff, Nat.reduceEqDiff, Nat.le_refl, not_true_eq_false, not_false_eq_true, reduceIte, eq_self, Int.reduceNeg, Int.reduceEq, Int.reduceLT, Int.reduceLE, Nat.zero_le, Nat.one_ne_zero, ev_model, ev_model_arr, q', ed, h2, decide_true, decide_false, Bool.false_eq_true, if_true, if_false, true_and, and_true, not_true_eq_false, not_false_eq_true]
    repeat refine And.intro (by omega) ?_
    rw [hQ1]
    exact ⟨_, rfl, rfl, rfl, by rw [if_neg q]⟩
/-- the loop along the way: behind the walk from f, from s on -/
theorem mdOddLoop_ok {v k x m i j : Nat} {Q : kR → kL → kS → Prop} (hk : k < 2147483648) (hk0 : 0 < k) (hG : gOk n c ar li fs sn) (hM : RM σ n c ar li fs sn lv tr lo) (hF : FO n (fun x => th c li x ∧ tr x ≠ 0) fs sn rt dp pa up) (hx : th c li x) (hm : meetAt dp pa (sn x) (fs x) m i j)
    (hr : rt (fs x) = rt (sn x)) (hB : wBy σ (fs x) (uE (fun x => th c li x ∧ tr x ≠ 0) fs sn) fs sn (fun y => th c li y ∧ tr y ≠ 0))
    (hQ : k ≤ i + j → Q (rR (some (.inl (ringV pa up (sn x) (fs x) i j k)))) [some (.inr (.inl 14)), some (.inl (v : Int)), some (.inl (k : Int)), some (.inl (x : Int)), some (.inl (pth pa (sn x) (fs x) i j (k - 1) : Int))] σ)
    (hE2 : i + j < k → Q rN [some (.inr (.inl 14)), some (.inl (v : Int)), some (.inl (k : Int)), some (.inl (x : Int)), some (.inl (fs x : Int))] σ) :
    wpS (sTrunc 5 (sSeq (sLet 0 5 (eK (1))) l_Md_odd_1)) [some (.inr (.inl 14)), some (.inl (v : Int)), some (.inl (k : Int)), some (.inl (x : Int)), some (.inl (sn x : Int))] σ Q := by
  have hn3 := hG.1
  obtain ⟨x1, x2, x3, x4⟩ := th_lt hG hx
  have w5 := hM.2.2.2.2.1
  have w6 := hM.2.2.2.2.2.1
  obtain ⟨hi, hj, hm1, hm2, hA1, hB1⟩ := id hm
  have d1 := hF.1.dp_lt x3
  have d2 := hF.1.dp_lt x4
  have pn : ∀ q, q ≤ i + j → pth pa (sn x) (fs x) i j q < n := by
    intro q hq
    unfold pth
    split
    · exact (hF.1.climb x4 (by omega)).1
    · exact (hF.1.climb x3 (by omega)).1
  have pend : pth pa (sn x) (fs x) i j (i + j) = fs x := by
    unfold pth
    split
    · have e : j = 0 := by omega
      subst e
      rw [Nat.add_zero, hm1, ← hm2]; rfl
    · rw [Nat.sub_self]; rfl
  have pne : ∀ q, q < i + j → pth pa (sn x) (fs x) i j q ≠ fs x := by
    intro q hq e
    unfold pth at e
    split at e
    · rename_i hqi
      by_cases e2 : q = i
      · rw [e2, hm1, ← hm2] at e
        have := (hF.1.climb x3 (show j ≤ dp (fs x) by omega)).2.1
        rw [e] at this; omega
      · exact hA1 q (by omega) (by rw [e]; exact sub.refl _)
    · have := (hF.1.climb x3 (show i + j - q ≤ dp (fs x) by omega)).2.1
      rw [e] at this; omega
  have prt : ∀ q, q ≤ i + j → rt (fs x) = rt (pth pa (sn x) (fs x) i j q) := by
    intro q hq
    unfold pth
    split
    · rw [(hF.1.climb x4 (by omega)).2.2]; exact hr
    · rw [(hF.1.climb x3 (by omega)).2.2]
  unfold l_Md_odd_1
  refine wpS_fortG (fun q P s => s = σ ∧ q ≤ i + j ∧ q < k ∧ P = [some (.inr (.inl 14)), some (.inl (v : Int)), some (.inl (k : Int)), some (.inl (x : Int)), some (.inl (pth pa (sn x) (fs x) i j q : Int))]) (fun q => ((q + 1 : Nat) : Int)) (i + j) rfl rfl ?_ ?_ ?_ ?_
  · simp only [wpS_skip, wpS_break, wpS_cont, wpS_retV, wpS_throw, wpS_seq, wpS_if, wpS_trunc, yS_let, yS_inc, kgK_i, kgK_r, kok_nil, kok_i0, kok_is, kok_r0, kok_rs, kok_n0, kok_ns, xS_put, xS_putOp, xS_ast0, xS_ast1, xS_astOp, wpS_E, wpS_call, wpS_callS, wpS_ret, kThen_N, kThen_B, kThen_C, kThen_R, kThen_T, kNext_N, kNext_C, kNext_B, kNext_R, wpE_K, wpE_KL, xE_I, xE_R, wpE_J, xE_bin, wpE_ladd, wpE_i2l, xE_get, xE_ald0, xE_ald1, wpE_if, xE_max, xE_min, wpE_len, wpA_nil, wpA_snoc, xE_call, xE_callS, xC_C, xC_L, xC_Z, wpC_and, wpC_or, wpC_not, wpC_if, kcmp_0, kcmp_1, kcmp_2, kcmp_3, kcmp_4, kcmp_5, rR_inj, kgO_some, kgO_add, kgO_sub, kgO_mul, kgO_div, kgO_rem, kgO_and, kvI_inl, kvJ_inl, kgI_0, kgI_s, kgR_0, kgR_s, kst_nil, kst_0, kst_s, kNLl_nil, kNLl_i, kNLl_r, kNLl_n, ktag_i, ktag_r, List.length_cons, List.length_nil, List.take_succ_cons, List.take_zero, List.take_nil, List.nil_append, List.cons_append, decide_eq_true_eq, Bool.not_eq_true, Bool.not_eq_true', decide_eq_false_iff_not, ne_eq, Decidable.not_not, true_and, and_true, Nat.reduceAdd, Nat.reduceLeDiff, Nat.reduceEqDiff, Nat.le_refl, not_true_eq_false, not_false_eq_true, reduceIte, eq_self, Int.reduceNeg, Int.reduceEq, Int.reduceLT, Int.reduceLE, Nat.zero_le, Nat.one_ne_zero]; trivial
  · exact ⟨rfl, Nat.zero_le _, hk0, by rw [show pth pa (sn x) (fs x) i j 0 = sn x by unfold pth; rw [if_pos (Nat.zero_le _)]; rfl]⟩
  · rintro q P s ⟨-, -, -, rfl⟩; exact ⟨rfl, rfl⟩
  · rintro q P s hq ⟨hs, -, hqk, rfl⟩
    subst s
    obtain ⟨w, hw⟩ : ∃ w, w = pth pa (sn x) (fs x) i j q := ⟨_, rfl⟩
    have hwn := pn q hq
    rw [← hw] at hwn ⊢
    by_cases hlt : q < i + j
    · have hne := pne q hlt
      rw [← hw] at hne
      have c1 : ¬ (w : Int) = (fs x : Int) := by omega
      refine wpC_gen (fun Q2 hQ2 => ?_)
      simp only [wpS_skip, wpS_break, wpS_cont, wpS_retV, wpS_throw, wpS_seq, wpS_if, wpS_trunc, yS_let, yS_inc, kgK_i, kgK_r, kok_nil, kok_i0, kok_is, kok_r0, kok_rs, kok_n0, kok_ns, xS_put, xS_putOp, xS_ast0, xS_ast1, xS_astOp, wpS_E, wpS_call, wpS_callS, wpS_ret, kThen_N, kThen_B, kThen_C, kThen_R, kThen_T, kNext_N, kNext_C, kNext_B, kNext_R, wpE_K, wpE_KL, xE_I, xE_R, wpE_J, xE_bin, wpE_ladd, wpE_i2l, xE_get, xE_ald0, xE_ald1, wpE_if, xE_max, xE_min, wpE_len, wpA_nil, wpA_snoc, xE_call, xE_callS, xC_C, xC_L, xC_Z, wpC_and, wpC_or, wpC_not, wpC_if, kcmp_0, kcmp_1, kcmp_2, kcmp_3, kcmp_4, kcmp_5, rR_inj, kgO_some, kgO_add, kgO_sub, kgO_mul, kgO_div, kgO_rem, kgO_and, kvI_inl, kvJ_inl, kgI_0, kgI_s, kgR_0, kgR_s, kst_nil, kst_0, kst_s, kNLl_nil, kNLl_i, kNLl_r, kNLl_n, ktag_i, ktag_r, List.length_cons, List.length_nil, List.take_succ_cons, List.take_zero, List.take_nil, List.nil_append, List.cons_append, decide_eq_true_eq, Bool.not_eq_true, Bool.not_eq_true', decide_eq_false_iff_not, ne_eq, Decidable.not_not, true_and, and_true, Nat.reduceAdd, Nat.reduceLeDiff, Nat.reduceEqDiff, Nat.le_refl, not_true_eq_false, not_false_eq_true, reduceIte, eq_self, Int.reduceNeg, Int.reduceEq, Int.reduceLT, Int.reduceLE, Nat.zero_le, Nat.one_ne_zero, ev_model, ev_model_arr, Int.toNat_natCast, w5, c1, decide_true, decide_false, Bool.false_eq_true, if_true, if_false, true_and, and_true, not_true_eq_false, not_false_eq_true]
      repeat refine And.intro (by omega) ?_
      rw [hQ2]
      refine ⟨rfl, Or.inl ⟨rfl, hlt, by omega, by omega, by omega, ?_⟩⟩
      have hrw : rch (uE (fun x => th c li x ∧ tr x ≠ 0) fs sn) (fs x) w := (hF.1.rch_iff x3 hwn).mpr (by rw [hw]; exact prt q hq)
      obtain ⟨e, u, b1, b2, b3, b4, b5, d, b6, b7⟩ := hB w hrw hne
      have hun : u < n := by
        have := th_lt hG b2.1
        rcases b4 with ⟨-, t1, -⟩ | ⟨-, t1, -⟩ <;> omega
      obtain ⟨nx1, nx2⟩ := hF.next (q := q) x4 x3 hm hlt hw b2 (b4.imp (fun t => t.2) (fun t => t.2)) b6 b7
      have ed : (e : Int) / 2 = ((e / 2 : Nat) : Int) := by omega
      by_cases hkq : k = q + 1
      · have c2 : ((q + 1 : Nat) : Int) = (k : Int) := by omega
        refine wpS_seq' (fun Q101 hQ101 => ?_)
        simp only [wpS_skip, wpS_break, wpS_cont, wpS_retV, wpS_throw, wpS_seq, wpS_if, wpS_trunc, yS_let, yS_inc, kgK_i, kgK_r, kok_nil, kok_i0, kok_is, kok_r0, kok_rs, kok_n0, kok_ns, xS_put, xS_putOp, xS_ast0, xS_ast1, xS_astOp, wpS_E, wpS_call, wpS_callS, wpS_ret, kThen_N, kThen_B, kThen_C, kThen_R, kThen_T, kNext_N, kNext_C, kNext_B, kNext_R, wpE_K, wpE_KL, xE_I, xE_R, wpE_J, xE_bin, wpE_ladd, wpE_i2l, xE_get, xE_ald0, xE_ald1, wpE_if, xE_max, xE_min, wpE_len, wpA_nil, wpA_snoc, xE_call, xE_callS, xC_C, xC_L, xC_Z, wpC_and, wpC_or, wpC_not, wpC_if, kcmp_0, kcmp_1, kcmp_2, kcmp_3, kcmp_4, kcmp_5, rR_inj, kgO_some, kgO_add, kgO_sub, kgO_mul, kgO_div, kgO_rem, kgO_and, kvI_inl, kvJ_inl, kgI_0, kgI_s, kgR_0, kgR_s, kst_nil, kst_0, kst_s, kNLl_nil, kNLl_i, kNLl_r, kNLl_n, ktag_i, ktag_r, List.length_cons, List.length_nil, List.take_succ_cons, List.take_zero, List.take_nil, List.nil_append, List.cons_append, decide_eq_true_eq, Bool.not_eq_true, Bool.not_eq_true', decide_eq_false_iff_not, ne_eq, Decidable.not_not, true_and, and_true, Nat.reduceAdd, Nat.reduceLeDiff, Nat.reduceEqDiff, Nat.le_refl, not_true_eq_false, not_false_eq_true, reduceIte, eq_self, Int.reduceNeg, Int.reduceEq, Int.reduceLT, Int.reduceLE, Nat.zero_le, Nat.one_ne_zero, c2, decide_true, decide_false, Bool.false_eq_true, if_true, if_false, true_and, and_true, not_true_eq_false, not_false_eq_true]
        simp only [wpS_skip, wpS_break, wpS_cont, wpS_retV, wpS_throw, wpS_seq, wpS_if, wpS_trunc, yS_let, yS_inc, kgK_i, kgK_r, kok_nil, kok_i0, kok_is, kok_r0, kok_rs, kok_n0, kok_ns, xS_put, xS_putOp, xS_ast0, xS_ast1, xS_astOp, wpS_E, wpS_call, wpS_callS, wpS_ret, kThen_N, kThen_B, kThen_C, kThen_R, kThen_T, kNext_N, kNext_C, kNext_B, kNext_R, wpE_K, wpE_KL, xE_I, xE_R, wpE_J, xE_bin, wpE_ladd, wpE_i2l, xE_get, xE_ald0, xE_ald1, wpE_if, xE_max, xE_min, wpE_len, wpA_nil, wpA_snoc, xE_call, xE_callS, xC_C, xC_L, xC_Z, wpC_and, wpC_or, wpC_not, wpC_if, kcmp_0, kcmp_1, kcmp_2, kcmp_3, kcmp_4, kcmp_5, rR_inj, kgO_some, kgO_add, kgO_sub, kgO_mul, kgO_div, kgO_rem, kgO_and, kvI_inl, kvJ_inl, kgI_0, kgI_s, kgR_0, kgR_s, kst_nil, kst_0, kst_s, kNLl_nil, kNLl_i, kNLl_r, kNLl_n, ktag_i, ktag_r, List.length_cons, List.length_nil, List.take_succ_cons, List.take_zero, List.take_nil, List.nil_append, List.cons_append, decide_eq_true_eq, Bool.not_eq_true, Bool.not_eq_true', decide_eq_false_iff_not, ne_eq, Decidable.not_not, true_and, and_true, Nat.reduceAdd, Nat.reduceLeDiff, Nat.reduceEqDiff, Nat.le_refl, not_true_eq_false, not_false_eq_true, reduceIte, eq_self, Int.reduceNeg, Int.reduceEq, Int.reduceLT, Int.reduceLE, Nat.zero_le, Nat.one_ne_zero, ev_model, ev_model_arr, Int.toNat_natCast, b1, ed]
        repeat refine And.intro (by omega) ?_
        rw [hQ101]
        refine kThen_R.mpr (kStep_R ?_)
        have := hQ (by omega)
        rw [hkq, show q + 1 - 1 = q by omega, ← hw, ← nx2, ← hkq] at this
        exact this
      · have c2 : ¬ ((q + 1 : Nat) : Int) = (k : Int) := by omega
        refine wpS_seq' (fun Q102 hQ102 => ?_)
        simp only [wpS_skip, wpS_break, wpS_cont, wpS_retV, wpS_throw, wpS_seq, wpS_if, wpS_trunc, yS_let, yS_inc, kgK_i, kgK_r, kok_nil, kok_i0, kok_is, kok_r0, kok_rs, kok_n0, kok_ns, xS_put, xS_putOp, xS_ast0, xS_ast1, xS_astOp, wpS_E, wpS_call, wpS_callS, wpS_ret, kThen_N, kThen_B, kThen_C, kThen_R, kThen_T, kNext_N, kNext_C, kNext_B, kNext_R, wpE_K, wpE_KL, xE_I, xE_R, wpE_J, xE_bin, wpE_ladd, wpE_i2l, xE_get, xE_ald0, xE_ald1, wpE_if, xE_max, xE_min, wpE_len, wpA_nil, wpA_snoc, xE_call, xE_callS, xC_C, xC_L, xC_Z, wpC_and, wpC_or, wpC_not, wpC_if, kcmp_0, kcmp_1, kcmp_2, kcmp_3, kcmp_4, kcmp_5, rR_inj, kgO_some, kgO_add, kgO_sub, kgO_mul, kgO_div, kgO_rem, kgO_and, kvI_inl, kvJ_inl, kgI_0, kgI_s, kgR_0, kgR_s, kst_nil, kst_0, kst_s, kNLl_nil, kNLl_i, kNLl_r, kNLl_n, ktag_i, ktag_r, List.length_cons, List.length_nil, List.take_succ_cons, List.take_zero, List.take_nil, List.nil_append, List.cons_append, decide_eq_true_eq, Bool.not_eq_true, Bool.not_eq_true', decide_eq_false_iff_not, ne_eq, Decidable.not_not, true_and, and_true, Nat.reduceAdd, Nat.reduceLeDiff, Nat.reduceEqDiff, Nat.le_refl, not_true_eq_false, not_false_eq_true, reduceIte, eq_self, Int.reduceNeg, Int.reduceEq, Int.reduceLT, Int.reduceLE, Nat.zero_le, Nat.one_ne_zero, c2, decide_true, decide_false, Bool.false_eq_true, if_true, if_false, true_and, and_true, not_true_eq_false, not_false_eq_true]
        rw [hQ102]
        clear hQ102
        refine kThen_N.mpr ?_
        refine wpS_gen (fun Q3 hQ3 => ?_)
        simp only [wpS_skip, wpS_break, wpS_cont, wpS_retV, wpS_throw, wpS_seq, wpS_if, wpS_trunc, yS_let, yS_inc, kgK_i, kgK_r, kok_nil, kok_i0, kok_is, kok_r0, kok_rs, kok_n0, kok_ns, xS_put, xS_putOp, xS_ast0, xS_ast1, xS_astOp, wpS_E, wpS_call, wpS_callS, wpS_ret, kThen_N, kThen_B, kThen_C, kThen_R, kThen_T, kNext_N, kNext_C, kNext_B, kNext_R, wpE_K, wpE_KL, xE_I, xE_R, wpE_J, xE_bin, wpE_ladd, wpE_i2l, xE_get, xE_ald0, xE_ald1, wpE_if, xE_max, xE_min, wpE_len, wpA_nil, wpA_snoc, xE_call, xE_callS, xC_C, xC_L, xC_Z, wpC_and, wpC_or, wpC_not, wpC_if, kcmp_0, kcmp_1, kcmp_2, kcmp_3, kcmp_4, kcmp_5, rR_inj, kgO_some, kgO_add, kgO_sub, kgO_mul, kgO_div, kgO_rem, kgO_and, kvI_inl, kvJ_inl, kgI_0, kgI_s, kgR_0, kgR_s, kst_nil, kst_0, kst_s, kNLl_nil, kNLl_i, kNLl_r, kNLl_n, ktag_i, ktag_r, List.length_cons, List.length_nil, List.take_succ_cons, List.take_zero, List.take_nil, List.nil_append, List.cons_append, decide_eq_true_eq, Bool.not_eq_true, Bool.not_eq_true', decide_eq_false_iff_not, ne_eq, Decidable.not_not, true_and, and_true, Nat.reduceAdd, Nat.reduceLeDiff, Nat.reduceEqDiff, Nat.le_refl, not_true_eq_false, not_false_eq_true, reduceIte, eq_self, Int.reduceNeg, Int.reduceEq, Int.reduceLT, Int.reduceLE, Nat.zero_le, Nat.one_ne_zero, ev_model, ev_model_arr, Int.toNat_natCast, b1]
        repeat refine And.intro (by omega) ?_
        refine (mdOther_ok (fs := fs) (sn := sn) w5 w6 b3).mono ?_
        rintro r s ⟨hs, rfl⟩
        subst s
        rw [kgO_some]
        simp only [wpS_skip, wpS_break, wpS_cont, wpS_retV, wpS_throw, wpS_seq, wpS_if, wpS_trunc, yS_let, yS_inc, kgK_i, kgK_r, kok_nil, kok_i0, kok_is, kok_r0, kok_rs, kok_n0, kok_ns, xS_put, xS_putOp, xS_ast0, xS_ast1, xS_astOp, wpS_E, wpS_call, wpS_callS, wpS_ret, kThen_N, kThen_B, kThen_C, kThen_R, kThen_T, kNext_N, kNext_C, kNext_B, kNext_R, wpE_K, wpE_KL, xE_I, xE_R, wpE_J, xE_bin, wpE_ladd, wpE_i2l, xE_get, xE_ald0, xE_ald1, wpE_if, xE_max, xE_min, wpE_len, wpA_nil, wpA_snoc, xE_call, xE_callS, xC_C, xC_L, xC_Z, wpC_and, wpC_or, wpC_not, wpC_if, kcmp_0, kcmp_1, kcmp_2, kcmp_3, kcmp_4, kcmp_5, rR_inj, kgO_some, kgO_add, kgO_sub, kgO_mul, kgO_div, kgO_rem, kgO_and, kvI_inl, kvJ_inl, kgI_0, kgI_s, kgR_0, kgR_s, kst_nil, kst_0, kst_s, kNLl_nil, kNLl_i, kNLl_r, kNLl_n, ktag_i, ktag_r, List.length_cons, List.length_nil, List.take_succ_cons, List.take_zero, List.take_nil, List.nil_append, List.cons_append, decide_eq_true_eq, Bool.not_eq_true, Bool.not_eq_true', decide_eq_false_iff_not, ne_eq, Decidable.not_not, true_and, and_true, Nat.reduceAdd, Nat.reduceLeDiff, Nat.reduceEqDiff, Nat.le_refl, not_true_eq_false, not_false_eq_true, reduceIte, eq_self, Int.reduceNeg, Int.reduceEq, Int.reduceLT, Int.reduceLE, Nat.zero_le, Nat.one_ne_zero]
        have eu : (if e % 2 = 0 then fs (e / 2) else sn (e / 2)) = u := by
          rcases b4 with ⟨t1, t2, -⟩ | ⟨t1, t2, -⟩
          · rw [if_pos t1]; exact t2
          · rw [if_neg (by omega)]; exact t2
        rw [eu, hQ3]
        refine kStep_N (P := [some (.inr (.inl 14)), some (.inl (v : Int)), some (.inl (k : Int)), some (.inl (x : Int)), some (.inl (u : Int))]) rfl ⟨rfl, by omega, by omega, by rw [nx1]⟩
    · have eq : q = i + j := by omega
      have ew : w = fs x := by rw [hw, eq]; exact pend
      have c1 : (w : Int) = (fs x : Int) := by omega
      refine wpC_gen (fun Q2 hQ2 => ?_)
      simp only [wpS_skip, wpS_break, wpS_cont, wpS_retV, wpS_throw, wpS_seq, wpS_if, wpS_trunc, yS_let, yS_inc, kgK_i, kgK_r, kok_nil, kok_i0, kok_is, kok_r0, kok_rs, kok_n0, kok_ns, xS_put, xS_putOp, xS_ast0, xS_ast1, xS_astOp, wpS_E, wpS_call, wpS_callS, wpS_ret, kThen_N, kThen_B, kThen_C, kThen_R, kThen_T, kNext_N, kNext_C, kNext_B, kNext_R, wpE_K, wpE_KL, xE_I, xE_R, wpE_J, xE_bin, wpE_ladd, wpE_i2l, xE_get, xE_ald0, xE_ald1, wpE_if, xE_max, xE_min, wpE_len, wpA_nil, wpA_snoc, xE_call, xE_callS, xC_C, xC_L, xC_Z, wpC_and, wpC_or, wpC_not, wpC_if, kcmp_0, kcmp_1, kcmp_2, kcmp_3, kcmp_4, kcmp_5, rR_inj, kgO_some, kgO_add, kgO_sub, kgO_mul, kgO_div, kgO_rem, kgO_and, kvI_inl, kvJ_inl, kgI_0, kgI_s, kgR_0, kgR_s, kst_nil, kst_0, kst_s, kNLl_nil, kNLl_i, kNLl_r, kNLl_n, ktag_i, ktag_r, List.length_cons, List.length_nil, List.take_succ_cons, List.take_zero, List.take_nil, List.nil_append, List.cons_append, decide_eq_true_eq, Bool.not_eq_true, Bool.not_eq_true', decide_eq_false_iff_not, ne_eq, Decidable.not_not, true_and, and_true, Nat.reduceAdd, Nat.reduceLeDiff, Nat.reduceEqDiff, Nat.le_refl, not_true_eq_false, not_false_eq_true, reduceIte, eq_self, Int.reduceNeg, Int.reduceEq, Int.reduceLT, Int.reduceLE, Nat.zero_le, Nat.one_ne_zero, ev_model, ev_model_arr, Int.toNat_natCast, w5, c1, decide_true, decide_false, Bool.false_eq_true, if_true, if_false, true_and, and_true, not_true_eq_false, not_false_eq_true]
      repeat refine And.intro (by omega) ?_
      rw [hQ2]
      have := hE2 (by omega)
      rw [← ew] at this
      exact ⟨rfl, Or.inr ⟨rfl, this⟩⟩
end MO
