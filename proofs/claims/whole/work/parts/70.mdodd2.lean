/-! THE REFERENCE'S odd, whole -/
section MO2
variable {σ : kS} {n c ar : Nat} {li fs sn lv : Nat → Nat} {tr lo : Nat → Int} {rt dp : Nat → Nat} {pa up : Nat → Int}
theorem LF.top {A : Nat → Prop} (h : LF n A fs sn rt dp pa up) {v : Nat} (hv : v < n) : clb pa (dp v) v = rt v := by
  obtain ⟨a, b, d⟩ := h.climb hv (Nat.le_refl (dp v))
  rcases (h.1 _ a).2.2 with q | ⟨-, x, p, q1, q2, q3, q4, q5, q6, q7⟩
  · rw [← q.1, d]
  · omega
theorem LF.meet {A : Nat → Prop} (h : LF n A fs sn rt dp pa up) {s f : Nat} (hs : s < n) (hf : f < n) (hr : rt f = rt s) : ∃ m i j, meetAt dp pa s f m i j := by
  have key : ∀ k, k ≤ dp s → (∃ i, i ≤ dp s ∧ sub dp pa (clb pa i s) f ∧ ∀ k, k < i → ¬ sub dp pa (clb pa k s) f) ∨ (∀ q, q < k → ¬ sub dp pa (clb pa q s) f) := by
    intro k
    induction k with
    | zero => intro _; exact Or.inr fun q hq => by omega
    | succ k ih =>
      intro hk
      rcases ih (by omega) with z | z
      · exact Or.inl z
      · by_cases e : sub dp pa (clb pa k s) f
        · exact Or.inl ⟨k, by omega, e, z⟩
        · refine Or.inr fun q hq => ?_
          rcases Nat.lt_or_ge q k with y | y
          · exact z q y
          · have : q = k := by omega
            rw [this]; exact e
  have ht : sub dp pa (clb pa (dp s) s) f := by
    have e1 := (h.climb hs (Nat.le_refl (dp s))).2.1
    have e2 : dp (clb pa (dp s) s) = 0 := by omega
    exact ⟨by omega, by rw [e2, Nat.sub_zero, h.top hf, h.top hs, hr]⟩
  have hex : ∃ i, i ≤ dp s ∧ sub dp pa (clb pa i s) f ∧ ∀ k, k < i → ¬ sub dp pa (clb pa k s) f := by
    rcases key (dp s) (Nat.le_refl _) with z | z
    · exact z
    · exact ⟨dp s, Nat.le_refl _, ht, z⟩
  obtain ⟨i, hi, ⟨s1, s2⟩, hA⟩ := hex
  have e1 := (h.climb hs hi).2.1
  refine ⟨clb pa i s, i, dp f - dp (clb pa i s), hi, by omega, rfl, s2, hA, fun k hk hb => ?_⟩
  obtain ⟨b1, b2⟩ := hb
  have e3 := (h.climb hf (show k ≤ dp f by omega)).2.1
  refine hA (dp s - dp (clb pa k f)) (by omega) ?_
  rw [b2]
  exact h.sub_climb hf (by omega)
theorem LF.meet_uniq {A : Nat → Prop} (h : LF n A fs sn rt dp pa up) {s f m i j m' i' j' : Nat} (hs : s < n) (hf : f < n) (h1 : meetAt dp pa s f m i j) (h2 : meetAt dp pa s f m' i' j') : i = i' ∧ j = j' := by
  obtain ⟨a1, a2, a3, a4, a5, a6⟩ := h1
  obtain ⟨b1, b2, b3, b4, b5, b6⟩ := h2
  have ei : i = i' := by
    rcases Nat.lt_trichotomy i i' with z | z | z
    · exact absurd (by rw [a3, ← a4]; exact h.sub_climb hf a2) (b5 i z)
    · exact z
    · exact absurd (by rw [b3, ← b4]; exact h.sub_climb hf b2) (a5 i' z)
  subst ei
  have e1 := (h.climb hf a2).2.1
  have e2 := (h.climb hf b2).2.1
  rw [a4, ← a3] at e1
  rw [b4, ← b3] at e2
  exact ⟨rfl, by omega⟩
/-- odd's answer: z is the odd arc with the least number of the node's part, or -1 -/
def oddR (c : Nat) (li fs sn rt dp : Nat → Nat) (tr : Nat → Int) (pa up : Nat → Int) (v k : Nat) (y : Int) : Prop :=
  ∃ z : Int, oddIs c li fs sn rt dp tr v z ∧ (((z = -1 ∨ k = 0) ∧ y = z) ∨ (0 < k ∧ ∃ x m i j : Nat, z = (x : Int) ∧ th c li x ∧ meetAt dp pa (sn x) (fs x) m i j ∧ y = ringV pa up (sn x) (fs x) i j k))
theorem oddR.uniq {A : Nat → Prop} (h : LF n A fs sn rt dp pa up) (hG : gOk n c ar li fs sn) {v k : Nat} {y y' : Int} (h1 : oddR c li fs sn rt dp tr pa up v k y) (h2 : oddR c li fs sn rt dp tr pa up v k y') : y = y' := by
  obtain ⟨z, a1, a2⟩ := h1
  obtain ⟨z', b1, b2⟩ := h2
  have := a1.uniq b1
  subst this
  rcases a2 with ⟨a3, a4⟩ | ⟨a3, x, m, i, j, a4, a5, a6, a7⟩ <;> rcases b2 with ⟨b3, b4⟩ | ⟨b3, x', m', i', j', b4, b5, b6, b7⟩
  · rw [a4, b4]
  · omega
  · omega
  · have : x = x' := by omega
    subst this
    obtain ⟨-, -, x3, x4⟩ := th_lt hG a5
    obtain ⟨ei, ej⟩ := h.meet_uniq x4 x3 a6 b6
    rw [a7, b7, ei, ej]
theorem oddIs.th {v x : Nat} (h : oddIs c li fs sn rt dp tr v (x : Int)) : th c li x ∧ oddA tr fs sn dp x := by
  rcases h with ⟨k, k1, k2, k3, k4⟩ | ⟨k1, k2⟩
  · have : x = li k := by omega
    rw [this]; exact ⟨⟨k, k1, rfl⟩, k2.1⟩
  · omega
theorem RM.thrown {t : Int} (h : RM σ n c ar li fs sn lv tr lo) : RM (kup σ 14 22 t) n c ar li fs sn lv tr lo := by
  refine h.agree (fun o k ho => ?_)
  unfold kup
  exact if_neg (by omega)
theorem kup_kup {σ : kS} {o k : Nat} {a b : Int} : kup (kup σ o k a) o k b = kup σ o k b := by
  funext x y
  unfold kup
  by_cases e : x = o ∧ y = k
  · rw [if_pos e, if_pos e]
  · rw [if_neg e, if_neg e, if_neg e]
theorem mdOdd_ok {v k : Int} (hk : k < 2147483648) (hG : gOk n c ar li fs sn) (hM : RM σ n c ar li fs sn lv tr lo) (hF : FO n (fun x => th c li x ∧ tr x ≠ 0) fs sn rt dp pa up) (hH : ∀ x, th c li x → rt (fs x) = rt (sn x)) :
    wpF F_Md_odd [.inr (.inl 14), .inl v, .inl k] σ (fun r s => (¬ (0 ≤ v ∧ v < (n : Int) ∧ 0 ≤ k) → sK (kup σ 14 22 1) s ∧ r = some (.inl 0)) ∧ (0 ≤ v ∧ v < (n : Int) ∧ 0 ≤ k → sK (kup σ 14 22 0) s ∧ ∃ y : Int, r = some (.inl y) ∧ oddR c li fs sn rt dp tr pa up v.toNat k.toNat y)) := by
  have hn3 := hG.1
  unfold F_Md_odd
  rw [wpF_kF]
  refine ⟨rfl, rfl, ?_⟩
  unfold s_Md_odd
  simp only [List.map_cons, List.map_nil]
  refine wpS_seq' (fun Q101 hQ101 => ?_)
  simp only [wpS_skip, wpS_break, wpS_cont, wpS_retV, wpS_throw, wpS_seq, wpS_if, wpS_trunc, yS_let, yS_inc, kgK_i, kgK_r, kok_nil, kok_i0, kok_is, kok_r0, kok_rs, kok_n0, kok_ns, xS_put, xS_putOp, xS_ast0, xS_ast1, xS_astOp, wpS_E, wpS_call, wpS_callS, wpS_ret, kThen_N, kThen_B, kThen_C, kThen_R, kThen_T, kNext_N, kNext_C, kNext_B, kNext_R, wpE_K, wpE_KL, xE_I, xE_R, wpE_J, xE_bin, wpE_ladd, wpE_i2l, xE_get, xE_ald0, xE_ald1, wpE_if, xE_max, xE_min, wpE_len, wpA_nil, wpA_snoc, xE_call, xE_callS, xC_C, xC_L, xC_Z, wpC_and, wpC_or, wpC_not, wpC_if, kcmp_0, kcmp_1, kcmp_2, kcmp_3, kcmp_4, kcmp_5, rR_inj, kgO_some, kgO_add, kgO_sub, kgO_mul, kgO_div, kgO_rem, kgO_and, kvI_inl, kvJ_inl, kgI_0, kgI_s, kgR_0, kgR_s, kst_nil, kst_0, kst_s, kNLl_nil, kNLl_i, kNLl_r, kNLl_n, ktag_i, ktag_r, List.length_cons, List.length_nil, List.take_succ_cons, List.take_zero, List.take_nil, List.nil_append, List.cons_append, decide_eq_true_eq, Bool.not_eq_true, Bool.not_eq_true', decide_eq_false_iff_not, ne_eq, Decidable.not_not, true_and, and_true, Nat.reduceAdd, Nat.reduceLeDiff, Nat.reduceEqDiff, Nat.le_refl, not_true_eq_false, not_false_eq_true, reduceIte, eq_self, Int.reduceNeg, Int.reduceEq, Int.reduceLT, Int.reduceLE, Nat.zero_le, Nat.one_ne_zero, ev_model]
  repeat refine And.intro (by omega) ?_
  rw [hQ101]
  clear hQ101 Q101
  refine kThen_N.mpr ?_
  obtain ⟨σ0, hσ⟩ : ∃ s, s = kup σ 14 22 0 := ⟨_, rfl⟩
  rw [← hσ]
  have M0 : RM σ0 n c ar li fs sn lv tr lo := by rw [hσ]; exact hM.thrown
  have w1 := M0.1
  have bad : ∀ Q : kR → kL → kS → Prop, ∀ L : kL, Q (rR (some (.inl 0))) L (kup σ 14 22 1) → wpF F_Md_fail [Sum.inr (Sum.inl 14), Sum.inl 1] σ0 fun r σ2 => kgO r fun v_2 => ktag v_2 = 0 ∧ Q (rR (some v_2)) L σ2 := by
    intro Q L h
    refine mdFail_ok.mono ?_
    rintro r s ⟨rfl, hs⟩
    rw [hs, kgO_some, hσ, kup_kup]
    exact ⟨rfl, h⟩
  refine wpS_seq' (fun Q102 hQ102 => ?_)
  simp only [wpS_skip, wpS_break, wpS_cont, wpS_retV, wpS_throw, wpS_seq, wpS_if, wpS_trunc, yS_let, yS_inc, kgK_i, kgK_r, kok_nil, kok_i0, kok_is, kok_r0, kok_rs, kok_n0, kok_ns, xS_put, xS_putOp, xS_ast0, xS_ast1, xS_astOp, wpS_E, wpS_call, wpS_callS, wpS_ret, kThen_N, kThen_B, kThen_C, kThen_R, kThen_T, kNext_N, kNext_C, kNext_B, kNext_R, wpE_K, wpE_KL, xE_I, xE_R, wpE_J, xE_bin, wpE_ladd, wpE_i2l, xE_get, xE_ald0, xE_ald1, wpE_if, xE_max, xE_min, wpE_len, wpA_nil, wpA_snoc, xE_call, xE_callS, xC_C, xC_L, xC_Z, wpC_and, wpC_or, wpC_not, wpC_if, kcmp_0, kcmp_1, kcmp_2, kcmp_3, kcmp_4, kcmp_5, rR_inj, kgO_some, kgO_add, kgO_sub, kgO_mul, kgO_div, kgO_rem, kgO_and, kvI_inl, kvJ_inl, kgI_0, kgI_s, kgR_0, kgR_s, kst_nil, kst_0, kst_s, kNLl_nil, kNLl_i, kNLl_r, kNLl_n, ktag_i, ktag_r, List.length_cons, List.length_nil, List.take_succ_cons, List.take_zero, List.take_nil, List.nil_append, List.cons_append, decide_eq_true_eq, Bool.not_eq_true, Bool.not_eq_true', decide_eq_false_iff_not, ne_eq, Decidable.not_not, true_and, and_true, Nat.reduceAdd, Nat.reduceLeDiff, Nat.reduceEqDiff, Nat.le_refl, not_true_eq_false, not_false_eq_true, reduceIte, eq_self, Int.reduceNeg, Int.reduceEq, Int.reduceLT, Int.reduceLE, Nat.zero_le, Nat.one_ne_zero, ev_model]
  refine mdIsNode_ok.mono ?_
  rintro r s ⟨hs, hr⟩
  subst s
  by_cases g : 0 ≤ v ∧ v < (n : Int) ∧ 0 ≤ k
  · obtain ⟨g1, g2, g3⟩ := g
    have er : r = some (.inl 1) := by
      rcases hr with z | z
      · exact z.2.2
      · omega
    subst er
    have g4 : ¬ k < 0 := by omega
    rw [kgO_some]
    simp only [wpS_skip, wpS_break, wpS_cont, wpS_retV, wpS_throw, wpS_seq, wpS_if, wpS_trunc, yS_let, yS_inc, kgK_i, kgK_r, kok_nil, kok_i0, kok_is, kok_r0, kok_rs, kok_n0, kok_ns, xS_put, xS_putOp, xS_ast0, xS_ast1, xS_astOp, wpS_E, wpS_call, wpS_callS, wpS_ret, kThen_N, kThen_B, kThen_C, kThen_R, kThen_T, kNext_N, kNext_C, kNext_B, kNext_R, wpE_K, wpE_KL, xE_I, xE_R, wpE_J, xE_bin, wpE_ladd, wpE_i2l, xE_get, xE_ald0, xE_ald1, wpE_if, xE_max, xE_min, wpE_len, wpA_nil, wpA_snoc, xE_call, xE_callS, xC_C, xC_L, xC_Z, wpC_and, wpC_or, wpC_not, wpC_if, kcmp_0, kcmp_1, kcmp_2, kcmp_3, kcmp_4, kcmp_5, rR_inj, kgO_some, kgO_add, kgO_sub, kgO_mul, kgO_div, kgO_rem, kgO_and, kvI_inl, kvJ_inl, kgI_0, kgI_s, kgR_0, kgR_s, kst_nil, kst_0, kst_s, kNLl_nil, kNLl_i, kNLl_r, kNLl_n, ktag_i, ktag_r, List.length_cons, List.length_nil, List.take_succ_cons, List.take_zero, List.take_nil, List.nil_append, List.cons_append, decide_eq_true_eq, Bool.not_eq_true, Bool.not_eq_true', decide_eq_false_iff_not, ne_eq, Decidable.not_not, true_and, and_true, Nat.reduceAdd, Nat.reduceLeDiff, Nat.reduceEqDiff, Nat.le_refl, not_true_eq_false, not_false_eq_true, reduceIte, eq_self, Int.reduceNeg, Int.reduceEq, Int.reduceLT, Int.reduceLE, Nat.zero_le, Nat.one_ne_zero, g4]
    rw [hQ102]
    clear hQ102
    refine kThen_N.mpr ?_
    obtain ⟨v', rfl⟩ : ∃ v' : Nat, v = (v' : Int) := ⟨v.toNat, by omega⟩
    obtain ⟨k', rfl⟩ : ∃ k' : Nat, k = (k' : Int) := ⟨k.toNat, by omega⟩
    clear hr bad g3 g4
    simp only [Int.toNat_natCast]
    refine wpS_seq' (fun Q103 hQ103 => ?_)
    simp only [wpS_skip, wpS_break, wpS_cont, wpS_retV, wpS_throw, wpS_seq, wpS_if, wpS_trunc, yS_let, yS_inc, kgK_i, kgK_r, kok_nil, kok_i0, kok_is, kok_r0, kok_rs, kok_n0, kok_ns, xS_put, xS_putOp, xS_ast0, xS_ast1, xS_astOp, wpS_E, wpS_call, wpS_callS, wpS_ret, kThen_N, kThen_B, kThen_C, kThen_R, kThen_T, kNext_N, kNext_C, kNext_B, kNext_R, wpE_K, wpE_KL, xE_I, xE_R, wpE_J, xE_bin, wpE_ladd, wpE_i2l, xE_get, xE_ald0, xE_ald1, wpE_if, xE_max, xE_min, wpE_len, wpA_nil, wpA_snoc, xE_call, xE_callS, xC_C, xC_L, xC_Z, wpC_and, wpC_or, wpC_not, wpC_if, kcmp_0, kcmp_1, kcmp_2, kcmp_3, kcmp_4, kcmp_5, rR_inj, kgO_some, kgO_add, kgO_sub, kgO_mul, kgO_div, kgO_rem, kgO_and, kvI_inl, kvJ_inl, kgI_0, kgI_s, kgR_0, kgR_s, kst_nil, kst_0, kst_s, kNLl_nil, kNLl_i, kNLl_r, kNLl_n, ktag_i, ktag_r, List.length_cons, List.length_nil, List.take_succ_cons, List.take_zero, List.take_nil, List.nil_append, List.cons_append, decide_eq_true_eq, Bool.not_eq_true, Bool.not_eq_true', decide_eq_false_iff_not, ne_eq, Decidable.not_not, true_and, and_true, Nat.reduceAdd, Nat.reduceLeDiff, Nat.reduceEqDiff, Nat.le_refl, not_true_eq_false, not_false_eq_true, reduceIte, eq_self, Int.reduceNeg, Int.reduceEq, Int.reduceLT, Int.reduceLE, Nat.zero_le, Nat.one_ne_zero, ev_model]
    refine (mdOddOf_ok hG M0 hF hH (by omega)).mono ?_
    rintro r s1 ⟨k1, z, rfl, hz⟩
    rw [kgO_some]
    simp only [wpS_skip, wpS_break, wpS_cont, wpS_retV, wpS_throw, wpS_seq, wpS_if, wpS_trunc, yS_let, yS_inc, kgK_i, kgK_r, kok_nil, kok_i0, kok_is, kok_r0, kok_rs, kok_n0, kok_ns, xS_put, xS_putOp, xS_ast0, xS_ast1, xS_astOp, wpS_E, wpS_call, wpS_callS, wpS_ret, kThen_N, kThen_B, kThen_C, kThen_R, kThen_T, kNext_N, kNext_C, kNext_B, kNext_R, wpE_K, wpE_KL, xE_I, xE_R, wpE_J, xE_bin, wpE_ladd, wpE_i2l, xE_get, xE_ald0, xE_ald1, wpE_if, xE_max, xE_min, wpE_len, wpA_nil, wpA_snoc, xE_call, xE_callS, xC_C, xC_L, xC_Z, wpC_and, wpC_or, wpC_not, wpC_if, kcmp_0, kcmp_1, kcmp_2, kcmp_3, kcmp_4, kcmp_5, rR_inj, kgO_some, kgO_add, kgO_sub, kgO_mul, kgO_div, kgO_rem, kgO_and, kvI_inl, kvJ_inl, kgI_0, kgI_s, kgR_0, kgR_s, kst_nil, kst_0, kst_s, kNLl_nil, kNLl_i, kNLl_r, kNLl_n, ktag_i, ktag_r, List.length_cons, List.length_nil, List.take_succ_cons, List.take_zero, List.take_nil, List.nil_append, List.cons_append, decide_eq_true_eq, Bool.not_eq_true, Bool.not_eq_true', decide_eq_false_iff_not, ne_eq, Decidable.not_not, true_and, and_true, Nat.reduceAdd, Nat.reduceLeDiff, Nat.reduceEqDiff, Nat.le_refl, not_true_eq_false, not_false_eq_true, reduceIte, eq_self, Int.reduceNeg, Int.reduceEq, Int.reduceLT, Int.reduceLE, Nat.zero_le, Nat.one_ne_zero]
    rw [hQ103]
    clear hQ103
    refine kThen_N.mpr ?_
    have M1 := M0.keep k1
    by_cases z1 : z = -1
    · refine wpS_seq' (fun Q104 hQ104 => ?_)
      simp only [wpS_skip, wpS_break, wpS_cont, wpS_retV, wpS_throw, wpS_seq, wpS_if, wpS_trunc, yS_let, yS_inc, kgK_i, kgK_r, kok_nil, kok_i0, kok_is, kok_r0, kok_rs, kok_n0, kok_ns, xS_put, xS_putOp, xS_ast0, xS_ast1, xS_astOp, wpS_E, wpS_call, wpS_callS, wpS_ret, kThen_N, kThen_B, kThen_C, kThen_R, kThen_T, kNext_N, kNext_C, kNext_B, kNext_R, wpE_K, wpE_KL, xE_I, xE_R, wpE_J, xE_bin, wpE_ladd, wpE_i2l, xE_get, xE_ald0, xE_ald1, wpE_if, xE_max, xE_min, wpE_len, wpA_nil, wpA_snoc, xE_call, xE_callS, xC_C, xC_L, xC_Z, wpC_and, wpC_or, wpC_not, wpC_if, kcmp_0, kcmp_1, kcmp_2, kcmp_3, kcmp_4, kcmp_5, rR_inj, kgO_some, kgO_add, kgO_sub, kgO_mul, kgO_div, kgO_rem, kgO_and, kvI_inl, kvJ_inl, kgI_0, kgI_s, kgR_0, kgR_s, kst_nil, kst_0, kst_s, kNLl_nil, kNLl_i, kNLl_r, kNLl_n, ktag_i, ktag_r, List.length_cons, List.length_nil, List.take_succ_cons, List.take_zero, List.take_nil, List.nil_append, List.cons_append, decide_eq_true_eq, Bool.not_eq_true, Bool.not_eq_true', decide_eq_false_iff_not, ne_eq, Decidable.not_not, true_and, and_true, Nat.reduceAdd, Nat.reduceLeDiff, Nat.reduceEqDiff, Nat.le_refl, not_true_eq_false, not_false_eq_true, reduceIte, eq_self, Int.reduceNeg, Int.reduceEq, Int.reduceLT, Int.reduceLE, Nat.zero_le, Nat.one_ne_zero, z1, decide_true, decide_false, Bool.false_eq_true, if_true, if_false, true_and, and_true, not_true_eq_false, not_false_eq_true]
      rw [hQ104]
      refine kThen_R.mpr ⟨_, rfl, rfl, fun h => absurd ⟨g1, g2, by omega⟩ h, fun _ => ⟨k1, -1, rfl, z, hz, Or.inl ⟨Or.inl z1, z1.symm⟩⟩⟩
    · obtain ⟨x, rfl⟩ : ∃ x : Nat, z = (x : Int) := by
        rcases id hz with ⟨q, -, -, -, q4⟩ | ⟨-, q4⟩
        · exact ⟨_, q4⟩
        · exact absurd q4 z1
      obtain ⟨hx, -, -⟩ := hz.th
      obtain ⟨x1, x2, x3, x4⟩ := th_lt hG hx
      have w5 := M1.2.2.2.2.1
      by_cases e0 : k' = 0
      · have e0' : (k' : Int) = 0 := by omega
        refine wpS_seq' (fun Q105 hQ105 => ?_)
        simp only [wpS_skip, wpS_break, wpS_cont, wpS_retV, wpS_throw, wpS_seq, wpS_if, wpS_trunc, yS_let, yS_inc, kgK_i, kgK_r, kok_nil, kok_i0, kok_is, kok_r0, kok_rs, kok_n0, kok_ns, xS_put, xS_putOp, xS_ast0, xS_ast1, xS_astOp, wpS_E, wpS_call, wpS_callS, wpS_ret, kThen_N, kThen_B, kThen_C, kThen_R, kThen_T, kNext_N, kNext_C, kNext_B, kNext_R, wpE_K, wpE_KL, xE_I, xE_R, wpE_J, xE_bin, wpE_ladd, wpE_i2l, xE_get, xE_ald0, xE_ald1, wpE_if, xE_max, xE_min, wpE_len, wpA_nil, wpA_snoc, xE_call, xE_callS, xC_C, xC_L, xC_Z, wpC_and, wpC_or, wpC_not, wpC_if, kcmp_0, kcmp_1, kcmp_2, kcmp_3, kcmp_4, kcmp_5, rR_inj, kgO_some, kgO_add, kgO_sub, kgO_mul, kgO_div, kgO_rem, kgO_and, kvI_inl, kvJ_inl, kgI_0, kgI_s, kgR_0, kgR_s, kst_nil, kst_0, kst_s, kNLl_nil, kNLl_i, kNLl_r, kNLl_n, ktag_i, ktag_r, List.length_cons, List.length_nil, List.take_succ_cons, List.take_zero, List.take_nil, List.nil_append, List.cons_append, decide_eq_true_eq, Bool.not_eq_true, Bool.not_eq_true', decide_eq_false_iff_not, ne_eq, Decidable.not_not, true_and, and_true, Nat.reduceAdd, Nat.reduceLeDiff, Nat.reduceEqDiff, Nat.le_refl, not_true_eq_false, not_false_eq_true, reduceIte, eq_self, Int.reduceNeg, Int.reduceEq, Int.reduceLT, Int.reduceLE, Nat.zero_le, Nat.one_ne_zero, z1, e0', decide_true, decide_false, Bool.false_eq_true, if_true, if_false, true_and, and_true, not_true_eq_false, not_false_eq_true]
        rw [hQ105]
        refine kThen_R.mpr ⟨_, rfl, rfl, fun h => absurd ⟨g1, g2, by omega⟩ h, fun _ => ⟨k1, _, rfl, _, hz, Or.inl ⟨Or.inr e0, rfl⟩⟩⟩
      · have e0' : ¬ (k' : Int) = 0 := by omega
        refine wpS_seq' (fun Q106 hQ106 => ?_)
        simp only [wpS_skip, wpS_break, wpS_cont, wpS_retV, wpS_throw, wpS_seq, wpS_if, wpS_trunc, yS_let, yS_inc, kgK_i, kgK_r, kok_nil, kok_i0, kok_is, kok_r0, kok_rs, kok_n0, kok_ns, xS_put, xS_putOp, xS_ast0, xS_ast1, xS_astOp, wpS_E, wpS_call, wpS_callS, wpS_ret, kThen_N, kThen_B, kThen_C, kThen_R, kThen_T, kNext_N, kNext_C, kNext_B, kNext_R, wpE_K, wpE_KL, xE_I, xE_R, wpE_J, xE_bin, wpE_ladd, wpE_i2l, xE_get, xE_ald0, xE_ald1, wpE_if, xE_max, xE_min, wpE_len, wpA_nil, wpA_snoc, xE_call, xE_callS, xC_C, xC_L, xC_Z, wpC_and, wpC_or, wpC_not, wpC_if, kcmp_0, kcmp_1, kcmp_2, kcmp_3, kcmp_4, kcmp_5, rR_inj, kgO_some, kgO_add, kgO_sub, kgO_mul, kgO_div, kgO_rem, kgO_and, kvI_inl, kvJ_inl, kgI_0, kgI_s, kgR_0, kgR_s, kst_nil, kst_0, kst_s, kNLl_nil, kNLl_i, kNLl_r, kNLl_n, ktag_i, ktag_r, List.length_cons, List.length_nil, List.take_succ_cons, List.take_zero, List.take_nil, List.nil_append, List.cons_append, decide_eq_true_eq, Bool.not_eq_true, Bool.not_eq_true', decide_eq_false_iff_not, ne_eq, Decidable.not_not, true_and, and_true, Nat.reduceAdd, Nat.reduceLeDiff, Nat.reduceEqDiff, Nat.le_refl, not_true_eq_false, not_false_eq_true, reduceIte, eq_self, Int.reduceNeg, Int.reduceEq, Int.reduceLT, Int.reduceLE, Nat.zero_le, Nat.one_ne_zero, z1, e0', decide_true, decide_false, Bool.false_eq_true, if_true, if_false, true_and, and_true, not_true_eq_false, not_false_eq_true]
        repeat refine And.intro (by omega) ?_
        rw [hQ106]
        clear hQ106 Q106
        refine kThen_N.mpr ?_
        refine wpS_seq' (fun Q107 hQ107 => ?_)
        simp only [wpS_skip, wpS_break, wpS_cont, wpS_retV, wpS_throw, wpS_seq, wpS_if, wpS_trunc, yS_let, yS_inc, kgK_i, kgK_r, kok_nil, kok_i0, kok_is, kok_r0, kok_rs, kok_n0, kok_ns, xS_put, xS_putOp, xS_ast0, xS_ast1, xS_astOp, wpS_E, wpS_call, wpS_callS, wpS_ret, kThen_N, kThen_B, kThen_C, kThen_R, kThen_T, kNext_N, kNext_C, kNext_B, kNext_R, wpE_K, wpE_KL, xE_I, xE_R, wpE_J, xE_bin, wpE_ladd, wpE_i2l, xE_get, xE_ald0, xE_ald1, wpE_if, xE_max, xE_min, wpE_len, wpA_nil, wpA_snoc, xE_call, xE_callS, xC_C, xC_L, xC_Z, wpC_and, wpC_or, wpC_not, wpC_if, kcmp_0, kcmp_1, kcmp_2, kcmp_3, kcmp_4, kcmp_5, rR_inj, kgO_some, kgO_add, kgO_sub, kgO_mul, kgO_div, kgO_rem, kgO_and, kvI_inl, kvJ_inl, kgI_0, kgI_s, kgR_0, kgR_s, kst_nil, kst_0, kst_s, kNLl_nil, kNLl_i, kNLl_r, kNLl_n, ktag_i, ktag_r, List.length_cons, List.length_nil, List.take_succ_cons, List.take_zero, List.take_nil, List.nil_append, List.cons_append, decide_eq_true_eq, Bool.not_eq_true, Bool.not_eq_true', decide_eq_false_iff_not, ne_eq, Decidable.not_not, true_and, and_true, Nat.reduceAdd, Nat.reduceLeDiff, Nat.reduceEqDiff, Nat.le_refl, not_true_eq_false, not_false_eq_true, reduceIte, eq_self, Int.reduceNeg, Int.reduceEq, Int.reduceLT, Int.reduceLE, Nat.zero_le, Nat.one_ne_zero, ev_model, ev_model_arr, Int.toNat_natCast, w5]
        refine ⟨by omega, ?_⟩
        refine (walkSee_ok hG (M1.Mg hG) x3 (by rw [mE_tree M1, tA0])).mono ?_
        rintro r s2 ⟨rfl, k2, ⟨a1, -, -, a4⟩, hB⟩
        refine ⟨rfl, ?_⟩
        rw [hQ107]
        clear hQ107
        refine kThen_N.mpr ?_
        have M2 := M1.keep k2.sK
        have w6 := M2.2.2.2.2.2.1
        refine wpS_seq' (fun Q108 hQ108 => ?_)
        simp only [wpS_skip, wpS_break, wpS_cont, wpS_retV, wpS_throw, wpS_seq, wpS_if, wpS_trunc, yS_let, yS_inc, kgK_i, kgK_r, kok_nil, kok_i0, kok_is, kok_r0, kok_rs, kok_n0, kok_ns, xS_put, xS_putOp, xS_ast0, xS_ast1, xS_astOp, wpS_E, wpS_call, wpS_callS, wpS_ret, kThen_N, kThen_B, kThen_C, kThen_R, kThen_T, kNext_N, kNext_C, kNext_B, kNext_R, wpE_K, wpE_KL, xE_I, xE_R, wpE_J, xE_bin, wpE_ladd, wpE_i2l, xE_get, xE_ald0, xE_ald1, wpE_if, xE_max, xE_min, wpE_len, wpA_nil, wpA_snoc, xE_call, xE_callS, xC_C, xC_L, xC_Z, wpC_and, wpC_or, wpC_not, wpC_if, kcmp_0, kcmp_1, kcmp_2, kcmp_3, kcmp_4, kcmp_5, rR_inj, kgO_some, kgO_add, kgO_sub, kgO_mul, kgO_div, kgO_rem, kgO_and, kvI_inl, kvJ_inl, kgI_0, kgI_s, kgR_0, kgR_s, kst_nil, kst_0, kst_s, kNLl_nil, kNLl_i, kNLl_r, kNLl_n, ktag_i, ktag_r, List.length_cons, List.length_nil, List.take_succ_cons, List.take_zero, List.take_nil, List.nil_append, List.cons_append, decide_eq_true_eq, Bool.not_eq_true, Bool.not_eq_true', decide_eq_false_iff_not, ne_eq, Decidable.not_not, true_and, and_true, Nat.reduceAdd, Nat.reduceLeDiff, Nat.reduceEqDiff, Nat.le_refl, not_true_eq_false, not_false_eq_true, reduceIte, eq_self, Int.reduceNeg, Int.reduceEq, Int.reduceLT, Int.reduceLE, Nat.zero_le, Nat.one_ne_zero, ev_model, ev_model_arr, Int.toNat_natCast, w6]
        repeat refine And.intro (by omega) ?_
        rw [hQ108]
        clear hQ108 Q108
        refine kThen_N.mpr ?_
        obtain ⟨m, i, j, hm⟩ := hF.1.meet x4 x3 (hH x hx)
        have eS : (fun x => th c li x ∧ mcnt s1 0 0 (-1) x) = (fun x => th c li x ∧ tr x ≠ 0) := by
          funext y
          have q1 := M1.2.2.2.2.2.2.1 y
          have q2 := M1.2.2.2.2.2.2.2.1 y
          refine propext (and_congr Iff.rfl ⟨?_, fun h => ⟨by omega, Or.inl ⟨rfl, by rw [q2]; exact h, by omega⟩⟩⟩)
          rintro ⟨-, h | h⟩
          · rw [← q2]; exact h.2.1
          · exact absurd rfl h.1
        rw [eS] at hB
        refine wpS_seq' (fun Q9 hQ9 => ?_)
        refine mdOddLoop_ok (v := v') (by omega) (by omega) hG M2 hF hx hm (hH x hx) hB (fun hle => ?_) (fun hlt => ?_)
        · rw [hQ9]
          refine kThen_R.mpr ⟨_, rfl, rfl, fun h => absurd ⟨g1, g2, by omega⟩ h, fun _ => ⟨k1.trans k2.sK, _, rfl, _, hz, Or.inr ⟨by omega, x, m, i, j, rfl, hx, hm, rfl⟩⟩⟩
        · rw [hQ9]
          refine kThen_N.mpr ?_
          refine wpS_gen (fun Q8 hQ8 => ?_)
          simp only [wpS_skip, wpS_break, wpS_cont, wpS_retV, wpS_throw, wpS_seq, wpS_if, wpS_trunc, yS_let, yS_inc, kgK_i, kgK_r, kok_nil, kok_i0, kok_is, kok_r0, kok_rs, kok_n0, kok_ns, xS_put, xS_putOp, xS_ast0, xS_ast1, xS_astOp, wpS_E, wpS_call, wpS_callS, wpS_ret, kThen_N, kThen_B, kThen_C, kThen_R, kThen_T, kNext_N, kNext_C, kNext_B, kNext_R, wpE_K, wpE_KL, xE_I, xE_R, wpE_J, xE_bin, wpE_ladd, wpE_i2l, xE_get, xE_ald0, xE_ald1, wpE_if, xE_max, xE_min, wpE_len, wpA_nil, wpA_snoc, xE_call, xE_callS, xC_C, xC_L, xC_Z, wpC_and, wpC_or, wpC_not, wpC_if, kcmp_0, kcmp_1, kcmp_2, kcmp_3, kcmp_4, kcmp_5, rR_inj, kgO_some, kgO_add, kgO_sub, kgO_mul, kgO_div, kgO_rem, kgO_and, kvI_inl, kvJ_inl, kgI_0, kgI_s, kgR_0, kgR_s, kst_nil, kst_0, kst_s, kNLl_nil, kNLl_i, kNLl_r, kNLl_n, ktag_i, ktag_r, List.length_cons, List.length_nil, List.take_succ_cons, List.take_zero, List.take_nil, List.nil_append, List.cons_append, decide_eq_true_eq, Bool.not_eq_true, Bool.not_eq_true', decide_eq_false_iff_not, ne_eq, Decidable.not_not, true_and, and_true, Nat.reduceAdd, Nat.reduceLeDiff, Nat.reduceEqDiff, Nat.le_refl, not_true_eq_false, not_false_eq_true, reduceIte, eq_self, Int.reduceNeg, Int.reduceEq, Int.reduceLT, Int.reduceLE, Nat.zero_le, Nat.one_ne_zero]
          rw [hQ8]
          refine ⟨_, rfl, rfl, fun h => absurd ⟨g1, g2, by omega⟩ h, fun _ => ⟨k1.trans k2.sK, _, rfl, _, hz, Or.inr ⟨by omega, x, m, i, j, rfl, hx, hm, ?_⟩⟩⟩
          unfold ringV
          rw [if_neg (by omega), if_neg (by omega)]
  · rcases hr with ⟨z1, z2, rfl⟩ | ⟨z, rfl⟩
    · have g3 : k < 0 := by omega
      rw [kgO_some]
      simp only [wpS_skip, wpS_break, wpS_cont, wpS_retV, wpS_throw, wpS_seq, wpS_if, wpS_trunc, yS_let, yS_inc, kgK_i, kgK_r, kok_nil, kok_i0, kok_is, kok_r0, kok_rs, kok_n0, kok_ns, xS_put, xS_putOp, xS_ast0, xS_ast1, xS_astOp, wpS_E, wpS_call, wpS_callS, wpS_ret, kThen_N, kThen_B, kThen_C, kThen_R, kThen_T, kNext_N, kNext_C, kNext_B, kNext_R, wpE_K, wpE_KL, xE_I, xE_R, wpE_J, xE_bin, wpE_ladd, wpE_i2l, xE_get, xE_ald0, xE_ald1, wpE_if, xE_max, xE_min, wpE_len, wpA_nil, wpA_snoc, xE_call, xE_callS, xC_C, xC_L, xC_Z, wpC_and, wpC_or, wpC_not, wpC_if, kcmp_0, kcmp_1, kcmp_2, kcmp_3, kcmp_4, kcmp_5, rR_inj, kgO_some, kgO_add, kgO_sub, kgO_mul, kgO_div, kgO_rem, kgO_and, kvI_inl, kvJ_inl, kgI_0, kgI_s, kgR_0, kgR_s, kst_nil, kst_0, kst_s, kNLl_nil, kNLl_i, kNLl_r, kNLl_n, ktag_i, ktag_r, List.length_cons, List.length_nil, List.take_succ_cons, List.take_zero, List.take_nil, List.nil_append, List.cons_append, decide_eq_true_eq, Bool.not_eq_true, Bool.not_eq_true', decide_eq_false_iff_not, ne_eq, Decidable.not_not, true_and, and_true, Nat.reduceAdd, Nat.reduceLeDiff, Nat.reduceEqDiff, Nat.le_refl, not_true_eq_false, not_false_eq_true, reduceIte, eq_self, Int.reduceNeg, Int.reduceEq, Int.reduceLT, Int.reduceLE, Nat.zero_le, Nat.one_ne_zero, g3, decide_true, decide_false, Bool.false_eq_true, if_true, if_false, true_and, and_true, not_true_eq_false, not_false_eq_true]
      refine bad _ _ ?_
      rw [hQ102]
      exact kThen_R.mpr ⟨_, rfl, rfl, fun _ => ⟨sK.refl _, rfl⟩, fun h => absurd h g⟩
    · rw [kgO_some]
      simp only [wpS_skip, wpS_break, wpS_cont, wpS_retV, wpS_throw, wpS_seq, wpS_if, wpS_trunc, yS_let, yS_inc, kgK_i, kgK_r, kok_nil, kok_i0, kok_is, kok_r0, kok_rs, kok_n0, kok_ns, xS_put, xS_putOp, xS_ast0, xS_ast1, xS_astOp, wpS_E, wpS_call, wpS_callS, wpS_ret, kThen_N, kThen_B, kThen_C, kThen_R, kThen_T, kNext_N, kNext_C, kNext_B, kNext_R, wpE_K, wpE_KL, xE_I, xE_R, wpE_J, xE_bin, wpE_ladd, wpE_i2l, xE_get, xE_ald0, xE_ald1, wpE_if, xE_max, xE_min, wpE_len, wpA_nil, wpA_snoc, xE_call, xE_callS, xC_C, xC_L, xC_Z, wpC_and, wpC_or, wpC_not, wpC_if, kcmp_0, kcmp_1, kcmp_2, kcmp_3, kcmp_4, kcmp_5, rR_inj, kgO_some, kgO_add, kgO_sub, kgO_mul, kgO_div, kgO_rem, kgO_and, kvI_inl, kvJ_inl, kgI_0, kgI_s, kgR_0, kgR_s, kst_nil, kst_0, kst_s, kNLl_nil, kNLl_i, kNLl_r, kNLl_n, ktag_i, ktag_r, List.length_cons, List.length_nil, List.take_succ_cons, List.take_zero, List.take_nil, List.nil_append, List.cons_append, decide_eq_true_eq, Bool.not_eq_true, Bool.not_eq_true', decide_eq_false_iff_not, ne_eq, Decidable.not_not, true_and, and_true, Nat.reduceAdd, Nat.reduceLeDiff, Nat.reduceEqDiff, Nat.le_refl, not_true_eq_false, not_false_eq_true, reduceIte, eq_self, Int.reduceNeg, Int.reduceEq, Int.reduceLT, Int.reduceLE, Nat.zero_le, Nat.one_ne_zero, decide_true, decide_false, Bool.false_eq_true, if_true, if_false, true_and, and_true, not_true_eq_false, not_false_eq_true]
      refine bad _ _ ?_
      rw [hQ102]
      exact kThen_R.mpr ⟨_, rfl, rfl, fun _ => ⟨sK.refl _, rfl⟩, fun h => absurd h g⟩
end MO2
