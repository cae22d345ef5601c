/-! THE REFERENCE'S WALK 2: breadth first over the chains -/
def bfA (σ : kS) (n : Nat) (al : Nat → List Nat) (tg : Nat → Nat) : Prop := ∀ v, v < n → ∀ e, e ∈ al v → e < 10000 ∧ tg e < n ∧ (e % 2 = 0 → σ 72 (e / 2) = tg e) ∧ (e % 2 = 1 → σ 71 (e / 2) = tg e)
theorem bfK_kup {σ s : kS} {o k : Nat} {x : Int} (h : bfK σ s) (ho : (o = 85 ∨ o = 86 ∨ o = 87 ∨ o = 88) ∨ (o = 14 ∧ k = 27)) : bfK σ (kup s o k x) := by
  refine ⟨fun a h1 h2 h3 h4 h5 => ?_, fun a ha => ?_⟩
  · rw [kup_ne (by omega)]; exact h.1 a h1 h2 h3 h4 h5
  · by_cases e : o = 14
    · subst e
      rw [kup_eq, if_neg (by omega)]; exact h.2 a ha
    · rw [kup_ne (fun q => e q.symm)]; exact h.2 a ha
theorem chn_agree {σ s : kS} (h : s 90 = σ 90) : ∀ {l : List Nat} {e : Int}, chn σ e l → chn s e l := by
  intro l
  induction l with
  | nil => intro e q; exact q
  | cons a t ih => intro e q; obtain ⟨q1, q2, q3⟩ := q; exact ⟨q1, q2, by rw [h]; exact ih q3⟩
theorem bfS_add {s : kS} {n fr t e v d : Nat} {q dp by' : Nat → Nat} (B : bfS s n fr t q dp by') (hfr : fr < n) (hfq : q 0 = fr) (ht0 : 0 < t) (hv : v < n) (hqn : ∀ i, i < t → q i < n) (hn : ∀ i, i < t → q i ≠ v) :
    bfS (kup (kup (kup (kup (kup s 85 v 1) 87 v (e : Int)) 88 v (d : Int)) 86 t (v : Int)) 14 27 ((t : Int) + 1)) n fr (t + 1) (fun i => if i = t then v else q i) (fun x => if x = v then d else dp x) (fun x => if x = v then e else by' x) := by
  obtain ⟨b1, b2, b3, b4, b5⟩ := B
  have hfv : fr ≠ v := by rw [← hfq]; exact hn 0 ht0
  refine ⟨by simp [kup_eq], fun i hi => ⟨?_, ?_⟩, fun w hw => ⟨?_, ?_⟩, ?_, fun i h0 hi => ?_⟩
  · rw [kup_ne (by decide), kup_eq]
    by_cases c : i = t
    · simp [c]
    · simp only [if_neg c]; rw [kup_ne (by decide), kup_ne (by decide), kup_ne (by decide)]; exact (b2 i (by omega)).1
  · rw [kup_ne (by decide), kup_ne (by decide), kup_eq]
    by_cases c : i = t
    · simp [c]
    · have := hn i (by omega)
      simp only [if_neg c, if_neg this]; rw [kup_ne (by decide), kup_ne (by decide)]; exact (b2 i (by omega)).2
  · rw [kup_ne (by decide), kup_ne (by decide), kup_ne (by decide), kup_ne (by decide), kup_eq]
    by_cases c : w = v
    · simp [c]
    · rw [if_neg c]; exact (b3 w hw).1
  · rw [kup_ne (by decide), kup_ne (by decide), kup_ne (by decide), kup_ne (by decide), kup_eq]
    by_cases c : w = v
    · simp only [if_pos c, true_iff]
      exact ⟨t, by omega, by simp [c]⟩
    · rw [if_neg c, (b3 w hw).2]
      constructor
      · rintro ⟨i, hi, hq⟩; exact ⟨i, by omega, by simp [show ¬ i = t by omega, hq]⟩
      · rintro ⟨i, hi, hq⟩
        by_cases ci : i = t
        · simp [ci] at hq; exact absurd hq.symm c
        · simp [ci] at hq; exact ⟨i, by omega, hq⟩
  · rw [kup_ne (by decide), kup_ne (by decide), kup_ne (by decide), kup_eq, if_neg hfv, kup_ne (by decide)]; exact b4
  · rw [kup_ne (by decide), kup_ne (by decide), kup_ne (by decide), kup_eq]
    by_cases c : i = t
    · simp [c]
    · have := hn i (by omega)
      simp only [if_neg c, if_neg this]; rw [kup_ne (by decide)]; exact b5 i h0 (by omega)
theorem wk3_ok {σ s0 : kS} {n fr h v : Nat} {al : Nat → List Nat} {tg : Nat → Nat} {frv so le wi e0 : Int} (hA : bfA σ n al tg) (hn3 : n ≤ 300) (hv : v < n) (hfr : fr < n) (hh : h < 300)
    (hc : chn σ e0 (al v)) (hK : bfK σ s0) (hB : ∃ t q dp by', h < t ∧ q h = v ∧ bf n al tg fr h t q dp by' ∧ bfS s0 n fr t q dp by') :
    wpS l_Md_walk_3 [some (.inr (.inl 14)), some (.inl frv), some (.inl so), some (.inl le), some (.inl wi), some (.inl (h : Int)), some (.inl (v : Int)), some (.inl e0)] s0
      (fun r L s => r = rN ∧ L.take 6 = [some (.inr (.inl 14)), some (.inl frv), some (.inl so), some (.inl le), some (.inl wi), some (.inl (h : Int))] ∧ bfK σ s ∧
        ∃ t q dp by', h < t ∧ q h = v ∧ bf n al tg fr h t q dp by' ∧ bfS s n fr t q dp by' ∧ ∀ e, e ∈ al v → ∃ j, j < t ∧ q j = tg e) := by
  unfold l_Md_walk_3
  refine wpS_for (fun m L s => ∃ (don rem : List Nat) (e : Int), al v = don ++ rem ∧ m = rem.length ∧ chn σ e rem ∧ L = [some (.inr (.inl 14)), some (.inl frv), some (.inl so), some (.inl le), some (.inl wi), some (.inl (h : Int)), some (.inl (v : Int)), some (.inl e)] ∧ bfK σ s ∧
        ∃ t q dp by', h < t ∧ q h = v ∧ bf n al tg fr h t q dp by' ∧ bfS s n fr t q dp by' ∧ ∀ e, e ∈ don → ∃ j, j < t ∧ q j = tg e) ?_ (al v).length _ _ ⟨[], al v, e0, rfl, rfl, hc, rfl, hK, by
      obtain ⟨t, q, dp, by', g1, g2, g3, g4⟩ := hB
      exact ⟨t, q, dp, by', g1, g2, g3, g4, fun e he => by cases he⟩⟩
  rintro m L s ⟨don, rem, e, hal, hm, hce, rfl, hK, t, q, dp, by', g1, g2, g3, g4, g5⟩
  refine wpC_gen (fun Q1 hQ1 => ?_)
  simp only [wpS_skip, wpS_break, wpS_cont, wpS_retV, wpS_throw, wpS_seq, wpS_if, wpS_trunc, yS_let, yS_inc, kgK_i, kgK_r, kok_nil, kok_i0, kok_is, kok_r0, kok_rs, kok_n0, kok_ns, xS_put, xS_putOp, xS_ast0, xS_ast1, xS_astOp, wpS_E, wpS_call, wpS_callS, wpS_ret, kThen_N, kThen_B, kThen_C, kThen_R, kThen_T, kNext_N, kNext_C, kNext_B, kNext_R, wpE_K, wpE_KL, xE_I, xE_R, wpE_J, xE_bin, wpE_ladd, wpE_i2l, xE_get, xE_ald0, xE_ald1, wpE_if, xE_max, xE_min, wpE_len, wpA_nil, wpA_snoc, xE_call, xE_callS, xC_C, xC_L, xC_Z, wpC_and, wpC_or, wpC_not, wpC_if, kcmp_0, kcmp_1, kcmp_2, kcmp_3, kcmp_4, kcmp_5, rR_inj, kgO_some, kgO_add, kgO_sub, kgO_mul, kgO_div, kgO_rem, kgO_and, kvI_inl, kvJ_inl, kgI_0, kgI_s, kgR_0, kgR_s, kst_nil, kst_0, kst_s, kNLl_nil, kNLl_i, kNLl_r, kNLl_n, ktag_i, ktag_r, List.length_cons, List.length_nil, List.take_succ_cons, List.take_zero, List.take_nil, List.nil_append, List.cons_append, decide_eq_true_eq, Bool.not_eq_true, Bool.not_eq_true', decide_eq_false_iff_not, ne_eq, Decidable.not_not, true_and, and_true, Nat.reduceAdd, Nat.reduceLeDiff, Nat.reduceEqDiff, Nat.le_refl, not_true_eq_false, not_false_eq_true, reduceIte, eq_self, Int.reduceNeg, Int.reduceEq, Int.reduceLT, Int.reduceLE, Nat.zero_le, Nat.one_ne_zero]
  rw [hQ1]
  cases rem with
  | nil =>
    have he : e = -1 := hce
    simp only [he, not_true_eq_false, decide_false, Bool.false_eq_true, if_false]
    refine ⟨trivial, rfl, hK, t, q, dp, by', g1, g2, g3, g4, fun e he => g5 e (by rw [hal, List.append_nil] at he; exact he)⟩
  | cons a rem =>
    obtain ⟨rfl, ha, hcr⟩ := hce
    have hne : ¬ (a : Int) = -1 := by omega
    simp only [hne, not_false_eq_true, decide_true, if_true]
    have hmem : a ∈ al v := by rw [hal]; simp
    obtain ⟨a1, a2, a3, a4⟩ := hA v hv a hmem
    have s71 : s 71 = σ 71 := hK.1 71 (by decide) (by decide) (by decide) (by decide) (by decide)
    have s72 : s 72 = σ 72 := hK.1 72 (by decide) (by decide) (by decide) (by decide) (by decide)
    have s90 : s 90 = σ 90 := hK.1 90 (by decide) (by decide) (by decide) (by decide) (by decide)
    rw [wpS_trunc]
    refine wpS_seq' (fun Q2 hQ2 => ?_)
    have hlet : Q2 rN [some (.inr (.inl 14)), some (.inl frv), some (.inl so), some (.inl le), some (.inl wi), some (.inl (h : Int)), some (.inl (v : Int)), some (.inl (a : Int)), some (.inl (tg a : Int))] s := by
      rw [hQ2]
      refine kThen_N.mpr ?_
      refine wpS_gen (fun Q3 hQ3 => ?_)
      have fin : ∀ s' : kS, bfK σ s' → (∃ t q dp by', h < t ∧ q h = v ∧ bf n al tg fr h t q dp by' ∧ bfS s' n fr t q dp by' ∧ ∀ e, e ∈ don ++ [a] → ∃ j, j < t ∧ q j = tg e) →
          Q3 rN [some (.inr (.inl 14)), some (.inl frv), some (.inl so), some (.inl le), some (.inl wi), some (.inl (h : Int)), some (.inl (v : Int)), some (.inl (a : Int)), some (.inl (tg a : Int))] s' := by
        intro s' hK' hX
        have s90' : s' 90 = σ 90 := hK'.1 90 (by decide) (by decide) (by decide) (by decide) (by decide)
        rw [hQ3]
        refine kNext_N.mpr ?_
        refine wpS_gen (fun Q4 hQ4 => ?_)
        simp only [wpS_skip, wpS_break, wpS_cont, wpS_retV, wpS_throw, wpS_seq, wpS_if, wpS_trunc, yS_let, yS_inc, kgK_i, kgK_r, kok_nil, kok_i0, kok_is, kok_r0, kok_rs, kok_n0, kok_ns, xS_put, xS_putOp, xS_ast0, xS_ast1, xS_astOp, wpS_E, wpS_call, wpS_callS, wpS_ret, kThen_N, kThen_B, kThen_C, kThen_R, kThen_T, kNext_N, kNext_C, kNext_B, kNext_R, wpE_K, wpE_KL, xE_I, xE_R, wpE_J, xE_bin, wpE_ladd, wpE_i2l, xE_get, xE_ald0, xE_ald1, wpE_if, xE_max, xE_min, wpE_len, wpA_nil, wpA_snoc, xE_call, xE_callS, xC_C, xC_L, xC_Z, wpC_and, wpC_or, wpC_not, wpC_if, kcmp_0, kcmp_1, kcmp_2, kcmp_3, kcmp_4, kcmp_5, rR_inj, kgO_some, kgO_add, kgO_sub, kgO_mul, kgO_div, kgO_rem, kgO_and, kvI_inl, kvJ_inl, kgI_0, kgI_s, kgR_0, kgR_s, kst_nil, kst_0, kst_s, kNLl_nil, kNLl_i, kNLl_r, kNLl_n, ktag_i, ktag_r, List.length_cons, List.length_nil, List.take_succ_cons, List.take_zero, List.take_nil, List.nil_append, List.cons_append, decide_eq_true_eq, Bool.not_eq_true, Bool.not_eq_true', decide_eq_false_iff_not, ne_eq, Decidable.not_not, true_and, and_true, Nat.reduceAdd, Nat.reduceLeDiff, Nat.reduceEqDiff, Nat.le_refl, not_true_eq_false, not_false_eq_true, reduceIte, eq_self, Int.reduceNeg, Int.reduceEq, Int.reduceLT, Int.reduceLE, Nat.zero_le, Nat.one_ne_zero, ev_model, ev_model_arr, Int.toNat_natCast]
        refine ⟨by omega, ?_⟩
        rw [hQ4]
        exact ⟨rfl, rem.length, by rw [hm]; simp, don ++ [a], rem, s' 90 a, by rw [hal]; simp, rfl, by rw [s90']; exact hcr, rfl, hK', hX⟩
      have hun : (tg a : Int) < 300 := by omega
      obtain ⟨f1, f2, f3, f4, f5⟩ := g4
      obtain ⟨b1, b2, b3, b4, b5, b6, b7, b8, b9, b10, b11, b12⟩ := id g3
      by_cases hs : ∃ i, i < t ∧ q i = tg a
      · have h85 : s 85 (tg a) = 1 := (f3 (tg a) a2).2.mpr hs
        simp only [wpS_skip, wpS_break, wpS_cont, wpS_retV, wpS_throw, wpS_seq, wpS_if, wpS_trunc, yS_let, yS_inc, kgK_i, kgK_r, kok_nil, kok_i0, kok_is, kok_r0, kok_rs, kok_n0, kok_ns, xS_put, xS_putOp, xS_ast0, xS_ast1, xS_astOp, wpS_E, wpS_call, wpS_callS, wpS_ret, kThen_N, kThen_B, kThen_C, kThen_R, kThen_T, kNext_N, kNext_C, kNext_B, kNext_R, wpE_K, wpE_KL, xE_I, xE_R, wpE_J, xE_bin, wpE_ladd, wpE_i2l, xE_get, xE_ald0, xE_ald1, wpE_if, xE_max, xE_min, wpE_len, wpA_nil, wpA_snoc, xE_call, xE_callS, xC_C, xC_L, xC_Z, wpC_and, wpC_or, wpC_not, wpC_if, kcmp_0, kcmp_1, kcmp_2, kcmp_3, kcmp_4, kcmp_5, rR_inj, kgO_some, kgO_add, kgO_sub, kgO_mul, kgO_div, kgO_rem, kgO_and, kvI_inl, kvJ_inl, kgI_0, kgI_s, kgR_0, kgR_s, kst_nil, kst_0, kst_s, kNLl_nil, kNLl_i, kNLl_r, kNLl_n, ktag_i, ktag_r, List.length_cons, List.length_nil, List.take_succ_cons, List.take_zero, List.take_nil, List.nil_append, List.cons_append, decide_eq_true_eq, Bool.not_eq_true, Bool.not_eq_true', decide_eq_false_iff_not, ne_eq, Decidable.not_not, true_and, and_true, Nat.reduceAdd, Nat.reduceLeDiff, Nat.reduceEqDiff, Nat.le_refl, not_true_eq_false, not_false_eq_true, reduceIte, eq_self, Int.reduceNeg, Int.reduceEq, Int.reduceLT, Int.reduceLE, Nat.zero_le, Nat.one_ne_zero, ev_model, ev_model_arr, Int.toNat_natCast, h85]
        refine ⟨by omega, ?_⟩
        refine fin s hK ⟨t, q, dp, by', g1, g2, g3, ⟨f1, f2, f3, f4, f5⟩, fun e he => ?_⟩
        rcases List.mem_append.mp he with q1 | q1
        · exact g5 e q1
        · rw [List.mem_singleton.mp q1]; exact hs
      · have h85 : s 85 (tg a) = 0 := by
          rcases (f3 (tg a) a2).1 with q1 | q1
          · exact q1
          · exact absurd ((f3 (tg a) a2).2.mp q1) hs
        have hnq : ∀ i, i < t → q i ≠ tg a := fun i hi hq => hs ⟨i, hi, hq⟩
        have htn := bf_lt g3 a2 hnq
        have h88 : s 88 v = (dp (q h) : Int) := by rw [← g2]; exact (f2 h g1).2
        have hdb : dp (q h) ≤ h := b12 h g1
        have hst := bfS_add (e := a) (d := dp (q h) + 1) ⟨f1, f2, f3, f4, f5⟩ hfr b3 b1 a2 b5 hnq
        have hbf := bf_add g3 g1 (by rw [g2]; exact hmem) rfl a2 hnq
        have hend := fin _ (bfK_kup (bfK_kup (bfK_kup (bfK_kup (bfK_kup hK (Or.inl (Or.inl rfl))) (Or.inl (by omega))) (Or.inl (by omega))) (Or.inl (by omega))) (Or.inr ⟨rfl, rfl⟩)) ⟨t + 1, _, _, _, by omega, by simp [show ¬ h = t by omega, g2], hbf, hst, fun e he => by
          rcases List.mem_append.mp he with q1 | q1
          · obtain ⟨j, j1, j2⟩ := g5 e q1
            exact ⟨j, by omega, by simp [show ¬ j = t by omega, j2]⟩
          · rw [List.mem_singleton.mp q1]; exact ⟨t, by omega, by simp⟩⟩
        simp only [wpS_skip, wpS_break, wpS_cont, wpS_retV, wpS_throw, wpS_seq, wpS_if, wpS_trunc, yS_let, yS_inc, kgK_i, kgK_r, kok_nil, kok_i0, kok_is, kok_r0, kok_rs, kok_n0, kok_ns, xS_put, xS_putOp, xS_ast0, xS_ast1, xS_astOp, wpS_E, wpS_call, wpS_callS, wpS_ret, kThen_N, kThen_B, kThen_C, kThen_R, kThen_T, kNext_N, kNext_C, kNext_B, kNext_R, wpE_K, wpE_KL, xE_I, xE_R, wpE_J, xE_bin, wpE_ladd, wpE_i2l, xE_get, xE_ald0, xE_ald1, wpE_if, xE_max, xE_min, wpE_len, wpA_nil, wpA_snoc, xE_call, xE_callS, xC_C, xC_L, xC_Z, wpC_and, wpC_or, wpC_not, wpC_if, kcmp_0, kcmp_1, kcmp_2, kcmp_3, kcmp_4, kcmp_5, rR_inj, kgO_some, kgO_add, kgO_sub, kgO_mul, kgO_div, kgO_rem, kgO_and, kvI_inl, kvJ_inl, kgI_0, kgI_s, kgR_0, kgR_s, kst_nil, kst_0, kst_s, kNLl_nil, kNLl_i, kNLl_r, kNLl_n, ktag_i, ktag_r, List.length_cons, List.length_nil, List.take_succ_cons, List.take_zero, List.take_nil, List.nil_append, List.cons_append, decide_eq_true_eq, Bool.not_eq_true, Bool.not_eq_true', decide_eq_false_iff_not, ne_eq, Decidable.not_not, true_and, and_true, Nat.reduceAdd, Nat.reduceLeDiff, Nat.reduceEqDiff, Nat.le_refl, not_true_eq_false, not_false_eq_true, reduceIte, eq_self, Int.reduceNeg, Int.reduceEq, Int.reduceLT, Int.reduceLE, Nat.zero_le, Nat.one_ne_zero, ev_model, ev_model_arr, Int.toNat_natCast, h85]
        refine ⟨by omega, ?_⟩
        have e88 : kup (kup s 85 (tg a) 1) 87 (tg a) (a : Int) 88 v + 1 = ((dp (q h) + 1 : Nat) : Int) := by
          rw [kup_ne (by decide), kup_ne (by decide), h88]; omega
        have e14 : kup (kup (kup s 85 (tg a) 1) 87 (tg a) (a : Int)) 88 (tg a) ((dp (q h) + 1 : Nat) : Int) 14 27 = (t : Int) := by
          rw [kup_ne (by decide), kup_ne (by decide), kup_ne (by decide)]; exact f1
        have e14b : kup (kup (kup (kup s 85 (tg a) 1) 87 (tg a) (a : Int)) 88 (tg a) ((dp (q h) + 1 : Nat) : Int)) 86 t (tg a : Int) 14 27 = (t : Int) := by
          rw [kup_ne (by decide)]; exact e14
        simp only [e88, e14, Int.toNat_natCast, e14b]
        repeat refine And.intro (by first | omega | exact Or.inr trivial) ?_
        exact hend
    have d1 : ((a : Int) / 2).toNat = a / 2 := by omega
    simp only [wpS_skip, wpS_break, wpS_cont, wpS_retV, wpS_throw, wpS_seq, wpS_if, wpS_trunc, yS_let, yS_inc, kgK_i, kgK_r, kok_nil, kok_i0, kok_is, kok_r0, kok_rs, kok_n0, kok_ns, xS_put, xS_putOp, xS_ast0, xS_ast1, xS_astOp, wpS_E, wpS_call, wpS_callS, wpS_ret, kThen_N, kThen_B, kThen_C, kThen_R, kThen_T, kNext_N, kNext_C, kNext_B, kNext_R, wpE_K, wpE_KL, xE_I, xE_R, wpE_J, xE_bin, wpE_ladd, wpE_i2l, xE_get, xE_ald0, xE_ald1, wpE_if, xE_max, xE_min, wpE_len, wpA_nil, wpA_snoc, xE_call, xE_callS, xC_C, xC_L, xC_Z, wpC_and, wpC_or, wpC_not, wpC_if, kcmp_0, kcmp_1, kcmp_2, kcmp_3, kcmp_4, kcmp_5, rR_inj, kgO_some, kgO_add, kgO_sub, kgO_mul, kgO_div, kgO_rem, kgO_and, kvI_inl, kvJ_inl, kgI_0, kgI_s, kgR_0, kgR_s, kst_nil, kst_0, kst_s, kNLl_nil, kNLl_i, kNLl_r, kNLl_n, ktag_i, ktag_r, List.length_cons, List.length_nil, List.take_succ_cons, List.take_zero, List.take_nil, List.nil_append, List.cons_append, decide_eq_true_eq, Bool.not_eq_true, Bool.not_eq_true', decide_eq_false_iff_not, ne_eq, Decidable.not_not, true_and, and_true, Nat.reduceAdd, Nat.reduceLeDiff, Nat.reduceEqDiff, Nat.le_refl, not_true_eq_false, not_false_eq_true, reduceIte, eq_self, Int.reduceNeg, Int.reduceEq, Int.reduceLT, Int.reduceLE, Nat.zero_le, Nat.one_ne_zero, ev_model, ev_model_arr]
    refine ⟨by omega, ?_⟩
    by_cases hp : a % 2 = 0
    · have hp2 : (a : Int) % 2 = 0 := by omega
      simp only [hp2, decide_true, if_true]
      refine ⟨by omega, by omega, ?_⟩
      rw [d1, s72, a3 hp]
      exact hlet
    · have hp2 : ¬ (a : Int) % 2 = 0 := by omega
      simp only [hp2, decide_false, if_false, Bool.false_eq_true]
      refine ⟨by omega, by omega, ?_⟩
      rw [d1, s71, a4 (by omega)]
      exact hlet
