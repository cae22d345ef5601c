/-! THE CLASS'S ROW: setRight -/
noncomputable def ivO (n : Nat) (od : Nat → Nat) (v : Nat) : Nat := @dite _ (∃ p, p < n ∧ od p = v) (Classical.propDecidable _) (fun h => Classical.choose h) (fun _ => 0)
theorem ivO_eq {n : Nat} {od pl : Nat → Nat} (h : prm n od pl) {v : Nat} (hv : v < n) : ivO n od v = pl v := by
  have hx : ∃ p, p < n ∧ od p = v := ⟨pl v, h.2 v hv⟩
  unfold ivO
  rw [dif_pos hx]
  have := Classical.choose_spec hx
  rw [← (h.1 _ this.1).2, this.2]
theorem ivO_prm {n : Nat} {od pl : Nat → Nat} (h : prm n od pl) : prm n od (ivO n od) := by
  refine ⟨fun p hp => ⟨(h.1 p hp).1, ?_⟩, fun v hv => ?_⟩
  · rw [ivO_eq h (h.1 p hp).1]; exact (h.1 p hp).2
  · rw [ivO_eq h hv]; exact h.2 v hv
def oP1 (n : Nat) (O : Nat → Prop) (fs sn od : Nat → Nat) (a b p : Nat) : Prop := p < n ∧ rch (dE O fs sn) (od p) a ∧ ivO n od b ≤ p ∧ p ≤ ivO n od a
def oP2 (n : Nat) (O : Nat → Prop) (fs sn od : Nat → Nat) (a b p : Nat) : Prop := p < n ∧ rch (dE O fs sn) b (od p) ∧ ivO n od b ≤ p ∧ p ≤ ivO n od a
/-- the order, as an arc from a to b comes -/
noncomputable def reOd (n : Nat) (O : Nat → Prop) (fs sn od : Nat → Nat) (a b : Nat) : Nat → Nat := @ite _ (ivO n od a < ivO n od b) (Classical.propDecidable _) od (newOd (oP1 n O fs sn od a b) (oP2 n O fs sn od a b) n od)
/-- the order's arrays: nodes and places -/
def Rw (s : kS) (n : Nat) (od : Nat → Nat) : Prop := (∀ p, p < n → s 34 p = (od p : Int)) ∧ (∀ v, v < n → s 35 v = (ivO n od v : Int)) ∧ prm n od (ivO n od)
theorem cntP_const {P : Nat → Prop} {a n : Nat} (h : a ≤ n) (hn : ∀ p, a ≤ p → p < n → ¬ P p) : cntP P n = cntP P a := by
  induction n with
  | zero => have : a = 0 := by omega
            subst this; rfl
  | succ n ih =>
    by_cases e : a = n + 1
    · subst e; rfl
    · rw [cntP_succ_neg (hn n (by omega) (by omega)), ih (by omega) (fun p h1 h2 => hn p h1 (by omega))]
theorem oP_dis {n : Nat} {O : Nat → Prop} {fs sn od : Nat → Nat} {a b : Nat} (hno : ¬ rch (dE O fs sn) b a) : ∀ p, ¬ (oP1 n O fs sn od a b p ∧ oP2 n O fs sn od a b p) := fun _ q => hno (q.2.2.1.trans q.1.2.1)
theorem reOd_ok {n a b : Nat} {O : Nat → Prop} {fs sn od : Nat → Nat} (hp : prm n od (ivO n od)) (hr : rsp O fs sn (ivO n od)) (hO : ∀ x, O x → fs x < n ∧ sn x < n) (ha : a < n) (hb : b < n) (hab : a ≠ b) (hno : ¬ rch (dE O fs sn) b a) :
    prm n (reOd n O fs sn od a b) (ivO n (reOd n O fs sn od a b)) ∧ rsp O fs sn (ivO n (reOd n O fs sn od a b)) ∧ ivO n (reOd n O fs sn od a b) a < ivO n (reOd n O fs sn od a b) b := by
  unfold reOd
  by_cases h : ivO n od a < ivO n od b
  · rw [if_pos h]; exact ⟨hp, hr, h⟩
  · rw [if_neg h]
    have hlt : ivO n od b < ivO n od a := by
      have h1 := (hp.2 a ha).2
      have h2 := (hp.2 b hb).2
      rcases Nat.lt_trichotomy (ivO n od a) (ivO n od b) with q | q | q
      · exact absurd q h
      · rw [q, h2] at h1; exact absurd h1.symm hab
      · exact q
    obtain ⟨pl', h1, h2⟩ := newOd_prm (oP_dis (n := n) (od := od) hno) hp
    obtain ⟨r1, r2⟩ := newOd_rsp hp hr hO ha hb hlt hno (P1 := oP1 n O fs sn od a b) (P2 := oP2 n O fs sn od a b) (fun p hp => ⟨fun q => q.2, fun q => ⟨hp, q⟩⟩) (fun p hp => ⟨fun q => q.2, fun q => ⟨hp, q⟩⟩) (oP_dis hno) h1 h2
    refine ⟨ivO_prm h1, fun x hx => ?_, ?_⟩
    · rw [ivO_eq h1 (hO x hx).1, ivO_eq h1 (hO x hx).2]; exact r1 x hx
    · rw [ivO_eq h1 ha, ivO_eq h1 hb]; exact r2
theorem pick37_ok {σ : kS} {n lw hg h0 : Nat} {od : Nat → Nat} {P : Nat → Prop} (hn : n ≤ 300) (hR : Rw σ n od) (hlh : lw ≤ hg) (hh : hg < n) (h0n : h0 + cntP P n ≤ 300) (hP : ∀ p, P p → lw ≤ p ∧ p ≤ hg) (hP2 : ∀ p, lw ≤ p → p ≤ hg → (P p ↔ σ 37 (od p) ≠ -1)) :
    wpF F_Row_pick [.inr (.inl 7), .inl (lw : Int), .inl (hg : Int), .inr (.inl 37), .inl (h0 : Int)] σ (fun r s => r = some (.inl ((h0 + cntP P n : Nat) : Int)) ∧ (∀ o k, o ≠ 38 → s o k = σ o k) ∧ (∀ p, P p → s 38 (h0 + cntP P p) = (od p : Int)) ∧ (∀ j, j < h0 → s 38 j = σ 38 j)) := by
  obtain ⟨r1, r2, r3⟩ := hR
  unfold F_Row_pick
  rw [wpF_kF]
  refine ⟨rfl, rfl, ?_⟩
  unfold s_Row_pick
  simp only [List.map_cons, List.map_nil]
  refine wpS_seq' (fun Q101 hQ101 => ?_)
  simp only [wpS_skip, wpS_break, wpS_cont, wpS_retV, wpS_throw, wpS_seq, wpS_if, wpS_trunc, yS_let, yS_inc, kgK_i, kgK_r, kok_nil, kok_i0, kok_is, kok_r0, kok_rs, kok_n0, kok_ns, xS_put, xS_putOp, xS_ast0, xS_ast1, xS_astOp, wpS_E, wpS_call, wpS_callS, wpS_ret, kThen_N, kThen_B, kThen_C, kThen_R, kThen_T, kNext_N, kNext_C, kNext_B, kNext_R, wpE_K, wpE_KL, xE_I, xE_R, wpE_J, xE_bin, wpE_ladd, wpE_i2l, xE_get, xE_ald0, xE_ald1, wpE_if, xE_max, xE_min, wpE_len, wpA_nil, wpA_snoc, xE_call, xE_callS, xC_C, xC_L, xC_Z, wpC_and, wpC_or, wpC_not, wpC_if, kcmp_0, kcmp_1, kcmp_2, kcmp_3, kcmp_4, kcmp_5, rR_inj, kgO_some, kgO_add, kgO_sub, kgO_mul, kgO_div, kgO_rem, kgO_and, kvI_inl, kvJ_inl, kgI_0, kgI_s, kgR_0, kgR_s, kst_nil, kst_0, kst_s, kNLl_nil, kNLl_i, kNLl_r, kNLl_n, ktag_i, ktag_r, List.length_cons, List.length_nil, List.take_succ_cons, List.take_zero, List.take_nil, List.nil_append, List.cons_append, decide_eq_true_eq, Bool.not_eq_true, Bool.not_eq_true', decide_eq_false_iff_not, ne_eq, Decidable.not_not, true_and, and_true, Nat.reduceAdd, Nat.reduceLeDiff, Nat.reduceEqDiff, Nat.le_refl, not_true_eq_false, not_false_eq_true, reduceIte, eq_self, Int.reduceNeg, Int.reduceEq, Int.reduceLT, Int.reduceLE, Nat.zero_le, Nat.one_ne_zero]
  repeat refine And.intro (by omega) ?_
  rw [hQ101]
  clear hQ101 Q101
  refine kThen_N.mpr ?_
  refine wpS_seq' (fun Q1 hQ1 => ?_)
  unfold l_Row_pick_1
  refine wpS_fortG (fun m L s => L = [some (.inr (.inl 7)), some (.inl (lw : Int)), some (.inl (hg : Int)), some (.inr (.inl 37)), some (.inl (h0 : Int)), some (.inl ((h0 + cntP P (lw + m) : Nat) : Int))] ∧ (∀ o k, o ≠ 38 → s o k = σ o k) ∧ (∀ p, p < lw + m → P p → s 38 (h0 + cntP P p) = (od p : Int)) ∧ (∀ j, j < h0 → s 38 j = σ 38 j)) (fun m => ((lw + m : Nat) : Int)) (hg + 1 - lw) rfl rfl ?_ ?_ ?_ ?_
  · simp only [wpS_skip, wpS_break, wpS_cont, wpS_retV, wpS_throw, wpS_seq, wpS_if, wpS_trunc, yS_let, yS_inc, kgK_i, kgK_r, kok_nil, kok_i0, kok_is, kok_r0, kok_rs, kok_n0, kok_ns, xS_put, xS_putOp, xS_ast0, xS_ast1, xS_astOp, wpS_E, wpS_call, wpS_callS, wpS_ret, kThen_N, kThen_B, kThen_C, kThen_R, kThen_T, kNext_N, kNext_C, kNext_B, kNext_R, wpE_K, wpE_KL, xE_I, xE_R, wpE_J, xE_bin, wpE_ladd, wpE_i2l, xE_get, xE_ald0, xE_ald1, wpE_if, xE_max, xE_min, wpE_len, wpA_nil, wpA_snoc, xE_call, xE_callS, xC_C, xC_L, xC_Z, wpC_and, wpC_or, wpC_not, wpC_if, kcmp_0, kcmp_1, kcmp_2, kcmp_3, kcmp_4, kcmp_5, rR_inj, kgO_some, kgO_add, kgO_sub, kgO_mul, kgO_div, kgO_rem, kgO_and, kvI_inl, kvJ_inl, kgI_0, kgI_s, kgR_0, kgR_s, kst_nil, kst_0, kst_s, kNLl_nil, kNLl_i, kNLl_r, kNLl_n, ktag_i, ktag_r, List.length_cons, List.length_nil, List.take_succ_cons, List.take_zero, List.take_nil, List.nil_append, List.cons_append, decide_eq_true_eq, Bool.not_eq_true, Bool.not_eq_true', decide_eq_false_iff_not, ne_eq, Decidable.not_not, true_and, and_true, Nat.reduceAdd, Nat.reduceLeDiff, Nat.reduceEqDiff, Nat.le_refl, not_true_eq_false, not_false_eq_true, reduceIte, eq_self, Int.reduceNeg, Int.reduceEq, Int.reduceLT, Int.reduceLE, Nat.zero_le, Nat.one_ne_zero]; trivial
  · have e : cntP P (lw + 0) = 0 := cntP_zero (fun k hk hp => by have := (hP k hp).1; omega)
    rw [e]
    exact ⟨rfl, fun _ _ _ => rfl, fun p hp hq => by have := (hP p hq).1; omega, fun _ _ => rfl⟩
  · rintro m L s ⟨rfl, -⟩; exact ⟨rfl, rfl⟩
  · rintro m L s hm ⟨rfl, S1, S2, S3⟩
    obtain ⟨p, hp⟩ : ∃ p, p = lw + m := ⟨_, rfl⟩
    have hp1 : lw + (m + 1) = p + 1 := by omega
    rw [hp1]
    rw [← hp] at S2 ⊢
    obtain ⟨kp, hkp⟩ : ∃ kp, kp = h0 + cntP P p := ⟨_, rfl⟩
    rw [← hkp]
    have hmn := @cntP_mono P p n (by omega)
    by_cases hc : p ≤ hg ∧ kp < 300
    · have c1 : (p : Int) ≤ (hg : Int) := by omega
      have c2 : (kp : Int) < 300 := by omega
      refine wpC_gen (fun Q2 hQ2 => ?_)
      simp only [wpS_skip, wpS_break, wpS_cont, wpS_retV, wpS_throw, wpS_seq, wpS_if, wpS_trunc, yS_let, yS_inc, kgK_i, kgK_r, kok_nil, kok_i0, kok_is, kok_r0, kok_rs, kok_n0, kok_ns, xS_put, xS_putOp, xS_ast0, xS_ast1, xS_astOp, wpS_E, wpS_call, wpS_callS, wpS_ret, kThen_N, kThen_B, kThen_C, kThen_R, kThen_T, kNext_N, kNext_C, kNext_B, kNext_R, wpE_K, wpE_KL, xE_I, xE_R, wpE_J, xE_bin, wpE_ladd, wpE_i2l, xE_get, xE_ald0, xE_ald1, wpE_if, xE_max, xE_min, wpE_len, wpA_nil, wpA_snoc, xE_call, xE_callS, xC_C, xC_L, xC_Z, wpC_and, wpC_or, wpC_not, wpC_if, kcmp_0, kcmp_1, kcmp_2, kcmp_3, kcmp_4, kcmp_5, rR_inj, kgO_some, kgO_add, kgO_sub, kgO_mul, kgO_div, kgO_rem, kgO_and, kvI_inl, kvJ_inl, kgI_0, kgI_s, kgR_0, kgR_s, kst_nil, kst_0, kst_s, kNLl_nil, kNLl_i, kNLl_r, kNLl_n, ktag_i, ktag_r, List.length_cons, List.length_nil, List.take_succ_cons, List.take_zero, List.take_nil, List.nil_append, List.cons_append, decide_eq_true_eq, Bool.not_eq_true, Bool.not_eq_true', decide_eq_false_iff_not, ne_eq, Decidable.not_not, true_and, and_true, Nat.reduceAdd, Nat.reduceLeDiff, Nat.reduceEqDiff, Nat.le_refl, not_true_eq_false, not_false_eq_true, reduceIte, eq_self, Int.reduceNeg, Int.reduceEq, Int.reduceLT, Int.reduceLE, Nat.zero_le, Nat.one_ne_zero, c1, c2, decide_true, decide_false, Bool.false_eq_true, if_true, if_false, true_and, and_true, not_true_eq_false, not_false_eq_true]
      rw [hQ2]
      refine ⟨rfl, Or.inl ⟨rfl, by omega, by omega, by omega, by omega, ?_⟩⟩
      have e34 : s 34 p = od p := by rw [S1 _ _ (by decide)]; exact r1 p (by omega)
      have eF : s 37 (od p) = σ 37 (od p) := S1 _ _ (by decide)
      have hPp := hP2 p (by omega) hc.1
      have hod := (r3.1 p (by omega)).1
      refine wpS_gen (fun Q3 hQ3 => ?_)
      by_cases q : σ 37 (od p) = -1
      · have hnp : ¬ P p := fun w => hPp.mp w q
        simp only [wpS_skip, wpS_break, wpS_cont, wpS_retV, wpS_throw, wpS_seq, wpS_if, wpS_trunc, yS_let, yS_inc, kgK_i, kgK_r, kok_nil, kok_i0, kok_is, kok_r0, kok_rs, kok_n0, kok_ns, xS_put, xS_putOp, xS_ast0, xS_ast1, xS_astOp, wpS_E, wpS_call, wpS_callS, wpS_ret, kThen_N, kThen_B, kThen_C, kThen_R, kThen_T, kNext_N, kNext_C, kNext_B, kNext_R, wpE_K, wpE_KL, xE_I, xE_R, wpE_J, xE_bin, wpE_ladd, wpE_i2l, xE_get, xE_ald0, xE_ald1, wpE_if, xE_max, xE_min, wpE_len, wpA_nil, wpA_snoc, xE_call, xE_callS, xC_C, xC_L, xC_Z, wpC_and, wpC_or, wpC_not, wpC_if, kcmp_0, kcmp_1, kcmp_2, kcmp_3, kcmp_4, kcmp_5, rR_inj, kgO_some, kgO_add, kgO_sub, kgO_mul, kgO_div, kgO_rem, kgO_and, kvI_inl, kvJ_inl, kgI_0, kgI_s, kgR_0, kgR_s, kst_nil, kst_0, kst_s, kNLl_nil, kNLl_i, kNLl_r, kNLl_n, ktag_i, ktag_r, List.length_cons, List.length_nil, List.take_succ_cons, List.take_zero, List.take_nil, List.nil_append, List.cons_append, decide_eq_true_eq, Bool.not_eq_true, Bool.not_eq_true', decide_eq_false_iff_not, ne_eq, Decidable.not_not, true_and, and_true, Nat.reduceAdd, Nat.reduceLeDiff, Nat.reduceEqDiff, Nat.le_refl, not_true_eq_false, not_false_eq_true, reduceIte, eq_self, Int.reduceNeg, Int.reduceEq, Int.reduceLT, Int.reduceLE, Nat.zero_le, Nat.one_ne_zero, ev_row, ev_row_arr, Int.toNat_natCast, e34, eF, q, decide_true, decide_false, Bool.false_eq_true, if_true, if_false, true_and, and_true, not_true_eq_false, not_false_eq_true]
        repeat refine And.intro (by omega) ?_
        rw [hQ3]
        refine kStep_N (P := [some (.inr (.inl 7)), some (.inl (lw : Int)), some (.inl (hg : Int)), some (.inr (.inl 37)), some (.inl (h0 : Int)), some (.inl (kp : Int))]) rfl ⟨by rw [cntP_succ_neg hnp, hkp], S1, fun p' h1 h2 => ?_, S3⟩
        by_cases e : p' = p
        · subst e; exact absurd h2 hnp
        · exact S2 p' (by omega) h2
      · have hpp : P p := hPp.mpr q
        simp only [wpS_skip, wpS_break, wpS_cont, wpS_retV, wpS_throw, wpS_seq, wpS_if, wpS_trunc, yS_let, yS_inc, kgK_i, kgK_r, kok_nil, kok_i0, kok_is, kok_r0, kok_rs, kok_n0, kok_ns, xS_put, xS_putOp, xS_ast0, xS_ast1, xS_astOp, wpS_E, wpS_call, wpS_callS, wpS_ret, kThen_N, kThen_B, kThen_C, kThen_R, kThen_T, kNext_N, kNext_C, kNext_B, kNext_R, wpE_K, wpE_KL, xE_I, xE_R, wpE_J, xE_bin, wpE_ladd, wpE_i2l, xE_get, xE_ald0, xE_ald1, wpE_if, xE_max, xE_min, wpE_len, wpA_nil, wpA_snoc, xE_call, xE_callS, xC_C, xC_L, xC_Z, wpC_and, wpC_or, wpC_not, wpC_if, kcmp_0, kcmp_1, kcmp_2, kcmp_3, kcmp_4, kcmp_5, rR_inj, kgO_some, kgO_add, kgO_sub, kgO_mul, kgO_div, kgO_rem, kgO_and, kvI_inl, kvJ_inl, kgI_0, kgI_s, kgR_0, kgR_s, kst_nil, kst_0, kst_s, kNLl_nil, kNLl_i, kNLl_r, kNLl_n, ktag_i, ktag_r, List.length_cons, List.length_nil, List.take_succ_cons, List.take_zero, List.take_nil, List.nil_append, List.cons_append, decide_eq_true_eq, Bool.not_eq_true, Bool.not_eq_true', decide_eq_false_iff_not, ne_eq, Decidable.not_not, true_and, and_true, Nat.reduceAdd, Nat.reduceLeDiff, Nat.reduceEqDiff, Nat.le_refl, not_true_eq_false, not_false_eq_true, reduceIte, eq_self, Int.reduceNeg, Int.reduceEq, Int.reduceLT, Int.reduceLE, Nat.zero_le, Nat.one_ne_zero, ev_row, ev_row_arr, Int.toNat_natCast, e34, eF, q, decide_true, decide_false, Bool.false_eq_true, if_true, if_false, true_and, and_true, not_true_eq_false, not_false_eq_true]
        repeat refine And.intro (by omega) ?_
        rw [hQ3]
        refine kStep_N (P := [some (.inr (.inl 7)), some (.inl (lw : Int)), some (.inl (hg : Int)), some (.inr (.inl 37)), some (.inl (h0 : Int)), some (.inl ((kp : Int) + 1))]) rfl ⟨?_, fun o k ho => by rw [kup_ne ho]; exact S1 o k ho, fun p' h1 h2 => ?_, fun j hj => ?_⟩
        · rw [cntP_succ_pos hpp]
          have : ((h0 + (cntP P p + 1) : Nat) : Int) = (kp : Int) + 1 := by omega
          rw [this]
        · rw [kup_eq]
          by_cases e : p' = p
          · subst e; rw [if_pos hkp.symm]
          · have := cntP_lt (show p' < p by omega) h2
            rw [if_neg (by omega)]; exact S2 p' (by omega) h2
        · rw [kup_eq, if_neg (by omega)]; exact S3 j hj
    · have hend : ∀ p', p ≤ p' → ¬ P p' := by
        intro p' h1 h2
        have h3 := hP p' h2
        by_cases h4 : p ≤ hg
        · have := cntP_lt (show p' < n by omega) h2
          have := @cntP_mono P _ _ h1
          omega
        · omega
      have hcn : cntP P n = cntP P p := cntP_const (by omega) (fun p' h1 _ => hend p' h1)
      have fin : Q1 rN [some (.inr (.inl 7)), some (.inl (lw : Int)), some (.inl (hg : Int)), some (.inr (.inl 37)), some (.inl (h0 : Int)), some (.inl (kp : Int))] s := by
        rw [hQ1]
        refine kThen_N.mpr ?_
        refine wpS_gen (fun Q102 hQ102 => ?_)
        simp only [wpS_skip, wpS_break, wpS_cont, wpS_retV, wpS_throw, wpS_seq, wpS_if, wpS_trunc, yS_let, yS_inc, kgK_i, kgK_r, kok_nil, kok_i0, kok_is, kok_r0, kok_rs, kok_n0, kok_ns, xS_put, xS_putOp, xS_ast0, xS_ast1, xS_astOp, wpS_E, wpS_call, wpS_callS, wpS_ret, kThen_N, kThen_B, kThen_C, kThen_R, kThen_T, kNext_N, kNext_C, kNext_B, kNext_R, wpE_K, wpE_KL, xE_I, xE_R, wpE_J, xE_bin, wpE_ladd, wpE_i2l, xE_get, xE_ald0, xE_ald1, wpE_if, xE_max, xE_min, wpE_len, wpA_nil, wpA_snoc, xE_call, xE_callS, xC_C, xC_L, xC_Z, wpC_and, wpC_or, wpC_not, wpC_if, kcmp_0, kcmp_1, kcmp_2, kcmp_3, kcmp_4, kcmp_5, rR_inj, kgO_some, kgO_add, kgO_sub, kgO_mul, kgO_div, kgO_rem, kgO_and, kvI_inl, kvJ_inl, kgI_0, kgI_s, kgR_0, kgR_s, kst_nil, kst_0, kst_s, kNLl_nil, kNLl_i, kNLl_r, kNLl_n, ktag_i, ktag_r, List.length_cons, List.length_nil, List.take_succ_cons, List.take_zero, List.take_nil, List.nil_append, List.cons_append, decide_eq_true_eq, Bool.not_eq_true, Bool.not_eq_true', decide_eq_false_iff_not, ne_eq, Decidable.not_not, true_and, and_true, Nat.reduceAdd, Nat.reduceLeDiff, Nat.reduceEqDiff, Nat.le_refl, not_true_eq_false, not_false_eq_true, reduceIte, eq_self, Int.reduceNeg, Int.reduceEq, Int.reduceLT, Int.reduceLE, Nat.zero_le, Nat.one_ne_zero]
        repeat refine And.intro (by omega) ?_
        rw [hQ102]
        clear hQ102 Q102
        refine ⟨_, rfl, rfl, by rw [hcn, hkp], S1, fun p' hp' => ?_, S3⟩
        rcases Nat.lt_or_ge p' p with w | w
        · exact S2 p' w hp'
        · exact absurd hp' (hend p' w)
      by_cases h4 : p ≤ hg
      · have c1 : (p : Int) ≤ (hg : Int) := by omega
        have c2 : ¬ (kp : Int) < 300 := by omega
        refine wpC_gen (fun Q2 hQ2 => ?_)
        simp only [wpS_skip, wpS_break, wpS_cont, wpS_retV, wpS_throw, wpS_seq, wpS_if, wpS_trunc, yS_let, yS_inc, kgK_i, kgK_r, kok_nil, kok_i0, kok_is, kok_r0, kok_rs, kok_n0, kok_ns, xS_put, xS_putOp, xS_ast0, xS_ast1, xS_astOp, wpS_E, wpS_call, wpS_callS, wpS_ret, kThen_N, kThen_B, kThen_C, kThen_R, kThen_T, kNext_N, kNext_C, kNext_B, kNext_R, wpE_K, wpE_KL, xE_I, xE_R, wpE_J, xE_bin, wpE_ladd, wpE_i2l, xE_get, xE_ald0, xE_ald1, wpE_if, xE_max, xE_min, wpE_len, wpA_nil, wpA_snoc, xE_call, xE_callS, xC_C, xC_L, xC_Z, wpC_and, wpC_or, wpC_not, wpC_if, kcmp_0, kcmp_1, kcmp_2, kcmp_3, kcmp_4, kcmp_5, rR_inj, kgO_some, kgO_add, kgO_sub, kgO_mul, kgO_div, kgO_rem, kgO_and, kvI_inl, kvJ_inl, kgI_0, kgI_s, kgR_0, kgR_s, kst_nil, kst_0, kst_s, kNLl_nil, kNLl_i, kNLl_r, kNLl_n, ktag_i, ktag_r, List.length_cons, List.length_nil, List.take_succ_cons, List.take_zero, List.take_nil, List.nil_append, List.cons_append, decide_eq_true_eq, Bool.not_eq_true, Bool.not_eq_true', decide_eq_false_iff_not, ne_eq, Decidable.not_not, true_and, and_true, Nat.reduceAdd, Nat.reduceLeDiff, Nat.reduceEqDiff, Nat.le_refl, not_true_eq_false, not_false_eq_true, reduceIte, eq_self, Int.reduceNeg, Int.reduceEq, Int.reduceLT, Int.reduceLE, Nat.zero_le, Nat.one_ne_zero, c1, c2, decide_true, decide_false, Bool.false_eq_true, if_true, if_false, true_and, and_true, not_true_eq_false, not_false_eq_true]
        rw [hQ2]
        exact ⟨rfl, Or.inr ⟨rfl, fin⟩⟩
      · have c1 : ¬ (p : Int) ≤ (hg : Int) := by omega
        refine wpC_gen (fun Q2 hQ2 => ?_)
        simp only [wpS_skip, wpS_break, wpS_cont, wpS_retV, wpS_throw, wpS_seq, wpS_if, wpS_trunc, yS_let, yS_inc, kgK_i, kgK_r, kok_nil, kok_i0, kok_is, kok_r0, kok_rs, kok_n0, kok_ns, xS_put, xS_putOp, xS_ast0, xS_ast1, xS_astOp, wpS_E, wpS_call, wpS_callS, wpS_ret, kThen_N, kThen_B, kThen_C, kThen_R, kThen_T, kNext_N, kNext_C, kNext_B, kNext_R, wpE_K, wpE_KL, xE_I, xE_R, wpE_J, xE_bin, wpE_ladd, wpE_i2l, xE_get, xE_ald0, xE_ald1, wpE_if, xE_max, xE_min, wpE_len, wpA_nil, wpA_snoc, xE_call, xE_callS, xC_C, xC_L, xC_Z, wpC_and, wpC_or, wpC_not, wpC_if, kcmp_0, kcmp_1, kcmp_2, kcmp_3, kcmp_4, kcmp_5, rR_inj, kgO_some, kgO_add, kgO_sub, kgO_mul, kgO_div, kgO_rem, kgO_and, kvI_inl, kvJ_inl, kgI_0, kgI_s, kgR_0, kgR_s, kst_nil, kst_0, kst_s, kNLl_nil, kNLl_i, kNLl_r, kNLl_n, ktag_i, ktag_r, List.length_cons, List.length_nil, List.take_succ_cons, List.take_zero, List.take_nil, List.nil_append, List.cons_append, decide_eq_true_eq, Bool.not_eq_true, Bool.not_eq_true', decide_eq_false_iff_not, ne_eq, Decidable.not_not, true_and, and_true, Nat.reduceAdd, Nat.reduceLeDiff, Nat.reduceEqDiff, Nat.le_refl, not_true_eq_false, not_false_eq_true, reduceIte, eq_self, Int.reduceNeg, Int.reduceEq, Int.reduceLT, Int.reduceLE, Nat.zero_le, Nat.one_ne_zero, c1, decide_true, decide_false, Bool.false_eq_true, if_true, if_false, true_and, and_true, not_true_eq_false, not_false_eq_true]
        rw [hQ2]
        exact ⟨rfl, Or.inr ⟨rfl, fin⟩⟩
theorem pick36_ok {σ : kS} {n lw hg h0 : Nat} {od : Nat → Nat} {P : Nat → Prop} (hn : n ≤ 300) (hR : Rw σ n od) (hlh : lw ≤ hg) (hh : hg < n) (h0n : h0 + cntP P n ≤ 300) (hP : ∀ p, P p → lw ≤ p ∧ p ≤ hg) (hP2 : ∀ p, lw ≤ p → p ≤ hg → (P p ↔ σ 36 (od p) ≠ -1)) :
    wpF F_Row_pick [.inr (.inl 7), .inl (lw : Int), .inl (hg : Int), .inr (.inl 36), .inl (h0 : Int)] σ (fun r s => r = some (.inl ((h0 + cntP P n : Nat) : Int)) ∧ (∀ o k, o ≠ 38 → s o k = σ o k) ∧ (∀ p, P p → s 38 (h0 + cntP P p) = (od p : Int)) ∧ (∀ j, j < h0 → s 38 j = σ 38 j)) := by
  obtain ⟨r1, r2, r3⟩ := hR
  unfold F_Row_pick
  rw [wpF_kF]
  refine ⟨rfl, rfl, ?_⟩
  unfold s_Row_pick
  simp only [List.map_cons, List.map_nil]
  refine wpS_seq' (fun Q103 hQ103 => ?_)
  simp only [wpS_skip, wpS_break, wpS_cont, wpS_retV, wpS_throw, wpS_seq, wpS_if, wpS_trunc, yS_let, yS_inc, kgK_i, kgK_r, kok_nil, kok_i0, kok_is, kok_r0, kok_rs, kok_n0, kok_ns, xS_put, xS_putOp, xS_ast0, xS_ast1, xS_astOp, wpS_E, wpS_call, wpS_callS, wpS_ret, kThen_N, kThen_B, kThen_C, kThen_R, kThen_T, kNext_N, kNext_C, kNext_B, kNext_R, wpE_K, wpE_KL, xE_I, xE_R, wpE_J, xE_bin, wpE_ladd, wpE_i2l, xE_get, xE_ald0, xE_ald1, wpE_if, xE_max, xE_min, wpE_len, wpA_nil, wpA_snoc, xE_call, xE_callS, xC_C, xC_L, xC_Z, wpC_and, wpC_or, wpC_not, wpC_if, kcmp_0, kcmp_1, kcmp_2, kcmp_3, kcmp_4, kcmp_5, rR_inj, kgO_some, kgO_add, kgO_sub, kgO_mul, kgO_div, kgO_rem, kgO_and, kvI_inl, kvJ_inl, kgI_0, kgI_s, kgR_0, kgR_s, kst_nil, kst_0, kst_s, kNLl_nil, kNLl_i, kNLl_r, kNLl_n, ktag_i, ktag_r, List.length_cons, List.length_nil, List.take_succ_cons, List.take_zero, List.take_nil, List.nil_append, List.cons_append, decide_eq_true_eq, Bool.not_eq_true, Bool.not_eq_true', decide_eq_false_iff_not, ne_eq, Decidable.not_not, true_and, and_true, Nat.reduceAdd, Nat.reduceLeDiff, Nat.reduceEqDiff, Nat.le_refl, not_true_eq_false, not_false_eq_true, reduceIte, eq_self, Int.reduceNeg, Int.reduceEq, Int.reduceLT, Int.reduceLE, Nat.zero_le, Nat.one_ne_zero]
  repeat refine And.intro (by omega) ?_
  rw [hQ103]
  clear hQ103 Q103
  refine kThen_N.mpr ?_
  refine wpS_seq' (fun Q1 hQ1 => ?_)
  unfold l_Row_pick_1
  refine wpS_fortG (fun m L s => L = [some (.inr (.inl 7)), some (.inl (lw : Int)), some (.inl (hg : Int)), some (.inr (.inl 36)), some (.inl (h0 : Int)), some (.inl ((h0 + cntP P (lw + m) : Nat) : Int))] ∧ (∀ o k, o ≠ 38 → s o k = σ o k) ∧ (∀ p, p < lw + m → P p → s 38 (h0 + cntP P p) = (od p : Int)) ∧ (∀ j, j < h0 → s 38 j = σ 38 j)) (fun m => ((lw + m : Nat) : Int)) (hg + 1 - lw) rfl rfl ?_ ?_ ?_ ?_
  · simp only [wpS_skip, wpS_break, wpS_cont, wpS_retV, wpS_throw, wpS_seq, wpS_if, wpS_trunc, yS_let, yS_inc, kgK_i, kgK_r, kok_nil, kok_i0, kok_is, kok_r0, kok_rs, kok_n0, kok_ns, xS_put, xS_putOp, xS_ast0, xS_ast1, xS_astOp, wpS_E, wpS_call, wpS_callS, wpS_ret, kThen_N, kThen_B, kThen_C, kThen_R, kThen_T, kNext_N, kNext_C, kNext_B, kNext_R, wpE_K, wpE_KL, xE_I, xE_R, wpE_J, xE_bin, wpE_ladd, wpE_i2l, xE_get, xE_ald0, xE_ald1, wpE_if, xE_max, xE_min, wpE_len, wpA_nil, wpA_snoc, xE_call, xE_callS, xC_C, xC_L, xC_Z, wpC_and, wpC_or, wpC_not, wpC_if, kcmp_0, kcmp_1, kcmp_2, kcmp_3, kcmp_4, kcmp_5, rR_inj, kgO_some, kgO_add, kgO_sub, kgO_mul, kgO_div, kgO_rem, kgO_and, kvI_inl, kvJ_inl, kgI_0, kgI_s, kgR_0, kgR_s, kst_nil, kst_0, kst_s, kNLl_nil, kNLl_i, kNLl_r, kNLl_n, ktag_i, ktag_r, List.length_cons, List.length_nil, List.take_succ_cons, List.take_zero, List.take_nil, List.nil_append, List.cons_append, decide_eq_true_eq, Bool.not_eq_true, Bool.not_eq_true', decide_eq_false_iff_not, ne_eq, Decidable.not_not, true_and, and_true, Nat.reduceAdd, Nat.reduceLeDiff, Nat.reduceEqDiff, Nat.le_refl, not_true_eq_false, not_false_eq_true, reduceIte, eq_self, Int.reduceNeg, Int.reduceEq, Int.reduceLT, Int.reduceLE, Nat.zero_le, Nat.one_ne_zero]; trivial
  · have e : cntP P (lw + 0) = 0 := cntP_zero (fun k hk hp => by have := (hP k hp).1; omega)
    rw [e]
    exact ⟨rfl, fun _ _ _ => rfl, fun p hp hq => by have := (hP p hq).1; omega, fun _ _ => rfl⟩
  · rintro m L s ⟨rfl, -⟩; exact ⟨rfl, rfl⟩
  · rintro m L s hm ⟨rfl, S1, S2, S3⟩
    obtain ⟨p, hp⟩ : ∃ p, p = lw + m := ⟨_, rfl⟩
    have hp1 : lw + (m + 1) = p + 1 := by omega
    rw [hp1]
    rw [← hp] at S2 ⊢
    obtain ⟨kp, hkp⟩ : ∃ kp, kp = h0 + cntP P p := ⟨_, rfl⟩
    rw [← hkp]
    have hmn := @cntP_mono P p n (by omega)
    by_cases hc : p ≤ hg ∧ kp < 300
    · have c1 : (p : Int) ≤ (hg : Int) := by omega
      have c2 : (kp : Int) < 300 := by omega
      refine wpC_gen (fun Q2 hQ2 => ?_)
      simp only [wpS_skip, wpS_break, wpS_cont, wpS_retV, wpS_throw, wpS_seq, wpS_if, wpS_trunc, yS_let, yS_inc, kgK_i, kgK_r, kok_nil, kok_i0, kok_is, kok_r0, kok_rs, kok_n0, kok_ns, xS_put, xS_putOp, xS_ast0, xS_ast1, xS_astOp, wpS_E, wpS_call, wpS_callS, wpS_ret, kThen_N, kThen_B, kThen_C, kThen_R, kThen_T, kNext_N, kNext_C, kNext_B, kNext_R, wpE_K, wpE_KL, xE_I, xE_R, wpE_J, xE_bin, wpE_ladd, wpE_i2l, xE_get, xE_ald0, xE_ald1, wpE_if, xE_max, xE_min, wpE_len, wpA_nil, wpA_snoc, xE_call, xE_callS, xC_C, xC_L, xC_Z, wpC_and, wpC_or, wpC_not, wpC_if, kcmp_0, kcmp_1, kcmp_2, kcmp_3, kcmp_4, kcmp_5, rR_inj, kgO_some, kgO_add, kgO_sub, kgO_mul, kgO_div, kgO_rem, kgO_and, kvI_inl, kvJ_inl, kgI_0, kgI_s, kgR_0, kgR_s, kst_nil, kst_0, kst_s, kNLl_nil, kNLl_i, kNLl_r, kNLl_n, ktag_i, ktag_r, List.length_cons, List.length_nil, List.take_succ_cons, List.take_zero, List.take_nil, List.nil_append, List.cons_append, decide_eq_true_eq, Bool.not_eq_true, Bool.not_eq_true', decide_eq_false_iff_not, ne_eq, Decidable.not_not, true_and, and_true, Nat.reduceAdd, Nat.reduceLeDiff, Nat.reduceEqDiff, Nat.le_refl, not_true_eq_false, not_false_eq_true, reduceIte, eq_self, Int.reduceNeg, Int.reduceEq, Int.reduceLT, Int.reduceLE, Nat.zero_le, Nat.one_ne_zero, c1, c2, decide_true, decide_false, Bool.false_eq_true, if_true, if_false, true_and, and_true, not_true_eq_false, not_false_eq_true]
      rw [hQ2]
      refine ⟨rfl, Or.inl ⟨rfl, by omega, by omega, by omega, by omega, ?_⟩⟩
      have e34 : s 34 p = od p := by rw [S1 _ _ (by decide)]; exact r1 p (by omega)
      have eF : s 36 (od p) = σ 36 (od p) := S1 _ _ (by decide)
      have hPp := hP2 p (by omega) hc.1
      have hod := (r3.1 p (by omega)).1
      refine wpS_gen (fun Q3 hQ3 => ?_)
      by_cases q : σ 36 (od p) = -1
      · have hnp : ¬ P p := fun w => hPp.mp w q
        simp only [wpS_skip, wpS_break, wpS_cont, wpS_retV, wpS_throw, wpS_seq, wpS_if, wpS_trunc, yS_let, yS_inc, kgK_i, kgK_r, kok_nil, kok_i0, kok_is, kok_r0, kok_rs, kok_n0, kok_ns, xS_put, xS_putOp, xS_ast0, xS_ast1, xS_astOp, wpS_E, wpS_call, wpS_callS, wpS_ret, kThen_N, kThen_B, kThen_C, kThen_R, kThen_T, kNext_N, kNext_C, kNext_B, kNext_R, wpE_K, wpE_KL, xE_I, xE_R, wpE_J, xE_bin, wpE_ladd, wpE_i2l, xE_get, xE_ald0, xE_ald1, wpE_if, xE_max, xE_min, wpE_len, wpA_nil, wpA_snoc, xE_call, xE_callS, xC_C, xC_L, xC_Z, wpC_and, wpC_or, wpC_not, wpC_if, kcmp_0, kcmp_1, kcmp_2, kcmp_3, kcmp_4, kcmp_5, rR_inj, kgO_some, kgO_add, kgO_sub, kgO_mul, kgO_div, kgO_rem, kgO_and, kvI_inl, kvJ_inl, kgI_0, kgI_s, kgR_0, kgR_s, kst_nil, kst_0, kst_s, kNLl_nil, kNLl_i, kNLl_r, kNLl_n, ktag_i, ktag_r, List.length_cons, List.length_nil, List.take_succ_cons, List.take_zero, List.take_nil, List.nil_append, List.cons_append, decide_eq_true_eq, Bool.not_eq_true, Bool.not_eq_true', decide_eq_false_iff_not, ne_eq, Decidable.not_not, true_and, and_true, Nat.reduceAdd, Nat.reduceLeDiff, Nat.reduceEqDiff, Nat.le_refl, not_true_eq_false, not_false_eq_true, reduceIte, eq_self, Int.reduceNeg, Int.reduceEq, Int.reduceLT, Int.reduceLE, Nat.zero_le, Nat.one_ne_zero, ev_row, ev_row_arr, Int.toNat_natCast, e34, eF, q, decide_true, decide_false, Bool.false_eq_true, if_true, if_false, true_and, and_true, not_true_eq_false, not_false_eq_true]
        repeat refine And.intro (by omega) ?_
        rw [hQ3]
        refine kStep_N (P := [some (.inr (.inl 7)), some (.inl (lw : Int)), some (.inl (hg : Int)), some (.inr (.inl 36)), some (.inl (h0 : Int)), some (.inl (kp : Int))]) rfl ⟨by rw [cntP_succ_neg hnp, hkp], S1, fun p' h1 h2 => ?_, S3⟩
        by_cases e : p' = p
        · subst e; exact absurd h2 hnp
        · exact S2 p' (by omega) h2
      · have hpp : P p := hPp.mpr q
        simp only [wpS_skip, wpS_break, wpS_cont, wpS_retV, wpS_throw, wpS_seq, wpS_if, wpS_trunc, yS_let, yS_inc, kgK_i, kgK_r, kok_nil, kok_i0, kok_is, kok_r0, kok_rs, kok_n0, kok_ns, xS_put, xS_putOp, xS_ast0, xS_ast1, xS_astOp, wpS_E, wpS_call, wpS_callS, wpS_ret, kThen_N, kThen_B, kThen_C, kThen_R, kThen_T, kNext_N, kNext_C, kNext_B, kNext_R, wpE_K, wpE_KL, xE_I, xE_R, wpE_J, xE_bin, wpE_ladd, wpE_i2l, xE_get, xE_ald0, xE_ald1, wpE_if, xE_max, xE_min, wpE_len, wpA_nil, wpA_snoc, xE_call, xE_callS, xC_C, xC_L, xC_Z, wpC_and, wpC_or, wpC_not, wpC_if, kcmp_0, kcmp_1, kcmp_2, kcmp_3, kcmp_4, kcmp_5, rR_inj, kgO_some, kgO_add, kgO_sub, kgO_mul, kgO_div, kgO_rem, kgO_and, kvI_inl, kvJ_inl, kgI_0, kgI_s, kgR_0, kgR_s, kst_nil, kst_0, kst_s, kNLl_nil, kNLl_i, kNLl_r, kNLl_n, ktag_i, ktag_r, List.length_cons, List.length_nil, List.take_succ_cons, List.take_zero, List.take_nil, List.nil_append, List.cons_append, decide_eq_true_eq, Bool.not_eq_true, Bool.not_eq_true', decide_eq_false_iff_not, ne_eq, Decidable.not_not, true_and, and_true, Nat.reduceAdd, Nat.reduceLeDiff, Nat.reduceEqDiff, Nat.le_refl, not_true_eq_false, not_false_eq_true, reduceIte, eq_self, Int.reduceNeg, Int.reduceEq, Int.reduceLT, Int.reduceLE, Nat.zero_le, Nat.one_ne_zero, ev_row, ev_row_arr, Int.toNat_natCast, e34, eF, q, decide_true, decide_false, Bool.false_eq_true, if_true, if_false, true_and, and_true, not_true_eq_false, not_false_eq_true]
        repeat refine And.intro (by omega) ?_
        rw [hQ3]
        refine kStep_N (P := [some (.inr (.inl 7)), some (.inl (lw : Int)), some (.inl (hg : Int)), some (.inr (.inl 36)), some (.inl (h0 : Int)), some (.inl ((kp : Int) + 1))]) rfl ⟨?_, fun o k ho => by rw [kup_ne ho]; exact S1 o k ho, fun p' h1 h2 => ?_, fun j hj => ?_⟩
        · rw [cntP_succ_pos hpp]
          have : ((h0 + (cntP P p + 1) : Nat) : Int) = (kp : Int) + 1 := by omega
          rw [this]
        · rw [kup_eq]
          by_cases e : p' = p
          · subst e; rw [if_pos hkp.symm]
          · have := cntP_lt (show p' < p by omega) h2
            rw [if_neg (by omega)]; exact S2 p' (by omega) h2
        · rw [kup_eq, if_neg (by omega)]; exact S3 j hj
    · have hend : ∀ p', p ≤ p' → ¬ P p' := by
        intro p' h1 h2
        have h3 := hP p' h2
        by_cases h4 : p ≤ hg
        · have := cntP_lt (show p' < n by omega) h2
          have := @cntP_mono P _ _ h1
          omega
        · omega
      have hcn : cntP P n = cntP P p := cntP_const (by omega) (fun p' h1 _ => hend p' h1)
      have fin : Q1 rN [some (.inr (.inl 7)), some (.inl (lw : Int)), some (.inl (hg : Int)), some (.inr (.inl 36)), some (.inl (h0 : Int)), some (.inl (kp : Int))] s := by
        rw [hQ1]
        refine kThen_N.mpr ?_
        refine wpS_gen (fun Q104 hQ104 => ?_)
        simp only [wpS_skip, wpS_break, wpS_cont, wpS_retV, wpS_throw, wpS_seq, wpS_if, wpS_trunc, yS_let, yS_inc, kgK_i, kgK_r, kok_nil, kok_i0, kok_is, kok_r0, kok_rs, kok_n0, kok_ns, xS_put, xS_putOp, xS_ast0, xS_ast1, xS_astOp, wpS_E, wpS_call, wpS_callS, wpS_ret, kThen_N, kThen_B, kThen_C, kThen_R, kThen_T, kNext_N, kNext_C, kNext_B, kNext_R, wpE_K, wpE_KL, xE_I, xE_R, wpE_J, xE_bin, wpE_ladd, wpE_i2l, xE_get, xE_ald0, xE_ald1, wpE_if, xE_max, xE_min, wpE_len, wpA_nil, wpA_snoc, xE_call, xE_callS, xC_C, xC_L, xC_Z, wpC_and, wpC_or, wpC_not, wpC_if, kcmp_0, kcmp_1, kcmp_2, kcmp_3, kcmp_4, kcmp_5, rR_inj, kgO_some, kgO_add, kgO_sub, kgO_mul, kgO_div, kgO_rem, kgO_and, kvI_inl, kvJ_inl, kgI_0, kgI_s, kgR_0, kgR_s, kst_nil, kst_0, kst_s, kNLl_nil, kNLl_i, kNLl_r, kNLl_n, ktag_i, ktag_r, List.length_cons, List.length_nil, List.take_succ_cons, List.take_zero, List.take_nil, List.nil_append, List.cons_append, decide_eq_true_eq, Bool.not_eq_true, Bool.not_eq_true', decide_eq_false_iff_not, ne_eq, Decidable.not_not, true_and, and_true, Nat.reduceAdd, Nat.reduceLeDiff, Nat.reduceEqDiff, Nat.le_refl, not_true_eq_false, not_false_eq_true, reduceIte, eq_self, Int.reduceNeg, Int.reduceEq, Int.reduceLT, Int.reduceLE, Nat.zero_le, Nat.one_ne_zero]
        repeat refine And.intro (by omega) ?_
        rw [hQ104]
        clear hQ104 Q104
        refine ⟨_, rfl, rfl, by rw [hcn, hkp], S1, fun p' hp' => ?_, S3⟩
        rcases Nat.lt_or_ge p' p with w | w
        · exact S2 p' w hp'
        · exact absurd hp' (hend p' w)
      by_cases h4 : p ≤ hg
      · have c1 : (p : Int) ≤ (hg : Int) := by omega
        have c2 : ¬ (kp : Int) < 300 := by omega
        refine wpC_gen (fun Q2 hQ2 => ?_)
        simp only [wpS_skip, wpS_break, wpS_cont, wpS_retV, wpS_throw, wpS_seq, wpS_if, wpS_trunc, yS_let, yS_inc, kgK_i, kgK_r, kok_nil, kok_i0, kok_is, kok_r0, kok_rs, kok_n0, kok_ns, xS_put, xS_putOp, xS_ast0, xS_ast1, xS_astOp, wpS_E, wpS_call, wpS_callS, wpS_ret, kThen_N, kThen_B, kThen_C, kThen_R, kThen_T, kNext_N, kNext_C, kNext_B, kNext_R, wpE_K, wpE_KL, xE_I, xE_R, wpE_J, xE_bin, wpE_ladd, wpE_i2l, xE_get, xE_ald0, xE_ald1, wpE_if, xE_max, xE_min, wpE_len, wpA_nil, wpA_snoc, xE_call, xE_callS, xC_C, xC_L, xC_Z, wpC_and, wpC_or, wpC_not, wpC_if, kcmp_0, kcmp_1, kcmp_2, kcmp_3, kcmp_4, kcmp_5, rR_inj, kgO_some, kgO_add, kgO_sub, kgO_mul, kgO_div, kgO_rem, kgO_and, kvI_inl, kvJ_inl, kgI_0, kgI_s, kgR_0, kgR_s, kst_nil, kst_0, kst_s, kNLl_nil, kNLl_i, kNLl_r, kNLl_n, ktag_i, ktag_r, List.length_cons, List.length_nil, List.take_succ_cons, List.take_zero, List.take_nil, List.nil_append, List.cons_append, decide_eq_true_eq, Bool.not_eq_true, Bool.not_eq_true', decide_eq_false_iff_not, ne_eq, Decidable.not_not, true_and, and_true, Nat.reduceAdd, Nat.reduceLeDiff, Nat.reduceEqDiff, Nat.le_refl, not_true_eq_false, not_false_eq_true, reduceIte, eq_self, Int.reduceNeg, Int.reduceEq, Int.reduceLT, Int.reduceLE, Nat.zero_le, Nat.one_ne_zero, c1, c2, decide_true, decide_false, Bool.false_eq_true, if_true, if_false, true_and, and_true, not_true_eq_false, not_false_eq_true]
        rw [hQ2]
        exact ⟨rfl, Or.inr ⟨rfl, fin⟩⟩
      · have c1 : ¬ (p : Int) ≤ (hg : Int) := by omega
        refine wpC_gen (fun Q2 hQ2 => ?_)
        simp only [wpS_skip, wpS_break, wpS_cont, wpS_retV, wpS_throw, wpS_seq, wpS_if, wpS_trunc, yS_let, yS_inc, kgK_i, kgK_r, kok_nil, kok_i0, kok_is, kok_r0, kok_rs, kok_n0, kok_ns, xS_put, xS_putOp, xS_ast0, xS_ast1, xS_astOp, wpS_E, wpS_call, wpS_callS, wpS_ret, kThen_N, kThen_B, kThen_C, kThen_R, kThen_T, kNext_N, kNext_C, kNext_B, kNext_R, wpE_K, wpE_KL, xE_I, xE_R, wpE_J, xE_bin, wpE_ladd, wpE_i2l, xE_get, xE_ald0, xE_ald1, wpE_if, xE_max, xE_min, wpE_len, wpA_nil, wpA_snoc, xE_call, xE_callS, xC_C, xC_L, xC_Z, wpC_and, wpC_or, wpC_not, wpC_if, kcmp_0, kcmp_1, kcmp_2, kcmp_3, kcmp_4, kcmp_5, rR_inj, kgO_some, kgO_add, kgO_sub, kgO_mul, kgO_div, kgO_rem, kgO_and, kvI_inl, kvJ_inl, kgI_0, kgI_s, kgR_0, kgR_s, kst_nil, kst_0, kst_s, kNLl_nil, kNLl_i, kNLl_r, kNLl_n, ktag_i, ktag_r, List.length_cons, List.length_nil, List.take_succ_cons, List.take_zero, List.take_nil, List.nil_append, List.cons_append, decide_eq_true_eq, Bool.not_eq_true, Bool.not_eq_true', decide_eq_false_iff_not, ne_eq, Decidable.not_not, true_and, and_true, Nat.reduceAdd, Nat.reduceLeDiff, Nat.reduceEqDiff, Nat.le_refl, not_true_eq_false, not_false_eq_true, reduceIte, eq_self, Int.reduceNeg, Int.reduceEq, Int.reduceLT, Int.reduceLE, Nat.zero_le, Nat.one_ne_zero, c1, decide_true, decide_false, Bool.false_eq_true, if_true, if_false, true_and, and_true, not_true_eq_false, not_false_eq_true]
        rw [hQ2]
        exact ⟨rfl, Or.inr ⟨rfl, fin⟩⟩
