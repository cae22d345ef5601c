/-! THE REFERENCE'S PLAN -/
section MP
variable {σ : kS} {n c ar st : Nat} {li fs sn lv : Nat → Nat} {tr lo : Nat → Int} {sp tk : Nat → Int} {sf ss : Nat → Nat}
theorem kup_other {s : kS} {o k o' k' : Nat} {v : Int} (h : o' ≠ o ∨ k' ≠ k) : kup s o k v o' k' = s o' k' := by
  by_cases e : o' = o
  · subst e
    rw [kup_eq, if_neg (by omega)]
  · rw [kup_ne e]
/-- the steps in the reference -/
def PlM (s : kS) (st : Nat) (sp tk : Nat → Int) (sf ss : Nat → Nat) : Prop := s 14 17 = (st : Int) ∧
  ∀ k, k < st → s 81 k = sp k ∧ (sp k = 1 → s 82 k = (sf k : Int) ∧ s 83 k = (ss k : Int)) ∧ (sp k = 0 → s 84 k = tk k)
theorem PlM.agree {s : kS} (h : PlM σ st sp tk sf ss) (hs : ∀ o k, (81 ≤ o ∧ o ≤ 84) ∨ (o = 14 ∧ k = 17) → s o k = σ o k) : PlM s st sp tk sf ss := by
  obtain ⟨h1, h2⟩ := h
  refine ⟨by rw [hs _ _ (by omega)]; exact h1, fun k hk => ?_⟩
  rw [hs _ _ (by omega), hs _ _ (by omega), hs _ _ (by omega), hs _ _ (by omega)]
  exact h2 k hk
theorem PlM.keep {s : kS} (h : PlM σ st sp tk sf ss) (hs : sK σ s) : PlM s st sp tk sf ss := h.agree (fun o k ho => hs o k (by unfold mSc; omega))
theorem mdIsTaken_ok {x : Int} {m : Nat} (hP : PlM σ st sp tk sf ss) (hO : plOk n c st li sp tk sf ss) (hm : m ≤ st) :
    wpF F_Md_isTaken [.inr (.inl 14), .inl x, .inl (m : Int)] σ (fun r s => s = σ ∧ ((tkn sp tk x m ∧ r = some (.inl 1)) ∨ (¬ tkn sp tk x m ∧ r = some (.inl 0)))) := by
  obtain ⟨p1, p2⟩ := hP
  obtain ⟨o1, o2, o3⟩ := hO
  unfold F_Md_isTaken
  rw [wpF_kF]
  refine ⟨rfl, rfl, ?_⟩
  unfold s_Md_isTaken
  simp only [List.map_cons, List.map_nil]
  refine wpS_seq' (fun Q1 hQ1 => ?_)
  unfold l_Md_isTaken_1
  refine wpS_fort (fun i P s => P = [some (.inr (.inl 14)), some (.inl x), some (.inl (m : Int))] ∧ s = σ ∧ ¬ tkn sp tk x i) 0 m rfl rfl ?_ ?_ ?_ ?_ ?_ ?_ ?_
  · simp only [wpS_skip, wpS_break, wpS_cont, wpS_retV, wpS_throw, wpS_seq, wpS_if, wpS_trunc, yS_let, yS_inc, kgK_i, kgK_r, kok_nil, kok_i0, kok_is, kok_r0, kok_rs, kok_n0, kok_ns, xS_put, xS_putOp, xS_ast0, xS_ast1, xS_astOp, wpS_E, wpS_call, wpS_callS, wpS_ret, kThen_N, kThen_B, kThen_C, kThen_R, kThen_T, kNext_N, kNext_C, kNext_B, kNext_R, wpE_K, wpE_KL, xE_I, xE_R, wpE_J, xE_bin, wpE_ladd, wpE_i2l, xE_get, xE_ald0, xE_ald1, wpE_if, xE_max, xE_min, wpE_len, wpA_nil, wpA_snoc, xE_call, xE_callS, xC_C, xC_L, xC_Z, wpC_and, wpC_or, wpC_not, wpC_if, kcmp_0, kcmp_1, kcmp_2, kcmp_3, kcmp_4, kcmp_5, rR_inj, kgO_some, kgO_add, kgO_sub, kgO_mul, kgO_div, kgO_rem, kgO_and, kvI_inl, kvJ_inl, kgI_0, kgI_s, kgR_0, kgR_s, kst_nil, kst_0, kst_s, kNLl_nil, kNLl_i, kNLl_r, kNLl_n, ktag_i, ktag_r, List.length_cons, List.length_nil, List.take_succ_cons, List.take_zero, List.take_nil, List.nil_append, List.cons_append, decide_eq_true_eq, Bool.not_eq_true, Bool.not_eq_true', decide_eq_false_iff_not, ne_eq, Decidable.not_not, true_and, and_true, Nat.reduceAdd, Nat.reduceLeDiff, Nat.reduceEqDiff, Nat.le_refl, not_true_eq_false, not_false_eq_true, reduceIte, eq_self, Int.reduceNeg, Int.reduceEq, Int.reduceLT, Int.reduceLE, Nat.zero_le, Nat.one_ne_zero]; trivial
  · omega
  · exact ⟨rfl, rfl, fun ⟨k, hk, _⟩ => absurd hk (by omega)⟩
  · rintro i P s ⟨rfl, -⟩; exact ⟨rfl, rfl⟩
  · rintro i P s - - ⟨rfl, hs, -⟩
    subst s
    simp only [wpS_skip, wpS_break, wpS_cont, wpS_retV, wpS_throw, wpS_seq, wpS_if, wpS_trunc, yS_let, yS_inc, kgK_i, kgK_r, kok_nil, kok_i0, kok_is, kok_r0, kok_rs, kok_n0, kok_ns, xS_put, xS_putOp, xS_ast0, xS_ast1, xS_astOp, wpS_E, wpS_call, wpS_callS, wpS_ret, kThen_N, kThen_B, kThen_C, kThen_R, kThen_T, kNext_N, kNext_C, kNext_B, kNext_R, wpE_K, wpE_KL, xE_I, xE_R, wpE_J, xE_bin, wpE_ladd, wpE_i2l, xE_get, xE_ald0, xE_ald1, wpE_if, xE_max, xE_min, wpE_len, wpA_nil, wpA_snoc, xE_call, xE_callS, xC_C, xC_L, xC_Z, wpC_and, wpC_or, wpC_not, wpC_if, kcmp_0, kcmp_1, kcmp_2, kcmp_3, kcmp_4, kcmp_5, rR_inj, kgO_some, kgO_add, kgO_sub, kgO_mul, kgO_div, kgO_rem, kgO_and, kvI_inl, kvJ_inl, kgI_0, kgI_s, kgR_0, kgR_s, kst_nil, kst_0, kst_s, kNLl_nil, kNLl_i, kNLl_r, kNLl_n, ktag_i, ktag_r, List.length_cons, List.length_nil, List.take_succ_cons, List.take_zero, List.take_nil, List.nil_append, List.cons_append, decide_eq_true_eq, Bool.not_eq_true, Bool.not_eq_true', decide_eq_false_iff_not, ne_eq, Decidable.not_not, true_and, and_true, Nat.reduceAdd, Nat.reduceLeDiff, Nat.reduceEqDiff, Nat.le_refl, not_true_eq_false, not_false_eq_true, reduceIte, eq_self, Int.reduceNeg, Int.reduceEq, Int.reduceLT, Int.reduceLE, Nat.zero_le, Nat.one_ne_zero]
  · rintro i P s - hi ⟨rfl, hs, hno⟩
    subst s
    obtain ⟨e81, -, e84⟩ := p2 i (by omega)
    have s81 := o2 i (by omega)
    refine wpS_gen (fun Q2 hQ2 => ?_)
    have hnx : ¬ (sp i = 0 ∧ tk i = x) → ¬ tkn sp tk x (i + 1) := by
      rintro h ⟨k, k1, k2, k3⟩
      by_cases e : k = i
      · subst e; exact h ⟨k2, k3⟩
      · exact hno ⟨k, by omega, k2, k3⟩
    by_cases q : sp i = 0
    · have e84' := e84 q
      by_cases q2 : tk i = x
      · simp only [wpS_skip, wpS_break, wpS_cont, wpS_retV, wpS_throw, wpS_seq, wpS_if, wpS_trunc, yS_let, yS_inc, kgK_i, kgK_r, kok_nil, kok_i0, kok_is, kok_r0, kok_rs, kok_n0, kok_ns, xS_put, xS_putOp, xS_ast0, xS_ast1, xS_astOp, wpS_E, wpS_call, wpS_callS, wpS_ret, kThen_N, kThen_B, kThen_C, kThen_R, kThen_T, kNext_N, kNext_C, kNext_B, kNext_R, wpE_K, wpE_KL, xE_I, xE_R, wpE_J, xE_bin, wpE_ladd, wpE_i2l, xE_get, xE_ald0, xE_ald1, wpE_if, xE_max, xE_min, wpE_len, wpA_nil, wpA_snoc, xE_call, xE_callS, xC_C, xC_L, xC_Z, wpC_and, wpC_or, wpC_not, wpC_if, kcmp_0, kcmp_1, kcmp_2, kcmp_3, kcmp_4, kcmp_5, rR_inj, kgO_some, kgO_add, kgO_sub, kgO_mul, kgO_div, kgO_rem, kgO_and, kvI_inl, kvJ_inl, kgI_0, kgI_s, kgR_0, kgR_s, kst_nil, kst_0, kst_s, kNLl_nil, kNLl_i, kNLl_r, kNLl_n, ktag_i, ktag_r, List.length_cons, List.length_nil, List.take_succ_cons, List.take_zero, List.take_nil, List.nil_append, List.cons_append, decide_eq_true_eq, Bool.not_eq_true, Bool.not_eq_true', decide_eq_false_iff_not, ne_eq, Decidable.not_not, true_and, and_true, Nat.reduceAdd, Nat.reduceLeDiff, Nat.reduceEqDiff, Nat.le_refl, not_true_eq_false, not_false_eq_true, reduceIte, eq_self, Int.reduceNeg, Int.reduceEq, Int.reduceLT, Int.reduceLE, Nat.zero_le, Nat.one_ne_zero, ev_model, ev_model_arr, Int.toNat_natCast, e81, q, e84', q2, decide_true, decide_false, Bool.false_eq_true, if_true, if_false, true_and, and_true, not_true_eq_false, not_false_eq_true]
        repeat refine And.intro (by omega) ?_
        rw [hQ2]
        refine kStep_R ?_
        rw [hQ1]
        exact kThen_R.mpr ⟨_, rfl, rfl, rfl, Or.inl ⟨⟨i, hi, q, q2⟩, rfl⟩⟩
      · simp only [wpS_skip, wpS_break, wpS_cont, wpS_retV, wpS_throw, wpS_seq, wpS_if, wpS_trunc, yS_let, yS_inc, kgK_i, kgK_r, kok_nil, kok_i0, kok_is, kok_r0, kok_rs, kok_n0, kok_ns, xS_put, xS_putOp, xS_ast0, xS_ast1, xS_astOp, wpS_E, wpS_call, wpS_callS, wpS_ret, kThen_N, kThen_B, kThen_C, kThen_R, kThen_T, kNext_N, kNext_C, kNext_B, kNext_R, wpE_K, wpE_KL, xE_I, xE_R, wpE_J, xE_bin, wpE_ladd, wpE_i2l, xE_get, xE_ald0, xE_ald1, wpE_if, xE_max, xE_min, wpE_len, wpA_nil, wpA_snoc, xE_call, xE_callS, xC_C, xC_L, xC_Z, wpC_and, wpC_or, wpC_not, wpC_if, kcmp_0, kcmp_1, kcmp_2, kcmp_3, kcmp_4, kcmp_5, rR_inj, kgO_some, kgO_add, kgO_sub, kgO_mul, kgO_div, kgO_rem, kgO_and, kvI_inl, kvJ_inl, kgI_0, kgI_s, kgR_0, kgR_s, kst_nil, kst_0, kst_s, kNLl_nil, kNLl_i, kNLl_r, kNLl_n, ktag_i, ktag_r, List.length_cons, List.length_nil, List.take_succ_cons, List.take_zero, List.take_nil, List.nil_append, List.cons_append, decide_eq_true_eq, Bool.not_eq_true, Bool.not_eq_true', decide_eq_false_iff_not, ne_eq, Decidable.not_not, true_and, and_true, Nat.reduceAdd, Nat.reduceLeDiff, Nat.reduceEqDiff, Nat.le_refl, not_true_eq_false, not_false_eq_true, reduceIte, eq_self, Int.reduceNeg, Int.reduceEq, Int.reduceLT, Int.reduceLE, Nat.zero_le, Nat.one_ne_zero, ev_model, ev_model_arr, Int.toNat_natCast, e81, q, e84', q2, decide_true, decide_false, Bool.false_eq_true, if_true, if_false, true_and, and_true, not_true_eq_false, not_false_eq_true]
        repeat refine And.intro (by omega) ?_
        rw [hQ2]
        exact kStep_N rfl ⟨rfl, rfl, hnx (fun h => q2 h.2)⟩
    · simp only [wpS_skip, wpS_break, wpS_cont, wpS_retV, wpS_throw, wpS_seq, wpS_if, wpS_trunc, yS_let, yS_inc, kgK_i, kgK_r, kok_nil, kok_i0, kok_is, kok_r0, kok_rs, kok_n0, kok_ns, xS_put, xS_putOp, xS_ast0, xS_ast1, xS_astOp, wpS_E, wpS_call, wpS_callS, wpS_ret, kThen_N, kThen_B, kThen_C, kThen_R, kThen_T, kNext_N, kNext_C, kNext_B, kNext_R, wpE_K, wpE_KL, xE_I, xE_R, wpE_J, xE_bin, wpE_ladd, wpE_i2l, xE_get, xE_ald0, xE_ald1, wpE_if, xE_max, xE_min, wpE_len, wpA_nil, wpA_snoc, xE_call, xE_callS, xC_C, xC_L, xC_Z, wpC_and, wpC_or, wpC_not, wpC_if, kcmp_0, kcmp_1, kcmp_2, kcmp_3, kcmp_4, kcmp_5, rR_inj, kgO_some, kgO_add, kgO_sub, kgO_mul, kgO_div, kgO_rem, kgO_and, kvI_inl, kvJ_inl, kgI_0, kgI_s, kgR_0, kgR_s, kst_nil, kst_0, kst_s, kNLl_nil, kNLl_i, kNLl_r, kNLl_n, ktag_i, ktag_r, List.length_cons, List.length_nil, List.take_succ_cons, List.take_zero, List.take_nil, List.nil_append, List.cons_append, decide_eq_true_eq, Bool.not_eq_true, Bool.not_eq_true', decide_eq_false_iff_not, ne_eq, Decidable.not_not, true_and, and_true, Nat.reduceAdd, Nat.reduceLeDiff, Nat.reduceEqDiff, Nat.le_refl, not_true_eq_false, not_false_eq_true, reduceIte, eq_self, Int.reduceNeg, Int.reduceEq, Int.reduceLT, Int.reduceLE, Nat.zero_le, Nat.one_ne_zero, ev_model, ev_model_arr, Int.toNat_natCast, e81, q, decide_true, decide_false, Bool.false_eq_true, if_true, if_false, true_and, and_true, not_true_eq_false, not_false_eq_true]
      repeat refine And.intro (by omega) ?_
      rw [hQ2]
      exact kStep_N rfl ⟨rfl, rfl, hnx (fun h => q h.1)⟩
  · rintro P s ⟨rfl, hs, hno⟩
    subst s
    rw [hQ1]
    refine kThen_N.mpr ?_
    refine wpS_gen (fun Q101 hQ101 => ?_)
    simp only [wpS_skip, wpS_break, wpS_cont, wpS_retV, wpS_throw, wpS_seq, wpS_if, wpS_trunc, yS_let, yS_inc, kgK_i, kgK_r, kok_nil, kok_i0, kok_is, kok_r0, kok_rs, kok_n0, kok_ns, xS_put, xS_putOp, xS_ast0, xS_ast1, xS_astOp, wpS_E, wpS_call, wpS_callS, wpS_ret, kThen_N, kThen_B, kThen_C, kThen_R, kThen_T, kNext_N, kNext_C, kNext_B, kNext_R, wpE_K, wpE_KL, xE_I, xE_R, wpE_J, xE_bin, wpE_ladd, wpE_i2l, xE_get, xE_ald0, xE_ald1, wpE_if, xE_max, xE_min, wpE_len, wpA_nil, wpA_snoc, xE_call, xE_callS, xC_C, xC_L, xC_Z, wpC_and, wpC_or, wpC_not, wpC_if, kcmp_0, kcmp_1, kcmp_2, kcmp_3, kcmp_4, kcmp_5, rR_inj, kgO_some, kgO_add, kgO_sub, kgO_mul, kgO_div, kgO_rem, kgO_and, kvI_inl, kvJ_inl, kgI_0, kgI_s, kgR_0, kgR_s, kst_nil, kst_0, kst_s, kNLl_nil, kNLl_i, kNLl_r, kNLl_n, ktag_i, ktag_r, List.length_cons, List.length_nil, List.take_succ_cons, List.take_zero, List.take_nil, List.nil_append, List.cons_append, decide_eq_true_eq, Bool.not_eq_true, Bool.not_eq_true', decide_eq_false_iff_not, ne_eq, Decidable.not_not, true_and, and_true, Nat.reduceAdd, Nat.reduceLeDiff, Nat.reduceEqDiff, Nat.le_refl, not_true_eq_false, not_false_eq_true, reduceIte, eq_self, Int.reduceNeg, Int.reduceEq, Int.reduceLT, Int.reduceLE, Nat.zero_le, Nat.one_ne_zero]
    repeat refine And.intro (by omega) ?_
    rw [hQ101]
    clear hQ101 Q101
    exact ⟨_, rfl, rfl, rfl, Or.inr ⟨hno, rfl⟩⟩
/-- the pairs noted -/
def prE (P : Nat) (pf ps : Nat → Nat) (u w : Nat) : Prop := ∃ k, k < P ∧ pf k = u ∧ ps k = w
/-- sides of v's part -/
def colA (A : Nat → Nat → Prop) (v : Nat) (f : Nat → Nat) : Prop := ∀ a b, A a b → rch (jE A) v a → (f a + f b) % 2 = 1
def spJ (σ s : kS) (n : Nat) (A : Nat → Nat → Prop) (v : Nat) : Prop :=
  (∀ o k, o ≠ 107 → o ≠ 88 → s o k = σ o k) ∧ (∀ u, s 107 u = σ 107 u ∨ (σ 107 u = -1 ∧ s 107 u = (v : Int))) ∧ s 107 v = (v : Int) ∧
  (∀ u, u < n → s 107 u = (v : Int) → rch (jE A) v u ∧ (s 88 u = 0 ∨ s 88 u = 1)) ∧ ∀ f, colA A v f → ∀ u, u < n → s 107 u = (v : Int) → (((f u + f v) % 2 : Nat) : Int) = s 88 u
theorem spJ.step {s : kS} {A : Nat → Nat → Prop} {v a b : Nat} (h : spJ σ s n A v) (hv : v < n) (ha : a < n) (hb : b < n) (hA : jE A a b) (h1 : s 107 a = (v : Int)) (h2 : s 107 b = -1) :
    spJ σ (kup (kup s 107 b v) 88 b (1 - s 88 a)) n A v ∧ cntP (fun u => kup (kup s 107 b v) 88 b (1 - s 88 a) 107 u = -1) n < cntP (fun u => s 107 u = -1) n := by
  obtain ⟨j1, j2, j3, j4, j5⟩ := h
  obtain ⟨r1, r2⟩ := j4 a ha h1
  have hbv : b ≠ v := fun q => by rw [q, j3] at h2; omega
  have g107 : ∀ u, kup (kup s 107 b v) 88 b (1 - s 88 a) 107 u = if u = b then (v : Int) else s 107 u := fun u => by rw [kup_ne (by decide), kup_eq]
  have g88 : ∀ u, kup (kup s 107 b v) 88 b (1 - s 88 a) 88 u = if u = b then 1 - s 88 a else s 88 u := fun u => by rw [kup_eq, kup_ne (by decide)]
  refine ⟨⟨fun o k h1 h2 => by rw [kup_ne h2, kup_ne h1]; exact j1 o k h1 h2, fun u => ?_, ?_, fun u hu hg => ?_, fun f hf u hu hg => ?_⟩, ?_⟩
  · rw [g107]
    split
    · rename_i e
      subst e
      rcases j2 u with q | q
      · exact Or.inr ⟨by rw [← q]; exact h2, rfl⟩
      · omega
    · exact j2 u
  · rw [g107, if_neg (fun q => hbv q.symm)]; exact j3
  · rw [g107] at hg
    rw [g88]
    by_cases e : u = b
    · subst e
      rw [if_pos rfl]
      exact ⟨r1.snoc hA, by omega⟩
    · rw [if_neg e] at hg ⊢
      exact j4 u hu hg
  · rw [g107] at hg
    rw [g88]
    by_cases e : u = b
    · subst e
      rw [if_pos rfl]
      have t1 := j5 f hf a ha h1
      have t2 : (f a + f u) % 2 = 1 := by
        rcases hA with q | q
        · exact hf _ _ q r1
        · have := hf _ _ q (r1.snoc (Or.inr q)); omega
      omega
    · rw [if_neg e] at hg ⊢
      exact j5 f hf u hu hg
  · have e : cntP (fun u => s 107 u = -1) n = cntP (fun u => kup (kup s 107 b v) 88 b (1 - s 88 a) 107 u = -1 ∨ u = b) n := cntP_congr (fun u _ => by
      rw [g107]
      by_cases e : u = b
      · subst e; rw [if_pos rfl]; exact ⟨fun _ => Or.inr rfl, fun _ => h2⟩
      · rw [if_neg e]; exact ⟨Or.inl, fun q => q.resolve_right e⟩)
    rw [e, cntP_insert hb (by rw [g107, if_pos rfl]; omega)]
    omega
theorem mdSpread_ok {v P : Nat} {pf ps : Nat → Nat} {A : Nat → Nat → Prop} (hn3 : n ≤ 300) (hP : P ≤ 960) (h44 : σ 14 44 = (P : Int)) (hv : v < n) (hp : ∀ k, k < P → σ 105 k = (pf k : Int) ∧ σ 106 k = (ps k : Int) ∧ pf k < n ∧ ps k < n) (hA : A = prE P pf ps)
    (hvn : σ 107 v = -1) (hno : ∀ u, u < n → σ 107 u ≠ (v : Int)) (hcl : ∀ k, k < P → (σ 107 (pf k) = -1 ↔ σ 107 (ps k) = -1)) :
    wpF F_Md_spread [.inr (.inl 14), .inl (v : Int)] σ (fun r s => r = none ∧ (∀ o k, o ≠ 107 → o ≠ 88 → (o ≠ 109 ∨ k ≠ v) → s o k = σ o k) ∧
      (∀ u, u < n → (rch (jE A) v u ∧ s 107 u = (v : Int)) ∨ (¬ rch (jE A) v u ∧ s 107 u = σ 107 u)) ∧ ((s 109 v = 1 ∧ ¬ ∃ f, colA A v f) ∨ (s 109 v = σ 109 v ∧ ∃ f, colA A v f))) := by
  have hAk : ∀ k, k < P → A (pf k) (ps k) := fun k hk => by rw [hA]; exact ⟨k, hk, rfl, rfl⟩
  unfold F_Md_spread
  rw [wpF_kF]
  refine ⟨rfl, rfl, ?_⟩
  unfold s_Md_spread
  simp only [List.map_cons, List.map_nil]
  refine wpS_seq' (fun Q0 hQ0 => ?_)
  refine wpS_seq' (fun Q102 hQ102 => ?_)
  simp only [wpS_skip, wpS_break, wpS_cont, wpS_retV, wpS_throw, wpS_seq, wpS_if, wpS_trunc, yS_let, yS_inc, kgK_i, kgK_r, kok_nil, kok_i0, kok_is, kok_r0, kok_rs, kok_n0, kok_ns, xS_put, xS_putOp, xS_ast0, xS_ast1, xS_astOp, wpS_E, wpS_call, wpS_callS, wpS_ret, kThen_N, kThen_B, kThen_C, kThen_R, kThen_T, kNext_N, kNext_C, kNext_B, kNext_R, wpE_K, wpE_KL, xE_I, xE_R, wpE_J, xE_bin, wpE_ladd, wpE_i2l, xE_get, xE_ald0, xE_ald1, wpE_if, xE_max, xE_min, wpE_len, wpA_nil, wpA_snoc, xE_call, xE_callS, xC_C, xC_L, xC_Z, wpC_and, wpC_or, wpC_not, wpC_if, kcmp_0, kcmp_1, kcmp_2, kcmp_3, kcmp_4, kcmp_5, rR_inj, kgO_some, kgO_add, kgO_sub, kgO_mul, kgO_div, kgO_rem, kgO_and, kvI_inl, kvJ_inl, kgI_0, kgI_s, kgR_0, kgR_s, kst_nil, kst_0, kst_s, kNLl_nil, kNLl_i, kNLl_r, kNLl_n, ktag_i, ktag_r, List.length_cons, List.length_nil, List.take_succ_cons, List.take_zero, List.take_nil, List.nil_append, List.cons_append, decide_eq_true_eq, Bool.not_eq_true, Bool.not_eq_true', decide_eq_false_iff_not, ne_eq, Decidable.not_not, true_and, and_true, Nat.reduceAdd, Nat.reduceLeDiff, Nat.reduceEqDiff, Nat.le_refl, not_true_eq_false, not_false_eq_true, reduceIte, eq_self, Int.reduceNeg, Int.reduceEq, Int.reduceLT, Int.reduceLE, Nat.zero_le, Nat.one_ne_zero, ev_model, ev_model_arr, Int.toNat_natCast]
  repeat refine And.intro (by omega) ?_
  rw [hQ102]
  clear hQ102 Q102
  refine kThen_N.mpr ?_
  refine wpS_seq' (fun Q103 hQ103 => ?_)
  simp only [wpS_skip, wpS_break, wpS_cont, wpS_retV, wpS_throw, wpS_seq, wpS_if, wpS_trunc, yS_let, yS_inc, kgK_i, kgK_r, kok_nil, kok_i0, kok_is, kok_r0, kok_rs, kok_n0, kok_ns, xS_put, xS_putOp, xS_ast0, xS_ast1, xS_astOp, wpS_E, wpS_call, wpS_callS, wpS_ret, kThen_N, kThen_B, kThen_C, kThen_R, kThen_T, kNext_N, kNext_C, kNext_B, kNext_R, wpE_K, wpE_KL, xE_I, xE_R, wpE_J, xE_bin, wpE_ladd, wpE_i2l, xE_get, xE_ald0, xE_ald1, wpE_if, xE_max, xE_min, wpE_len, wpA_nil, wpA_snoc, xE_call, xE_callS, xC_C, xC_L, xC_Z, wpC_and, wpC_or, wpC_not, wpC_if, kcmp_0, kcmp_1, kcmp_2, kcmp_3, kcmp_4, kcmp_5, rR_inj, kgO_some, kgO_add, kgO_sub, kgO_mul, kgO_div, kgO_rem, kgO_and, kvI_inl, kvJ_inl, kgI_0, kgI_s, kgR_0, kgR_s, kst_nil, kst_0, kst_s, kNLl_nil, kNLl_i, kNLl_r, kNLl_n, ktag_i, ktag_r, List.length_cons, List.length_nil, List.take_succ_cons, List.take_zero, List.take_nil, List.nil_append, List.cons_append, decide_eq_true_eq, Bool.not_eq_true, Bool.not_eq_true', decide_eq_false_iff_not, ne_eq, Decidable.not_not, true_and, and_true, Nat.reduceAdd, Nat.reduceLeDiff, Nat.reduceEqDiff, Nat.le_refl, not_true_eq_false, not_false_eq_true, reduceIte, eq_self, Int.reduceNeg, Int.reduceEq, Int.reduceLT, Int.reduceLE, Nat.zero_le, Nat.one_ne_zero, ev_model, ev_model_arr, Int.toNat_natCast]
  repeat refine And.intro (by omega) ?_
  rw [hQ103]
  clear hQ103 Q103
  refine kThen_N.mpr ?_
  refine wpS_seq' (fun Q104 hQ104 => ?_)
  simp only [wpS_skip, wpS_break, wpS_cont, wpS_retV, wpS_throw, wpS_seq, wpS_if, wpS_trunc, yS_let, yS_inc, kgK_i, kgK_r, kok_nil, kok_i0, kok_is, kok_r0, kok_rs, kok_n0, kok_ns, xS_put, xS_putOp, xS_ast0, xS_ast1, xS_astOp, wpS_E, wpS_call, wpS_callS, wpS_ret, kThen_N, kThen_B, kThen_C, kThen_R, kThen_T, kNext_N, kNext_C, kNext_B, kNext_R, wpE_K, wpE_KL, xE_I, xE_R, wpE_J, xE_bin, wpE_ladd, wpE_i2l, xE_get, xE_ald0, xE_ald1, wpE_if, xE_max, xE_min, wpE_len, wpA_nil, wpA_snoc, xE_call, xE_callS, xC_C, xC_L, xC_Z, wpC_and, wpC_or, wpC_not, wpC_if, kcmp_0, kcmp_1, kcmp_2, kcmp_3, kcmp_4, kcmp_5, rR_inj, kgO_some, kgO_add, kgO_sub, kgO_mul, kgO_div, kgO_rem, kgO_and, kvI_inl, kvJ_inl, kgI_0, kgI_s, kgR_0, kgR_s, kst_nil, kst_0, kst_s, kNLl_nil, kNLl_i, kNLl_r, kNLl_n, ktag_i, ktag_r, List.length_cons, List.length_nil, List.take_succ_cons, List.take_zero, List.take_nil, List.nil_append, List.cons_append, decide_eq_true_eq, Bool.not_eq_true, Bool.not_eq_true', decide_eq_false_iff_not, ne_eq, Decidable.not_not, true_and, and_true, Nat.reduceAdd, Nat.reduceLeDiff, Nat.reduceEqDiff, Nat.le_refl, not_true_eq_false, not_false_eq_true, reduceIte, eq_self, Int.reduceNeg, Int.reduceEq, Int.reduceLT, Int.reduceLE, Nat.zero_le, Nat.one_ne_zero]
  repeat refine And.intro (by omega) ?_
  rw [hQ104]
  clear hQ104 Q104
  refine kThen_N.mpr ?_
  obtain ⟨s0, hs0⟩ : ∃ s0, s0 = kup (kup σ 107 v v) 88 v 0 := ⟨_, rfl⟩
  rw [← hs0]
  have J0 : spJ σ s0 n A v := by
    have g107 : ∀ u, s0 107 u = if u = v then (v : Int) else σ 107 u := fun u => by rw [hs0, kup_ne (by decide), kup_eq]
    have hz : s0 88 v = 0 := by rw [hs0, kup_eq, if_pos rfl]
    have huv : ∀ u, u < n → s0 107 u = (v : Int) → u = v := fun u hu hg => by
      rw [g107] at hg
      by_cases e : u = v
      · exact e
      · rw [if_neg e] at hg
        exact absurd hg (hno u hu)
    refine ⟨fun o k h1 h2 => by rw [hs0, kup_ne h2, kup_ne h1], fun u => ?_, by rw [g107, if_pos rfl], fun u hu hg => ?_, fun f hf u hu hg => ?_⟩
    · rw [g107]
      split
      · rename_i e; subst e; exact Or.inr ⟨hvn, rfl⟩
      · exact Or.inl rfl
    · have := huv u hu hg
      subst this
      exact ⟨rch.rfl' _, Or.inl hz⟩
    · have := huv u hu hg
      subst this
      rw [hz]; omega
  refine wpS_seq' (fun Q1 hQ1 => ?_)
  unfold l_Md_spread_2
  refine wpS_for (fun m L s => ∃ mo : Int, L = [some (.inr (.inl 14)), some (.inl (v : Int)), some (.inl mo)] ∧ spJ σ s n A v ∧ ((mo = 1 ∧ m = 2 * cntP (fun u => s 107 u = -1) n + 1) ∨ (mo = 0 ∧ m = 2 * cntP (fun u => s 107 u = -1) n ∧ ∀ k, k < P → ¬ (s 107 (pf k) = (v : Int) ∧ s 107 (ps k) = -1) ∧ ¬ (s 107 (ps k) = (v : Int) ∧ s 107 (pf k) = -1)))) ?_ (2 * cntP (fun u => s0 107 u = -1) n + 1) _ _ ⟨1, rfl, J0, Or.inl ⟨rfl, rfl⟩⟩
  rintro m L s ⟨mo, rfl, hJ, hmo⟩
  refine wpC_gen (fun Q2 hQ2 => ?_)
  rcases hmo with ⟨rfl, rfl⟩ | ⟨rfl, rfl, hclo⟩
  · simp only [wpS_skip, wpS_break, wpS_cont, wpS_retV, wpS_throw, wpS_seq, wpS_if, wpS_trunc, yS_let, yS_inc, kgK_i, kgK_r, kok_nil, kok_i0, kok_is, kok_r0, kok_rs, kok_n0, kok_ns, xS_put, xS_putOp, xS_ast0, xS_ast1, xS_astOp, wpS_E, wpS_call, wpS_callS, wpS_ret, kThen_N, kThen_B, kThen_C, kThen_R, kThen_T, kNext_N, kNext_C, kNext_B, kNext_R, wpE_K, wpE_KL, xE_I, xE_R, wpE_J, xE_bin, wpE_ladd, wpE_i2l, xE_get, xE_ald0, xE_ald1, wpE_if, xE_max, xE_min, wpE_len, wpA_nil, wpA_snoc, xE_call, xE_callS, xC_C, xC_L, xC_Z, wpC_and, wpC_or, wpC_not, wpC_if, kcmp_0, kcmp_1, kcmp_2, kcmp_3, kcmp_4, kcmp_5, rR_inj, kgO_some, kgO_add, kgO_sub, kgO_mul, kgO_div, kgO_rem, kgO_and, kvI_inl, kvJ_inl, kgI_0, kgI_s, kgR_0, kgR_s, kst_nil, kst_0, kst_s, kNLl_nil, kNLl_i, kNLl_r, kNLl_n, ktag_i, ktag_r, List.length_cons, List.length_nil, List.take_succ_cons, List.take_zero, List.take_nil, List.nil_append, List.cons_append, decide_eq_true_eq, Bool.not_eq_true, Bool.not_eq_true', decide_eq_false_iff_not, ne_eq, Decidable.not_not, true_and, and_true, Nat.reduceAdd, Nat.reduceLeDiff, Nat.reduceEqDiff, Nat.le_refl, not_true_eq_false, not_false_eq_true, reduceIte, eq_self, Int.reduceNeg, Int.reduceEq, Int.reduceLT, Int.reduceLE, Nat.zero_le, Nat.one_ne_zero, decide_true, decide_false, Bool.false_eq_true, if_true, if_false, true_and, and_true, not_true_eq_false, not_false_eq_true]
    rw [hQ2]
    show ite (true = true) _ _
    rw [if_pos rfl]
    clear hQ2 Q2
    refine wpS_seq' (fun Q105 hQ105 => ?_)
    simp only [wpS_skip, wpS_break, wpS_cont, wpS_retV, wpS_throw, wpS_seq, wpS_if, wpS_trunc, yS_let, yS_inc, kgK_i, kgK_r, kok_nil, kok_i0, kok_is, kok_r0, kok_rs, kok_n0, kok_ns, xS_put, xS_putOp, xS_ast0, xS_ast1, xS_astOp, wpS_E, wpS_call, wpS_callS, wpS_ret, kThen_N, kThen_B, kThen_C, kThen_R, kThen_T, kNext_N, kNext_C, kNext_B, kNext_R, wpE_K, wpE_KL, xE_I, xE_R, wpE_J, xE_bin, wpE_ladd, wpE_i2l, xE_get, xE_ald0, xE_ald1, wpE_if, xE_max, xE_min, wpE_len, wpA_nil, wpA_snoc, xE_call, xE_callS, xC_C, xC_L, xC_Z, wpC_and, wpC_or, wpC_not, wpC_if, kcmp_0, kcmp_1, kcmp_2, kcmp_3, kcmp_4, kcmp_5, rR_inj, kgO_some, kgO_add, kgO_sub, kgO_mul, kgO_div, kgO_rem, kgO_and, kvI_inl, kvJ_inl, kgI_0, kgI_s, kgR_0, kgR_s, kst_nil, kst_0, kst_s, kNLl_nil, kNLl_i, kNLl_r, kNLl_n, ktag_i, ktag_r, List.length_cons, List.length_nil, List.take_succ_cons, List.take_zero, List.take_nil, List.nil_append, List.cons_append, decide_eq_true_eq, Bool.not_eq_true, Bool.not_eq_true', decide_eq_false_iff_not, ne_eq, Decidable.not_not, true_and, and_true, Nat.reduceAdd, Nat.reduceLeDiff, Nat.reduceEqDiff, Nat.le_refl, not_true_eq_false, not_false_eq_true, reduceIte, eq_self, Int.reduceNeg, Int.reduceEq, Int.reduceLT, Int.reduceLE, Nat.zero_le, Nat.one_ne_zero]
    repeat refine And.intro (by omega) ?_
    rw [hQ105]
    clear hQ105 Q105
    refine kThen_N.mpr ?_
    refine wpS_gen (fun Q3 hQ3 => ?_)
    unfold l_Md_spread_1
    refine wpS_fort (fun i L s' => ∃ mo : Int, L = [some (.inr (.inl 14)), some (.inl (v : Int)), some (.inl mo)] ∧ spJ σ s' n A v ∧ ((mo = 1 ∧ cntP (fun u => s' 107 u = -1) n < cntP (fun u => s 107 u = -1) n) ∨ (mo = 0 ∧ s' = s ∧ ∀ k, k < i → ¬ (s 107 (pf k) = (v : Int) ∧ s 107 (ps k) = -1) ∧ ¬ (s 107 (ps k) = (v : Int) ∧ s 107 (pf k) = -1)))) 0 P rfl rfl ?_ ?_ ?_ ?_ ?_ ?_ ?_
    · simp only [wpS_skip, wpS_break, wpS_cont, wpS_retV, wpS_throw, wpS_seq, wpS_if, wpS_trunc, yS_let, yS_inc, kgK_i, kgK_r, kok_nil, kok_i0, kok_is, kok_r0, kok_rs, kok_n0, kok_ns, xS_put, xS_putOp, xS_ast0, xS_ast1, xS_astOp, wpS_E, wpS_call, wpS_callS, wpS_ret, kThen_N, kThen_B, kThen_C, kThen_R, kThen_T, kNext_N, kNext_C, kNext_B, kNext_R, wpE_K, wpE_KL, xE_I, xE_R, wpE_J, xE_bin, wpE_ladd, wpE_i2l, xE_get, xE_ald0, xE_ald1, wpE_if, xE_max, xE_min, wpE_len, wpA_nil, wpA_snoc, xE_call, xE_callS, xC_C, xC_L, xC_Z, wpC_and, wpC_or, wpC_not, wpC_if, kcmp_0, kcmp_1, kcmp_2, kcmp_3, kcmp_4, kcmp_5, rR_inj, kgO_some, kgO_add, kgO_sub, kgO_mul, kgO_div, kgO_rem, kgO_and, kvI_inl, kvJ_inl, kgI_0, kgI_s, kgR_0, kgR_s, kst_nil, kst_0, kst_s, kNLl_nil, kNLl_i, kNLl_r, kNLl_n, ktag_i, ktag_r, List.length_cons, List.length_nil, List.take_succ_cons, List.take_zero, List.take_nil, List.nil_append, List.cons_append, decide_eq_true_eq, Bool.not_eq_true, Bool.not_eq_true', decide_eq_false_iff_not, ne_eq, Decidable.not_not, true_and, and_true, Nat.reduceAdd, Nat.reduceLeDiff, Nat.reduceEqDiff, Nat.le_refl, not_true_eq_false, not_false_eq_true, reduceIte, eq_self, Int.reduceNeg, Int.reduceEq, Int.reduceLT, Int.reduceLE, Nat.zero_le, Nat.one_ne_zero]; trivial
    · omega
    · exact ⟨0, rfl, hJ, Or.inr ⟨rfl, rfl, fun k hk => absurd hk (by omega)⟩⟩
    · rintro i L s' ⟨mo, rfl, -⟩; exact ⟨rfl, rfl⟩
    · rintro i L s' - - ⟨mo, rfl, hJ', -⟩
      have e44 : s' 14 44 = (P : Int) := by rw [hJ'.1 _ _ (by decide) (by decide)]; exact h44
      simp only [wpS_skip, wpS_break, wpS_cont, wpS_retV, wpS_throw, wpS_seq, wpS_if, wpS_trunc, yS_let, yS_inc, kgK_i, kgK_r, kok_nil, kok_i0, kok_is, kok_r0, kok_rs, kok_n0, kok_ns, xS_put, xS_putOp, xS_ast0, xS_ast1, xS_astOp, wpS_E, wpS_call, wpS_callS, wpS_ret, kThen_N, kThen_B, kThen_C, kThen_R, kThen_T, kNext_N, kNext_C, kNext_B, kNext_R, wpE_K, wpE_KL, xE_I, xE_R, wpE_J, xE_bin, wpE_ladd, wpE_i2l, xE_get, xE_ald0, xE_ald1, wpE_if, xE_max, xE_min, wpE_len, wpA_nil, wpA_snoc, xE_call, xE_callS, xC_C, xC_L, xC_Z, wpC_and, wpC_or, wpC_not, wpC_if, kcmp_0, kcmp_1, kcmp_2, kcmp_3, kcmp_4, kcmp_5, rR_inj, kgO_some, kgO_add, kgO_sub, kgO_mul, kgO_div, kgO_rem, kgO_and, kvI_inl, kvJ_inl, kgI_0, kgI_s, kgR_0, kgR_s, kst_nil, kst_0, kst_s, kNLl_nil, kNLl_i, kNLl_r, kNLl_n, ktag_i, ktag_r, List.length_cons, List.length_nil, List.take_succ_cons, List.take_zero, List.take_nil, List.nil_append, List.cons_append, decide_eq_true_eq, Bool.not_eq_true, Bool.not_eq_true', decide_eq_false_iff_not, ne_eq, Decidable.not_not, true_and, and_true, Nat.reduceAdd, Nat.reduceLeDiff, Nat.reduceEqDiff, Nat.le_refl, not_true_eq_false, not_false_eq_true, reduceIte, eq_self, Int.reduceNeg, Int.reduceEq, Int.reduceLT, Int.reduceLE, Nat.zero_le, Nat.one_ne_zero, ev_model, e44]
    · rintro i L s' - hi ⟨mo, rfl, hJ', hmo'⟩
      obtain ⟨p1, p2, p3, p4⟩ := hp i hi
      have e105 : s' 105 i = (pf i : Int) := by rw [hJ'.1 _ _ (by decide) (by decide)]; exact p1
      have e106 : s' 106 i = (ps i : Int) := by rw [hJ'.1 _ _ (by decide) (by decide)]; exact p2
      refine wpS_gen (fun Q4 hQ4 => ?_)
      by_cases qA : s' 107 (pf i) = (v : Int) ∧ s' 107 (ps i) = -1
      · obtain ⟨qa, qb⟩ := qA
        have r88 := (hJ'.2.2.2.1 _ p3 qa).2
        obtain ⟨g1, g2⟩ := hJ'.step hv p3 p4 (Or.inl (hAk i hi)) qa qb
        simp only [wpS_skip, wpS_break, wpS_cont, wpS_retV, wpS_throw, wpS_seq, wpS_if, wpS_trunc, yS_let, yS_inc, kgK_i, kgK_r, kok_nil, kok_i0, kok_is, kok_r0, kok_rs, kok_n0, kok_ns, xS_put, xS_putOp, xS_ast0, xS_ast1, xS_astOp, wpS_E, wpS_call, wpS_callS, wpS_ret, kThen_N, kThen_B, kThen_C, kThen_R, kThen_T, kNext_N, kNext_C, kNext_B, kNext_R, wpE_K, wpE_KL, xE_I, xE_R, wpE_J, xE_bin, wpE_ladd, wpE_i2l, xE_get, xE_ald0, xE_ald1, wpE_if, xE_max, xE_min, wpE_len, wpA_nil, wpA_snoc, xE_call, xE_callS, xC_C, xC_L, xC_Z, wpC_and, wpC_or, wpC_not, wpC_if, kcmp_0, kcmp_1, kcmp_2, kcmp_3, kcmp_4, kcmp_5, rR_inj, kgO_some, kgO_add, kgO_sub, kgO_mul, kgO_div, kgO_rem, kgO_and, kvI_inl, kvJ_inl, kgI_0, kgI_s, kgR_0, kgR_s, kst_nil, kst_0, kst_s, kNLl_nil, kNLl_i, kNLl_r, kNLl_n, ktag_i, ktag_r, List.length_cons, List.length_nil, List.take_succ_cons, List.take_zero, List.take_nil, List.nil_append, List.cons_append, decide_eq_true_eq, Bool.not_eq_true, Bool.not_eq_true', decide_eq_false_iff_not, ne_eq, Decidable.not_not, true_and, and_true, Nat.reduceAdd, Nat.reduceLeDiff, Nat.reduceEqDiff, Nat.le_refl, not_true_eq_false, not_false_eq_true, reduceIte, eq_self, Int.reduceNeg, Int.reduceEq, Int.reduceLT, Int.reduceLE, Nat.zero_le, Nat.one_ne_zero, ev_model, ev_model_arr, Int.toNat_natCast, e105, e106, qa, qb, kup_ne, Nat.reduceEqDiff, decide_true, decide_false, Bool.false_eq_true, if_true, if_false, true_and, and_true, not_true_eq_false, not_false_eq_true]
        repeat refine And.intro (by omega) ?_
        rw [hQ4]
        refine kStep_N (P := [some (.inr (.inl 14)), some (.inl (v : Int)), some (.inl 1)]) rfl ⟨1, rfl, g1, Or.inl ⟨rfl, ?_⟩⟩
        rcases hmo' with ⟨-, t⟩ | ⟨-, t, -⟩
        · omega
        · rw [t] at g2 ⊢; exact g2
      · by_cases qB : s' 107 (ps i) = (v : Int) ∧ s' 107 (pf i) = -1
        · obtain ⟨qa, qb⟩ := qB
          have r88 := (hJ'.2.2.2.1 _ p4 qa).2
          obtain ⟨g1, g2⟩ := hJ'.step hv p4 p3 (Or.inr (hAk i hi)) qa qb
          have qc : ¬ (-1 = (v : Int)) := by omega
          simp only [wpS_skip, wpS_break, wpS_cont, wpS_retV, wpS_throw, wpS_seq, wpS_if, wpS_trunc, yS_let, yS_inc, kgK_i, kgK_r, kok_nil, kok_i0, kok_is, kok_r0, kok_rs, kok_n0, kok_ns, xS_put, xS_putOp, xS_ast0, xS_ast1, xS_astOp, wpS_E, wpS_call, wpS_callS, wpS_ret, kThen_N, kThen_B, kThen_C, kThen_R, kThen_T, kNext_N, kNext_C, kNext_B, kNext_R, wpE_K, wpE_KL, xE_I, xE_R, wpE_J, xE_bin, wpE_ladd, wpE_i2l, xE_get, xE_ald0, xE_ald1, wpE_if, xE_max, xE_min, wpE_len, wpA_nil, wpA_snoc, xE_call, xE_callS, xC_C, xC_L, xC_Z, wpC_and, wpC_or, wpC_not, wpC_if, kcmp_0, kcmp_1, kcmp_2, kcmp_3, kcmp_4, kcmp_5, rR_inj, kgO_some, kgO_add, kgO_sub, kgO_mul, kgO_div, kgO_rem, kgO_and, kvI_inl, kvJ_inl, kgI_0, kgI_s, kgR_0, kgR_s, kst_nil, kst_0, kst_s, kNLl_nil, kNLl_i, kNLl_r, kNLl_n, ktag_i, ktag_r, List.length_cons, List.length_nil, List.take_succ_cons, List.take_zero, List.take_nil, List.nil_append, List.cons_append, decide_eq_true_eq, Bool.not_eq_true, Bool.not_eq_true', decide_eq_false_iff_not, ne_eq, Decidable.not_not, true_and, and_true, Nat.reduceAdd, Nat.reduceLeDiff, Nat.reduceEqDiff, Nat.le_refl, not_true_eq_false, not_false_eq_true, reduceIte, eq_self, Int.reduceNeg, Int.reduceEq, Int.reduceLT, Int.reduceLE, Nat.zero_le, Nat.one_ne_zero, ev_model, ev_model_arr, Int.toNat_natCast, e105, e106, qa, qb, qc, kup_ne, Nat.reduceEqDiff, decide_true, decide_false, Bool.false_eq_true, if_true, if_false, true_and, and_true, not_true_eq_false, not_false_eq_true]
          repeat refine And.intro (by omega) ?_
          rw [hQ4]
          refine kStep_N (P := [some (.inr (.inl 14)), some (.inl (v : Int)), some (.inl 1)]) rfl ⟨1, rfl, g1, Or.inl ⟨rfl, ?_⟩⟩
          rcases hmo' with ⟨-, t⟩ | ⟨-, t, -⟩
          · omega
          · rw [t] at g2 ⊢; exact g2
        · have skip : Q4 rN [some (Sum.inr (Sum.inl 14)), some (Sum.inl (v : Int)), some (Sum.inl mo), some (Sum.inl (i : Int))] s' := by
            rw [hQ4]
            refine kStep_N (P := [some (.inr (.inl 14)), some (.inl (v : Int)), some (.inl mo)]) rfl ⟨mo, rfl, hJ', ?_⟩
            refine hmo'.imp id (fun ⟨t1, t2, t3⟩ => ⟨t1, t2, fun k hk => ?_⟩)
            by_cases e : k = i
            · subst e; rw [t2] at qA qB; exact ⟨qA, qB⟩
            · exact t3 k (by omega)
          have qn : ¬ ((v : Int) = -1) := by omega
          by_cases z1 : s' 107 (pf i) = (v : Int)
          · have z2 : ¬ s' 107 (ps i) = -1 := fun h => qA ⟨z1, h⟩
            by_cases z3 : s' 107 (ps i) = (v : Int)
            · simp only [wpS_skip, wpS_break, wpS_cont, wpS_retV, wpS_throw, wpS_seq, wpS_if, wpS_trunc, yS_let, yS_inc, kgK_i, kgK_r, kok_nil, kok_i0, kok_is, kok_r0, kok_rs, kok_n0, kok_ns, xS_put, xS_putOp, xS_ast0, xS_ast1, xS_astOp, wpS_E, wpS_call, wpS_callS, wpS_ret, kThen_N, kThen_B, kThen_C, kThen_R, kThen_T, kNext_N, kNext_C, kNext_B, kNext_R, wpE_K, wpE_KL, xE_I, xE_R, wpE_J, xE_bin, wpE_ladd, wpE_i2l, xE_get, xE_ald0, xE_ald1, wpE_if, xE_max, xE_min, wpE_len, wpA_nil, wpA_snoc, xE_call, xE_callS, xC_C, xC_L, xC_Z, wpC_and, wpC_or, wpC_not, wpC_if, kcmp_0, kcmp_1, kcmp_2, kcmp_3, kcmp_4, kcmp_5, rR_inj, kgO_some, kgO_add, kgO_sub, kgO_mul, kgO_div, kgO_rem, kgO_and, kvI_inl, kvJ_inl, kgI_0, kgI_s, kgR_0, kgR_s, kst_nil, kst_0, kst_s, kNLl_nil, kNLl_i, kNLl_r, kNLl_n, ktag_i, ktag_r, List.length_cons, List.length_nil, List.take_succ_cons, List.take_zero, List.take_nil, List.nil_append, List.cons_append, decide_eq_true_eq, Bool.not_eq_true, Bool.not_eq_true', decide_eq_false_iff_not, ne_eq, Decidable.not_not, true_and, and_true, Nat.reduceAdd, Nat.reduceLeDiff, Nat.reduceEqDiff, Nat.le_refl, not_true_eq_false, not_false_eq_true, reduceIte, eq_self, Int.reduceNeg, Int.reduceEq, Int.reduceLT, Int.reduceLE, Nat.zero_le, Nat.one_ne_zero, ev_model, ev_model_arr, Int.toNat_natCast, e105, e106, z1, z3, qn, decide_true, decide_false, Bool.false_eq_true, if_true, if_false, true_and, and_true, not_true_eq_false, not_false_eq_true]
              repeat refine And.intro (by omega) ?_
              exact skip
            · simp only [wpS_skip, wpS_break, wpS_cont, wpS_retV, wpS_throw, wpS_seq, wpS_if, wpS_trunc, yS_let, yS_inc, kgK_i, kgK_r, kok_nil, kok_i0, kok_is, kok_r0, kok_rs, kok_n0, kok_ns, xS_put, xS_putOp, xS_ast0, xS_ast1, xS_astOp, wpS_E, wpS_call, wpS_callS, wpS_ret, kThen_N, kThen_B, kThen_C, kThen_R, kThen_T, kNext_N, kNext_C, kNext_B, kNext_R, wpE_K, wpE_KL, xE_I, xE_R, wpE_J, xE_bin, wpE_ladd, wpE_i2l, xE_get, xE_ald0, xE_ald1, wpE_if, xE_max, xE_min, wpE_len, wpA_nil, wpA_snoc, xE_call, xE_callS, xC_C, xC_L, xC_Z, wpC_and, wpC_or, wpC_not, wpC_if, kcmp_0, kcmp_1, kcmp_2, kcmp_3, kcmp_4, kcmp_5, rR_inj, kgO_some, kgO_add, kgO_sub, kgO_mul, kgO_div, kgO_rem, kgO_and, kvI_inl, kvJ_inl, kgI_0, kgI_s, kgR_0, kgR_s, kst_nil, kst_0, kst_s, kNLl_nil, kNLl_i, kNLl_r, kNLl_n, ktag_i, ktag_r, List.length_cons, List.length_nil, List.take_succ_cons, List.take_zero, List.take_nil, List.nil_append, List.cons_append, decide_eq_true_eq, Bool.not_eq_true, Bool.not_eq_true', decide_eq_false_iff_not, ne_eq, Decidable.not_not, true_and, and_true, Nat.reduceAdd, Nat.reduceLeDiff, Nat.reduceEqDiff, Nat.le_refl, not_true_eq_false, not_false_eq_true, reduceIte, eq_self, Int.reduceNeg, Int.reduceEq, Int.reduceLT, Int.reduceLE, Nat.zero_le, Nat.one_ne_zero, ev_model, ev_model_arr, Int.toNat_natCast, e105, e106, z1, z2, z3, decide_true, decide_false, Bool.false_eq_true, if_true, if_false, true_and, and_true, not_true_eq_false, not_false_eq_true]
              repeat refine And.intro (by omega) ?_
              exact skip
          · by_cases z3 : s' 107 (ps i) = (v : Int)
            · have z2 : ¬ s' 107 (pf i) = -1 := fun h => qB ⟨z3, h⟩
              simp only [wpS_skip, wpS_break, wpS_cont, wpS_retV, wpS_throw, wpS_seq, wpS_if, wpS_trunc, yS_let, yS_inc, kgK_i, kgK_r, kok_nil, kok_i0, kok_is, kok_r0, kok_rs, kok_n0, kok_ns, xS_put, xS_putOp, xS_ast0, xS_ast1, xS_astOp, wpS_E, wpS_call, wpS_callS, wpS_ret, kThen_N, kThen_B, kThen_C, kThen_R, kThen_T, kNext_N, kNext_C, kNext_B, kNext_R, wpE_K, wpE_KL, xE_I, xE_R, wpE_J, xE_bin, wpE_ladd, wpE_i2l, xE_get, xE_ald0, xE_ald1, wpE_if, xE_max, xE_min, wpE_len, wpA_nil, wpA_snoc, xE_call, xE_callS, xC_C, xC_L, xC_Z, wpC_and, wpC_or, wpC_not, wpC_if, kcmp_0, kcmp_1, kcmp_2, kcmp_3, kcmp_4, kcmp_5, rR_inj, kgO_some, kgO_add, kgO_sub, kgO_mul, kgO_div, kgO_rem, kgO_and, kvI_inl, kvJ_inl, kgI_0, kgI_s, kgR_0, kgR_s, kst_nil, kst_0, kst_s, kNLl_nil, kNLl_i, kNLl_r, kNLl_n, ktag_i, ktag_r, List.length_cons, List.length_nil, List.take_succ_cons, List.take_zero, List.take_nil, List.nil_append, List.cons_append, decide_eq_true_eq, Bool.not_eq_true, Bool.not_eq_true', decide_eq_false_iff_not, ne_eq, Decidable.not_not, true_and, and_true, Nat.reduceAdd, Nat.reduceLeDiff, Nat.reduceEqDiff, Nat.le_refl, not_true_eq_false, not_false_eq_true, reduceIte, eq_self, Int.reduceNeg, Int.reduceEq, Int.reduceLT, Int.reduceLE, Nat.zero_le, Nat.one_ne_zero, ev_model, ev_model_arr, Int.toNat_natCast, e105, e106, z1, z2, z3, decide_true, decide_false, Bool.false_eq_true, if_true, if_false, true_and, and_true, not_true_eq_false, not_false_eq_true]
              repeat refine And.intro (by omega) ?_
              exact skip
            · simp only [wpS_skip, wpS_break, wpS_cont, wpS_retV, wpS_throw, wpS_seq, wpS_if, wpS_trunc, yS_let, yS_inc, kgK_i, kgK_r, kok_nil, kok_i0, kok_is, kok_r0, kok_rs, kok_n0, kok_ns, xS_put, xS_putOp, xS_ast0, xS_ast1, xS_astOp, wpS_E, wpS_call, wpS_callS, wpS_ret, kThen_N, kThen_B, kThen_C, kThen_R, kThen_T, kNext_N, kNext_C, kNext_B, kNext_R, wpE_K, wpE_KL, xE_I, xE_R, wpE_J, xE_bin, wpE_ladd, wpE_i2l, xE_get, xE_ald0, xE_ald1, wpE_if, xE_max, xE_min, wpE_len, wpA_nil, wpA_snoc, xE_call, xE_callS, xC_C, xC_L, xC_Z, wpC_and, wpC_or, wpC_not, wpC_if, kcmp_0, kcmp_1, kcmp_2, kcmp_3, kcmp_4, kcmp_5, rR_inj, kgO_some, kgO_add, kgO_sub, kgO_mul, kgO_div, kgO_rem, kgO_and, kvI_inl, kvJ_inl, kgI_0, kgI_s, kgR_0, kgR_s, kst_nil, kst_0, kst_s, kNLl_nil, kNLl_i, kNLl_r, kNLl_n, ktag_i, ktag_r, List.length_cons, List.length_nil, List.take_succ_cons, List.take_zero, List.take_nil, List.nil_append, List.cons_append, decide_eq_true_eq, Bool.not_eq_true, Bool.not_eq_true', decide_eq_false_iff_not, ne_eq, Decidable.not_not, true_and, and_true, Nat.reduceAdd, Nat.reduceLeDiff, Nat.reduceEqDiff, Nat.le_refl, not_true_eq_false, not_false_eq_true, reduceIte, eq_self, Int.reduceNeg, Int.reduceEq, Int.reduceLT, Int.reduceLE, Nat.zero_le, Nat.one_ne_zero, ev_model, ev_model_arr, Int.toNat_natCast, e105, e106, z1, z3, decide_true, decide_false, Bool.false_eq_true, if_true, if_false, true_and, and_true, not_true_eq_false, not_false_eq_true]
              repeat refine And.intro (by omega) ?_
              exact skip
    · rintro L s' ⟨mo, rfl, hJ', hmo'⟩
      rw [hQ3]
      refine kNext_N.mpr ?_
      simp only [wpS_skip, wpS_break, wpS_cont, wpS_retV, wpS_throw, wpS_seq, wpS_if, wpS_trunc, yS_let, yS_inc, kgK_i, kgK_r, kok_nil, kok_i0, kok_is, kok_r0, kok_rs, kok_n0, kok_ns, xS_put, xS_putOp, xS_ast0, xS_ast1, xS_astOp, wpS_E, wpS_call, wpS_callS, wpS_ret, kThen_N, kThen_B, kThen_C, kThen_R, kThen_T, kNext_N, kNext_C, kNext_B, kNext_R, wpE_K, wpE_KL, xE_I, xE_R, wpE_J, xE_bin, wpE_ladd, wpE_i2l, xE_get, xE_ald0, xE_ald1, wpE_if, xE_max, xE_min, wpE_len, wpA_nil, wpA_snoc, xE_call, xE_callS, xC_C, xC_L, xC_Z, wpC_and, wpC_or, wpC_not, wpC_if, kcmp_0, kcmp_1, kcmp_2, kcmp_3, kcmp_4, kcmp_5, rR_inj, kgO_some, kgO_add, kgO_sub, kgO_mul, kgO_div, kgO_rem, kgO_and, kvI_inl, kvJ_inl, kgI_0, kgI_s, kgR_0, kgR_s, kst_nil, kst_0, kst_s, kNLl_nil, kNLl_i, kNLl_r, kNLl_n, ktag_i, ktag_r, List.length_cons, List.length_nil, List.take_succ_cons, List.take_zero, List.take_nil, List.nil_append, List.cons_append, decide_eq_true_eq, Bool.not_eq_true, Bool.not_eq_true', decide_eq_false_iff_not, ne_eq, Decidable.not_not, true_and, and_true, Nat.reduceAdd, Nat.reduceLeDiff, Nat.reduceEqDiff, Nat.le_refl, not_true_eq_false, not_false_eq_true, reduceIte, eq_self, Int.reduceNeg, Int.reduceEq, Int.reduceLT, Int.reduceLE, Nat.zero_le, Nat.one_ne_zero]
      rcases hmo' with ⟨rfl, t⟩ | ⟨rfl, t, t2⟩
      · exact ⟨_, by omega, 1, rfl, hJ', Or.inl ⟨rfl, rfl⟩⟩
      · subst t
        exact ⟨_, by omega, 0, rfl, hJ', Or.inr ⟨rfl, rfl, t2⟩⟩
  · simp only [wpS_skip, wpS_break, wpS_cont, wpS_retV, wpS_throw, wpS_seq, wpS_if, wpS_trunc, yS_let, yS_inc, kgK_i, kgK_r, kok_nil, kok_i0, kok_is, kok_r0, kok_rs, kok_n0, kok_ns, xS_put, xS_putOp, xS_ast0, xS_ast1, xS_astOp, wpS_E, wpS_call, wpS_callS, wpS_ret, kThen_N, kThen_B, kThen_C, kThen_R, kThen_T, kNext_N, kNext_C, kNext_B, kNext_R, wpE_K, wpE_KL, xE_I, xE_R, wpE_J, xE_bin, wpE_ladd, wpE_i2l, xE_get, xE_ald0, xE_ald1, wpE_if, xE_max, xE_min, wpE_len, wpA_nil, wpA_snoc, xE_call, xE_callS, xC_C, xC_L, xC_Z, wpC_and, wpC_or, wpC_not, wpC_if, kcmp_0, kcmp_1, kcmp_2, kcmp_3, kcmp_4, kcmp_5, rR_inj, kgO_some, kgO_add, kgO_sub, kgO_mul, kgO_div, kgO_rem, kgO_and, kvI_inl, kvJ_inl, kgI_0, kgI_s, kgR_0, kgR_s, kst_nil, kst_0, kst_s, kNLl_nil, kNLl_i, kNLl_r, kNLl_n, ktag_i, ktag_r, List.length_cons, List.length_nil, List.take_succ_cons, List.take_zero, List.take_nil, List.nil_append, List.cons_append, decide_eq_true_eq, Bool.not_eq_true, Bool.not_eq_true', decide_eq_false_iff_not, ne_eq, Decidable.not_not, true_and, and_true, Nat.reduceAdd, Nat.reduceLeDiff, Nat.reduceEqDiff, Nat.le_refl, not_true_eq_false, not_false_eq_true, reduceIte, eq_self, Int.reduceNeg, Int.reduceEq, Int.reduceLT, Int.reduceLE, Nat.zero_le, Nat.one_ne_zero, decide_true, decide_false, Bool.false_eq_true, if_true, if_false, true_and, and_true, not_true_eq_false, not_false_eq_true]
    rw [hQ2]
    show ite (false = true) _ _
    rw [if_neg (by decide)]
    clear hQ2 Q2
    rw [hQ1]
    clear hQ1 Q1
    refine kThen_N.mpr ?_
    obtain ⟨j1, j2, j3, j4, j5⟩ := hJ
    -- closed
    have hclose : ∀ k, k < P → (s 107 (pf k) = (v : Int) ↔ s 107 (ps k) = (v : Int)) := by
      intro k hk
      obtain ⟨-, -, p3, p4⟩ := hp k hk
      obtain ⟨c1, c2⟩ := hclo k hk
      have c3 := hcl k hk
      have a1 := hno _ p3
      have a2 := hno _ p4
      rcases j2 (pf k) with q1 | q1 <;> rcases j2 (ps k) with q2 | q2
      · rw [q1, q2]; exact ⟨fun h => absurd h a1, fun h => absurd h a2⟩
      · rw [q1, q2.2] at c2 ⊢; have := c3.mpr q2.1; exact absurd ⟨rfl, this⟩ c2
      · rw [q2, q1.2] at c1 ⊢; have := c3.mp q1.1; exact absurd ⟨rfl, this⟩ c1
      · rw [q1.2, q2.2]
    have hiff : ∀ u, u < n → (rch (jE A) v u ↔ s 107 u = (v : Int)) := by
      intro u hu
      refine ⟨fun h => ?_, fun h => (j4 u hu h).1⟩
      refine (rch.closed (S := fun w => s 107 w = (v : Int)) ?_ j3 h)
      rintro x y hx (q | q)
      · rw [hA] at q; obtain ⟨k, hk, rfl, rfl⟩ := q; exact (hclose k hk).mp hx
      · rw [hA] at q; obtain ⟨k, hk, rfl, rfl⟩ := q; exact (hclose k hk).mpr hx
    have z109 : ∀ u, s 109 u = σ 109 u := fun u => j1 _ _ (by decide) (by decide)
    refine wpS_gen (fun Q3 hQ3 => ?_)
    unfold l_Md_spread_3
    refine wpS_fp (fun i s' => (∀ o k, (o ≠ 109 ∨ k ≠ v) → s' o k = s o k) ∧ ((s' 109 v = 1 ∧ ∃ k, k < i ∧ s 107 (pf k) = (v : Int) ∧ s 88 (pf k) = s 88 (ps k)) ∨ (s' 109 v = s 109 v ∧ ∀ k, k < i → ¬ (s 107 (pf k) = (v : Int) ∧ s 88 (pf k) = s 88 (ps k))))) 0 P rfl rfl ?_ ?_ ?_ ?_ ?_ ?_
    · simp only [wpS_skip, wpS_break, wpS_cont, wpS_retV, wpS_throw, wpS_seq, wpS_if, wpS_trunc, yS_let, yS_inc, kgK_i, kgK_r, kok_nil, kok_i0, kok_is, kok_r0, kok_rs, kok_n0, kok_ns, xS_put, xS_putOp, xS_ast0, xS_ast1, xS_astOp, wpS_E, wpS_call, wpS_callS, wpS_ret, kThen_N, kThen_B, kThen_C, kThen_R, kThen_T, kNext_N, kNext_C, kNext_B, kNext_R, wpE_K, wpE_KL, xE_I, xE_R, wpE_J, xE_bin, wpE_ladd, wpE_i2l, xE_get, xE_ald0, xE_ald1, wpE_if, xE_max, xE_min, wpE_len, wpA_nil, wpA_snoc, xE_call, xE_callS, xC_C, xC_L, xC_Z, wpC_and, wpC_or, wpC_not, wpC_if, kcmp_0, kcmp_1, kcmp_2, kcmp_3, kcmp_4, kcmp_5, rR_inj, kgO_some, kgO_add, kgO_sub, kgO_mul, kgO_div, kgO_rem, kgO_and, kvI_inl, kvJ_inl, kgI_0, kgI_s, kgR_0, kgR_s, kst_nil, kst_0, kst_s, kNLl_nil, kNLl_i, kNLl_r, kNLl_n, ktag_i, ktag_r, List.length_cons, List.length_nil, List.take_succ_cons, List.take_zero, List.take_nil, List.nil_append, List.cons_append, decide_eq_true_eq, Bool.not_eq_true, Bool.not_eq_true', decide_eq_false_iff_not, ne_eq, Decidable.not_not, true_and, and_true, Nat.reduceAdd, Nat.reduceLeDiff, Nat.reduceEqDiff, Nat.le_refl, not_true_eq_false, not_false_eq_true, reduceIte, eq_self, Int.reduceNeg, Int.reduceEq, Int.reduceLT, Int.reduceLE, Nat.zero_le, Nat.one_ne_zero]; trivial
    · omega
    · exact ⟨fun _ _ _ => rfl, Or.inr ⟨rfl, fun k hk => absurd hk (by omega)⟩⟩
    · rintro i s' - - ⟨q1, -⟩
      have e44 : s' 14 44 = (P : Int) := by rw [q1 _ _ (Or.inl (by decide)), j1 _ _ (by decide) (by decide)]; exact h44
      simp only [wpS_skip, wpS_break, wpS_cont, wpS_retV, wpS_throw, wpS_seq, wpS_if, wpS_trunc, yS_let, yS_inc, kgK_i, kgK_r, kok_nil, kok_i0, kok_is, kok_r0, kok_rs, kok_n0, kok_ns, xS_put, xS_putOp, xS_ast0, xS_ast1, xS_astOp, wpS_E, wpS_call, wpS_callS, wpS_ret, kThen_N, kThen_B, kThen_C, kThen_R, kThen_T, kNext_N, kNext_C, kNext_B, kNext_R, wpE_K, wpE_KL, xE_I, xE_R, wpE_J, xE_bin, wpE_ladd, wpE_i2l, xE_get, xE_ald0, xE_ald1, wpE_if, xE_max, xE_min, wpE_len, wpA_nil, wpA_snoc, xE_call, xE_callS, xC_C, xC_L, xC_Z, wpC_and, wpC_or, wpC_not, wpC_if, kcmp_0, kcmp_1, kcmp_2, kcmp_3, kcmp_4, kcmp_5, rR_inj, kgO_some, kgO_add, kgO_sub, kgO_mul, kgO_div, kgO_rem, kgO_and, kvI_inl, kvJ_inl, kgI_0, kgI_s, kgR_0, kgR_s, kst_nil, kst_0, kst_s, kNLl_nil, kNLl_i, kNLl_r, kNLl_n, ktag_i, ktag_r, List.length_cons, List.length_nil, List.take_succ_cons, List.take_zero, List.take_nil, List.nil_append, List.cons_append, decide_eq_true_eq, Bool.not_eq_true, Bool.not_eq_true', decide_eq_false_iff_not, ne_eq, Decidable.not_not, true_and, and_true, Nat.reduceAdd, Nat.reduceLeDiff, Nat.reduceEqDiff, Nat.le_refl, not_true_eq_false, not_false_eq_true, reduceIte, eq_self, Int.reduceNeg, Int.reduceEq, Int.reduceLT, Int.reduceLE, Nat.zero_le, Nat.one_ne_zero, ev_model, e44]
    · rintro i s' - hi ⟨q1, q2⟩
      obtain ⟨p1, p2, p3, p4⟩ := hp i hi
      have e105 : s' 105 i = (pf i : Int) := by rw [q1 _ _ (Or.inl (by decide)), j1 _ _ (by decide) (by decide)]; exact p1
      have e106 : s' 106 i = (ps i : Int) := by rw [q1 _ _ (Or.inl (by decide)), j1 _ _ (by decide) (by decide)]; exact p2
      have e107 : ∀ u, s' 107 u = s 107 u := fun u => q1 _ _ (Or.inl (by decide))
      have e88 : ∀ u, s' 88 u = s 88 u := fun u => q1 _ _ (Or.inl (by decide))
      refine wpS_gen (fun Q4 hQ4 => ?_)
      by_cases qA : s 107 (pf i) = (v : Int)
      · by_cases qB : s 88 (pf i) = s 88 (ps i)
        · simp only [wpS_skip, wpS_break, wpS_cont, wpS_retV, wpS_throw, wpS_seq, wpS_if, wpS_trunc, yS_let, yS_inc, kgK_i, kgK_r, kok_nil, kok_i0, kok_is, kok_r0, kok_rs, kok_n0, kok_ns, xS_put, xS_putOp, xS_ast0, xS_ast1, xS_astOp, wpS_E, wpS_call, wpS_callS, wpS_ret, kThen_N, kThen_B, kThen_C, kThen_R, kThen_T, kNext_N, kNext_C, kNext_B, kNext_R, wpE_K, wpE_KL, xE_I, xE_R, wpE_J, xE_bin, wpE_ladd, wpE_i2l, xE_get, xE_ald0, xE_ald1, wpE_if, xE_max, xE_min, wpE_len, wpA_nil, wpA_snoc, xE_call, xE_callS, xC_C, xC_L, xC_Z, wpC_and, wpC_or, wpC_not, wpC_if, kcmp_0, kcmp_1, kcmp_2, kcmp_3, kcmp_4, kcmp_5, rR_inj, kgO_some, kgO_add, kgO_sub, kgO_mul, kgO_div, kgO_rem, kgO_and, kvI_inl, kvJ_inl, kgI_0, kgI_s, kgR_0, kgR_s, kst_nil, kst_0, kst_s, kNLl_nil, kNLl_i, kNLl_r, kNLl_n, ktag_i, ktag_r, List.length_cons, List.length_nil, List.take_succ_cons, List.take_zero, List.take_nil, List.nil_append, List.cons_append, decide_eq_true_eq, Bool.not_eq_true, Bool.not_eq_true', decide_eq_false_iff_not, ne_eq, Decidable.not_not, true_and, and_true, Nat.reduceAdd, Nat.reduceLeDiff, Nat.reduceEqDiff, Nat.le_refl, not_true_eq_false, not_false_eq_true, reduceIte, eq_self, Int.reduceNeg, Int.reduceEq, Int.reduceLT, Int.reduceLE, Nat.zero_le, Nat.one_ne_zero, ev_model, ev_model_arr, Int.toNat_natCast, e105, e106, e107, e88, qA, qB, decide_true, decide_false, Bool.false_eq_true, if_true, if_false, true_and, and_true, not_true_eq_false, not_false_eq_true]
          repeat refine And.intro (by omega) ?_
          refine ⟨by simp, ?_⟩
          rw [hQ4]
          refine kStep_N rfl ⟨rfl, fun o k ho => ?_, Or.inl ⟨by rw [kup_eq, if_pos rfl], i, by omega, qA, qB⟩⟩
          by_cases e : o = 109
          · subst e; rw [kup_eq, if_neg (by omega)]; exact q1 _ _ ho
          · rw [kup_ne e]; exact q1 _ _ ho
        · simp only [wpS_skip, wpS_break, wpS_cont, wpS_retV, wpS_throw, wpS_seq, wpS_if, wpS_trunc, yS_let, yS_inc, kgK_i, kgK_r, kok_nil, kok_i0, kok_is, kok_r0, kok_rs, kok_n0, kok_ns, xS_put, xS_putOp, xS_ast0, xS_ast1, xS_astOp, wpS_E, wpS_call, wpS_callS, wpS_ret, kThen_N, kThen_B, kThen_C, kThen_R, kThen_T, kNext_N, kNext_C, kNext_B, kNext_R, wpE_K, wpE_KL, xE_I, xE_R, wpE_J, xE_bin, wpE_ladd, wpE_i2l, xE_get, xE_ald0, xE_ald1, wpE_if, xE_max, xE_min, wpE_len, wpA_nil, wpA_snoc, xE_call, xE_callS, xC_C, xC_L, xC_Z, wpC_and, wpC_or, wpC_not, wpC_if, kcmp_0, kcmp_1, kcmp_2, kcmp_3, kcmp_4, kcmp_5, rR_inj, kgO_some, kgO_add, kgO_sub, kgO_mul, kgO_div, kgO_rem, kgO_and, kvI_inl, kvJ_inl, kgI_0, kgI_s, kgR_0, kgR_s, kst_nil, kst_0, kst_s, kNLl_nil, kNLl_i, kNLl_r, kNLl_n, ktag_i, ktag_r, List.length_cons, List.length_nil, List.take_succ_cons, List.take_zero, List.take_nil, List.nil_append, List.cons_append, decide_eq_true_eq, Bool.not_eq_true, Bool.not_eq_true', decide_eq_false_iff_not, ne_eq, Decidable.not_not, true_and, and_true, Nat.reduceAdd, Nat.reduceLeDiff, Nat.reduceEqDiff, Nat.le_refl, not_true_eq_false, not_false_eq_true, reduceIte, eq_self, Int.reduceNeg, Int.reduceEq, Int.reduceLT, Int.reduceLE, Nat.zero_le, Nat.one_ne_zero, ev_model, ev_model_arr, Int.toNat_natCast, e105, e106, e107, e88, qA, qB, decide_true, decide_false, Bool.false_eq_true, if_true, if_false, true_and, and_true, not_true_eq_false, not_false_eq_true]
          repeat refine And.intro (by omega) ?_
          rw [hQ4]
          refine kStep_N rfl ⟨rfl, q1, ?_⟩
          rcases q2 with ⟨t1, k, t2, t3⟩ | ⟨t1, t2⟩
          · exact Or.inl ⟨t1, k, by omega, t3⟩
          · refine Or.inr ⟨t1, fun k hk => ?_⟩
            by_cases e : k = i
            · subst e; exact fun h => qB h.2
            · exact t2 k (by omega)
      · simp only [wpS_skip, wpS_break, wpS_cont, wpS_retV, wpS_throw, wpS_seq, wpS_if, wpS_trunc, yS_let, yS_inc, kgK_i, kgK_r, kok_nil, kok_i0, kok_is, kok_r0, kok_rs, kok_n0, kok_ns, xS_put, xS_putOp, xS_ast0, xS_ast1, xS_astOp, wpS_E, wpS_call, wpS_callS, wpS_ret, kThen_N, kThen_B, kThen_C, kThen_R, kThen_T, kNext_N, kNext_C, kNext_B, kNext_R, wpE_K, wpE_KL, xE_I, xE_R, wpE_J, xE_bin, wpE_ladd, wpE_i2l, xE_get, xE_ald0, xE_ald1, wpE_if, xE_max, xE_min, wpE_len, wpA_nil, wpA_snoc, xE_call, xE_callS, xC_C, xC_L, xC_Z, wpC_and, wpC_or, wpC_not, wpC_if, kcmp_0, kcmp_1, kcmp_2, kcmp_3, kcmp_4, kcmp_5, rR_inj, kgO_some, kgO_add, kgO_sub, kgO_mul, kgO_div, kgO_rem, kgO_and, kvI_inl, kvJ_inl, kgI_0, kgI_s, kgR_0, kgR_s, kst_nil, kst_0, kst_s, kNLl_nil, kNLl_i, kNLl_r, kNLl_n, ktag_i, ktag_r, List.length_cons, List.length_nil, List.take_succ_cons, List.take_zero, List.take_nil, List.nil_append, List.cons_append, decide_eq_true_eq, Bool.not_eq_true, Bool.not_eq_true', decide_eq_false_iff_not, ne_eq, Decidable.not_not, true_and, and_true, Nat.reduceAdd, Nat.reduceLeDiff, Nat.reduceEqDiff, Nat.le_refl, not_true_eq_false, not_false_eq_true, reduceIte, eq_self, Int.reduceNeg, Int.reduceEq, Int.reduceLT, Int.reduceLE, Nat.zero_le, Nat.one_ne_zero, ev_model, ev_model_arr, Int.toNat_natCast, e105, e106, e107, e88, qA, decide_true, decide_false, Bool.false_eq_true, if_true, if_false, true_and, and_true, not_true_eq_false, not_false_eq_true]
        repeat refine And.intro (by omega) ?_
        rw [hQ4]
        refine kStep_N rfl ⟨rfl, q1, ?_⟩
        rcases q2 with ⟨t1, k, t2, t3⟩ | ⟨t1, t2⟩
        · exact Or.inl ⟨t1, k, by omega, t3⟩
        · refine Or.inr ⟨t1, fun k hk => ?_⟩
          by_cases e : k = i
          · subst e; exact fun h => qA h.1
          · exact t2 k (by omega)
    · rintro s' ⟨q1, q2⟩
      rw [hQ3]
      rw [hQ0]
      refine kThen_N.mpr (wpS_retV.mpr ⟨none, rfl, rfl, ?_⟩)
      refine ⟨rfl, fun o k h1 h2 h3 => by rw [q1 _ _ h3]; exact j1 _ _ h1 h2, fun u hu => ?_, ?_⟩
      · rw [q1 _ _ (Or.inl (by decide))]
        by_cases h : rch (jE A) v u
        · exact Or.inl ⟨h, (hiff u hu).mp h⟩
        · refine Or.inr ⟨h, ?_⟩
          rcases j2 u with t | t
          · exact t
          · exact absurd ((hiff u hu).mpr t.2) h
      · rcases q2 with ⟨t1, k, hk, t2, t3⟩ | ⟨t1, t2⟩
        · refine Or.inl ⟨t1, ?_⟩
          rintro ⟨f, hf⟩
          obtain ⟨-, -, p3, p4⟩ := hp k hk
          have u1 := j5 f hf _ p3 t2
          have u2 := j5 f hf _ p4 ((hclose k hk).mp t2)
          have u3 := hf _ _ (hAk k hk) (j4 _ p3 t2).1
          omega
        · refine Or.inr ⟨by rw [t1, z109], fun u => (s 88 u).toNat, ?_⟩
          intro a b hab hr
          rw [hA] at hab
          obtain ⟨k, hk, rfl, rfl⟩ := hab
          obtain ⟨-, -, p3, p4⟩ := hp k hk
          have g1 := (hiff _ p3).mp hr
          have g2 := (hclose k hk).mp g1
          have v1 := (j4 _ p3 g1).2
          have v2 := (j4 _ p4 g2).2
          have v3 : ¬ s 88 (pf k) = s 88 (ps k) := fun h => t2 k hk ⟨g1, h⟩
          show ((s 88 (pf k)).toNat + (s 88 (ps k)).toNat) % 2 = 1
          omega
end MP
