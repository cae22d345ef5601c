/-! THE REFERENCE'S PLAN: what stands behind the steps -/
section MQ
variable {σ : kS} {n c ar st : Nat} {li fs sn lv : Nat → Nat} {tr lo : Nat → Int} {sp tk : Nat → Int} {sf ss : Nat → Nat}
theorem tkn_succ0 {x : Int} {m : Nat} (h : sp m = 0) : tkn sp tk x (m + 1) ↔ tkn sp tk x m ∨ tk m = x := by
  constructor
  · rintro ⟨k, k1, k2, k3⟩
    by_cases e : k = m
    · subst e; exact Or.inr k3
    · exact Or.inl ⟨k, by omega, k2, k3⟩
  · rintro (⟨k, k1, k2⟩ | e)
    · exact ⟨k, by omega, k2⟩
    · exact ⟨m, by omega, h, e⟩
theorem tkn_succ1 {x : Int} {m : Nat} (h : sp m ≠ 0) : tkn sp tk x (m + 1) ↔ tkn sp tk x m := by
  constructor
  · rintro ⟨k, k1, k2, k3⟩
    by_cases e : k = m
    · subst e; exact absurd k2 h
    · exact ⟨k, by omega, k2, k3⟩
  · rintro ⟨k, k1, k2⟩
    exact ⟨k, by omega, k2⟩
theorem plC_count (hG : gOk n c ar li fs sn) (hO : plOk n c st li sp tk sf ss) : ∀ m, m ≤ st → ((cntP (fun i => ¬ tkn sp tk (li i) m) c : Nat) : Int) + ((cntP (fun k => sp k ≠ 0 ∧ ¬ tkn sp tk (-1 - (k : Int)) m) m : Nat) : Int) = plC c sp m := by
  obtain ⟨o1, o2, o3⟩ := hO
  intro m
  induction m with
  | zero =>
    intro _
    have e : cntP (fun i => ¬ tkn sp tk (li i) 0) c = c := by
      have h0 := @cntP_not (fun i => tkn sp tk (li i) 0) c
      have h1 : cntP (fun i => tkn sp tk (li i) 0) c = 0 := cntP_zero (fun k _ ⟨j, hj, _⟩ => absurd hj (by omega))
      omega
    rw [e]
    show (c : Int) + ((0 : Nat) : Int) = (c : Int)
    omega
  | succ m ih =>
    intro hm
    have ih := ih (by omega)
    have eC : plC c sp (m + 1) = plC c sp m + (if sp m = 0 then -1 else 1) := rfl
    rw [eC, ← ih]
    by_cases q : sp m = 0
    · rw [if_pos q]
      have e2 : cntP (fun k => sp k ≠ 0 ∧ ¬ tkn sp tk (-1 - (k : Int)) (m + 1)) (m + 1) = cntP (fun k => sp k ≠ 0 ∧ ¬ tkn sp tk (-1 - (k : Int)) (m + 1)) m := cntP_succ_neg (fun h => h.1 q)
      rw [e2]
      rcases o2 m (by omega) with ⟨h, -⟩ | ⟨-, ⟨h1, i0, h2, h3⟩ | ⟨j, h1, h2, h3⟩⟩
      · omega
      · have hi : tk m = (li i0 : Int) := by omega
        have hno : ¬ tkn sp tk (li i0) m := by
          rintro ⟨k, k1, k2, k3⟩
          exact o3 k m k1 (by omega) k2 q (by omega)
        have a1 : cntP (fun i => ¬ tkn sp tk (li i) (m + 1)) c = cntP (fun i => ¬ tkn sp tk (li i) m ∧ i ≠ i0) c := cntP_congr (fun i hi' => by
          rw [tkn_succ0 q, not_or]
          refine and_congr Iff.rfl (not_congr ⟨fun h => ?_, fun h => by rw [h]; exact hi⟩)
          exact hG.inj i i0 hi' h2 (by omega))
        have a2 := @cntP_drop (fun i => ¬ tkn sp tk (li i) m) c i0 h2
        rw [if_pos hno] at a2
        have a3 : cntP (fun k => sp k ≠ 0 ∧ ¬ tkn sp tk (-1 - (k : Int)) (m + 1)) m = cntP (fun k => sp k ≠ 0 ∧ ¬ tkn sp tk (-1 - (k : Int)) m) m := cntP_congr (fun k _ => by
          rw [tkn_succ0 q, not_or]
          exact ⟨fun h => ⟨h.1, h.2.1⟩, fun h => ⟨h.1, h.2, by omega⟩⟩)
        rw [a1, a3, a2]
        omega
      · have hno : ¬ tkn sp tk (-1 - (j : Int)) m := by
          rintro ⟨k, k1, k2, k3⟩
          exact o3 k m k1 (by omega) k2 q (by omega)
        have a1 : cntP (fun i => ¬ tkn sp tk (li i) (m + 1)) c = cntP (fun i => ¬ tkn sp tk (li i) m) c := cntP_congr (fun i _ => by
          rw [tkn_succ0 q, not_or]
          exact ⟨fun h => h.1, fun h => ⟨h, by omega⟩⟩)
        have a2 := @cntP_drop (fun k => sp k ≠ 0 ∧ ¬ tkn sp tk (-1 - (k : Int)) m) m j h1
        rw [if_pos ⟨by omega, hno⟩] at a2
        have a3 : cntP (fun k => sp k ≠ 0 ∧ ¬ tkn sp tk (-1 - (k : Int)) (m + 1)) m = cntP (fun k => (sp k ≠ 0 ∧ ¬ tkn sp tk (-1 - (k : Int)) m) ∧ k ≠ j) m := cntP_congr (fun k _ => by
          rw [tkn_succ0 q, not_or]
          exact ⟨fun h => ⟨⟨h.1, h.2.1⟩, by omega⟩, fun h => ⟨h.1.1, h.1.2, by omega⟩⟩)
        rw [a1, a3, a2]
        omega
    · rw [if_neg q]
      have hno : ¬ tkn sp tk (-1 - (m : Int)) (m + 1) := by
        rw [tkn_succ1 q]
        rintro ⟨k, k1, k2, k3⟩
        rcases o2 k (by omega) with ⟨h, -⟩ | ⟨-, ⟨h1, -⟩ | ⟨j, h1, h2, -⟩⟩ <;> omega
      have e2 : cntP (fun k => sp k ≠ 0 ∧ ¬ tkn sp tk (-1 - (k : Int)) (m + 1)) (m + 1) = cntP (fun k => sp k ≠ 0 ∧ ¬ tkn sp tk (-1 - (k : Int)) (m + 1)) m + 1 := cntP_succ_pos ⟨q, hno⟩
      have a1 : cntP (fun i => ¬ tkn sp tk (li i) (m + 1)) c = cntP (fun i => ¬ tkn sp tk (li i) m) c := cntP_congr (fun i _ => by rw [tkn_succ1 q])
      have a3 : cntP (fun k => sp k ≠ 0 ∧ ¬ tkn sp tk (-1 - (k : Int)) (m + 1)) m = cntP (fun k => sp k ≠ 0 ∧ ¬ tkn sp tk (-1 - (k : Int)) m) m := cntP_congr (fun k _ => by rw [tkn_succ1 q])
      rw [e2, a1, a3]
      omega
/-- the least node of u's part -/
def leastIs (A : Nat → Nat → Prop) (u g : Nat) : Prop := rch (jE A) u g ∧ ∀ w, rch (jE A) u w → g ≤ w
theorem leastIs.uniq {A : Nat → Nat → Prop} {u g h : Nat} (h1 : leastIs A u g) (h2 : leastIs A u h) : g = h := Nat.le_antisymm (h1.2 _ h2.1) (h2.2 _ h1.1)
theorem leastIs.ex {A : Nat → Nat → Prop} (u : Nat) : ∃ g, leastIs A u g := nat_least ⟨u, rch.rfl' u⟩
theorem leastIs.move {A : Nat → Nat → Prop} {u v g : Nat} (h : leastIs A u g) (hr : rch (jE A) u v) : leastIs A v g := ⟨(jE.rsymm hr).trans h.1, fun w hw => h.2 w (hr.trans hw)⟩
def rowOk (s : kS) (n P : Nat) (pf ps : Nat → Nat) (D : Nat → Nat → Prop) : Prop := s 14 44 = (P : Int) ∧ (∀ k, k < P → s 105 k = (pf k : Int) ∧ s 106 k = (ps k : Int) ∧ pf k < n ∧ ps k < n) ∧ ∀ u w, prE P pf ps u w ↔ D u w
theorem rowOk.add {s s' : kS} {P x y : Nat} {pf ps : Nat → Nat} {D D' : Nat → Nat → Prop} (h : rowOk s n P pf ps D) (hx : x < n) (hy : y < n) (hs : s' = kup (kup (kup s 105 P x) 106 P y) 14 44 ((P : Int) + 1)) (hD : ∀ u w, D' u w ↔ D u w ∨ (u = x ∧ w = y)) :
    rowOk s' n (P + 1) (fun k => if k = P then x else pf k) (fun k => if k = P then y else ps k) D' := by
  obtain ⟨h1, h2, h3⟩ := h
  subst hs
  refine ⟨by rw [kup_eq, if_pos rfl]; omega, fun k hk => ?_, fun u w => ?_⟩
  · rw [kup_ne (by decide), kup_ne (by decide), kup_eq, kup_ne (by decide), kup_eq]
    by_cases e : k = P
    · simp only [e, if_true]
      exact ⟨trivial, trivial, hx, hy⟩
    · simp only [e, if_false]
      exact h2 k (by omega)
  · rw [hD, ← h3]
    constructor
    · rintro ⟨k, k1, k2, k3⟩
      by_cases e : k = P
      · simp only [if_pos e] at k2 k3; exact Or.inr ⟨k2.symm, k3.symm⟩
      · simp only [if_neg e] at k2 k3; exact Or.inl ⟨k, by omega, k2, k3⟩
    · rintro (⟨k, k1, k2, k3⟩ | ⟨e1, e2⟩)
      · exact ⟨k, by omega, by simp only [if_neg (show k ≠ P by omega)]; exact k2, by simp only [if_neg (show k ≠ P by omega)]; exact k3⟩
      · exact ⟨P, by omega, by simp only [if_true]; exact e1.symm, by simp only [if_true]; exact e2.symm⟩
theorem rowOk.congr {s : kS} {P : Nat} {pf ps : Nat → Nat} {D D' : Nat → Nat → Prop} (h : rowOk s n P pf ps D) (hD : ∀ u w, D' u w ↔ D u w) : rowOk s n P pf ps D' := ⟨h.1, h.2.1, fun u w => (h.2.2 u w).trans (hD u w).symm⟩
theorem mdPlan_ok {m : Nat} {A : Nat → Nat → Prop} (hG : gOk n c ar li fs sn) (hM : RM σ n c ar li fs sn lv tr lo) (hP : PlM σ st sp tk sf ss) (hO : plOk n c st li sp tk sf ss) (hm : m ≤ st) (hA : A = plA c li fs sn sp tk sf ss m) :
    wpF F_Md_plan [.inr (.inl 14), .inl (m : Int)] σ (fun r s => r = none ∧ sK σ s ∧ (∃ P : Nat, s 14 44 = (P : Int) ∧ (P : Int) = plC c sp m) ∧
      ∀ u, u < n → (∃ g : Nat, g < n ∧ s 107 u = (g : Int) ∧ leastIs A u g) ∧ (leastIs A u u → (s 109 u = 1 ∧ ¬ ∃ f, colA A u f) ∨ (s 109 u = 0 ∧ ∃ f, colA A u f))) := by
  obtain ⟨hn3, hc9, ha5, hli, -⟩ := id hG
  obtain ⟨o1, o2, o3⟩ := id hO
  have w1 := hM.1
  have w2 := hM.2.1
  obtain ⟨p1, p2⟩ := id hP
  unfold F_Md_plan
  rw [wpF_kF]
  refine ⟨rfl, rfl, ?_⟩
  unfold s_Md_plan
  simp only [List.map_cons, List.map_nil]
  refine wpS_seq' (fun Q0 hQ0 => ?_)
  refine wpS_seq' (fun Q101 hQ101 => ?_)
  simp only [wpS_skip, wpS_break, wpS_cont, wpS_retV, wpS_throw, wpS_seq, wpS_if, wpS_trunc, yS_let, yS_inc, kgK_i, kgK_r, kok_nil, kok_i0, kok_is, kok_r0, kok_rs, kok_n0, kok_ns, xS_put, xS_putOp, xS_ast0, xS_ast1, xS_astOp, wpS_E, wpS_call, wpS_callS, wpS_ret, kThen_N, kThen_B, kThen_C, kThen_R, kThen_T, kNext_N, kNext_C, kNext_B, kNext_R, wpE_K, wpE_KL, xE_I, xE_R, wpE_J, xE_bin, wpE_ladd, wpE_i2l, xE_get, xE_ald0, xE_ald1, wpE_if, xE_max, xE_min, wpE_len, wpA_nil, wpA_snoc, xE_call, xE_callS, xC_C, xC_L, xC_Z, wpC_and, wpC_or, wpC_not, wpC_if, kcmp_0, kcmp_1, kcmp_2, kcmp_3, kcmp_4, kcmp_5, rR_inj, kgO_some, kgO_add, kgO_sub, kgO_mul, kgO_div, kgO_rem, kgO_and, kvI_inl, kvJ_inl, kgI_0, kgI_s, kgR_0, kgR_s, kst_nil, kst_0, kst_s, kNLl_nil, kNLl_i, kNLl_r, kNLl_n, ktag_i, ktag_r, List.length_cons, List.length_nil, List.take_succ_cons, List.take_zero, List.take_nil, List.nil_append, List.cons_append, decide_eq_true_eq, Bool.not_eq_true, Bool.not_eq_true', decide_eq_false_iff_not, ne_eq, Decidable.not_not, true_and, and_true, Nat.reduceAdd, Nat.reduceLeDiff, Nat.reduceEqDiff, Nat.le_refl, not_true_eq_false, not_false_eq_true, reduceIte, eq_self, Int.reduceNeg, Int.reduceEq, Int.reduceLT, Int.reduceLE, Nat.zero_le, Nat.one_ne_zero, ev_model]
  repeat refine And.intro (by omega) ?_
  rw [hQ101]
  clear hQ101 Q101
  refine kThen_N.mpr ?_
  obtain ⟨σ0, hσ0⟩ : ∃ s, s = kup σ 14 44 0 := ⟨_, rfl⟩
  rw [← hσ0]
  have k0 : sK σ σ0 := by
    intro o k ho
    unfold mSc at ho
    rw [hσ0]
    exact kup_other (by omega)
  -- the arcs there
  refine wpS_seq' (fun Q1 hQ1 => ?_)
  unfold l_Md_plan_1
  refine wpS_fp (fun i s => sK σ s ∧ ∃ P pf ps, rowOk s n P pf ps (fun u w => ∃ j, j < i ∧ ¬ tkn sp tk (li j) m ∧ fs (li j) = u ∧ sn (li j) = w) ∧ P = cntP (fun j => ¬ tkn sp tk (li j) m) i) 0 c rfl rfl ?_ ?_ ?_ ?_ ?_ ?_
  · simp only [wpS_skip, wpS_break, wpS_cont, wpS_retV, wpS_throw, wpS_seq, wpS_if, wpS_trunc, yS_let, yS_inc, kgK_i, kgK_r, kok_nil, kok_i0, kok_is, kok_r0, kok_rs, kok_n0, kok_ns, xS_put, xS_putOp, xS_ast0, xS_ast1, xS_astOp, wpS_E, wpS_call, wpS_callS, wpS_ret, kThen_N, kThen_B, kThen_C, kThen_R, kThen_T, kNext_N, kNext_C, kNext_B, kNext_R, wpE_K, wpE_KL, xE_I, xE_R, wpE_J, xE_bin, wpE_ladd, wpE_i2l, xE_get, xE_ald0, xE_ald1, wpE_if, xE_max, xE_min, wpE_len, wpA_nil, wpA_snoc, xE_call, xE_callS, xC_C, xC_L, xC_Z, wpC_and, wpC_or, wpC_not, wpC_if, kcmp_0, kcmp_1, kcmp_2, kcmp_3, kcmp_4, kcmp_5, rR_inj, kgO_some, kgO_add, kgO_sub, kgO_mul, kgO_div, kgO_rem, kgO_and, kvI_inl, kvJ_inl, kgI_0, kgI_s, kgR_0, kgR_s, kst_nil, kst_0, kst_s, kNLl_nil, kNLl_i, kNLl_r, kNLl_n, ktag_i, ktag_r, List.length_cons, List.length_nil, List.take_succ_cons, List.take_zero, List.take_nil, List.nil_append, List.cons_append, decide_eq_true_eq, Bool.not_eq_true, Bool.not_eq_true', decide_eq_false_iff_not, ne_eq, Decidable.not_not, true_and, and_true, Nat.reduceAdd, Nat.reduceLeDiff, Nat.reduceEqDiff, Nat.le_refl, not_true_eq_false, not_false_eq_true, reduceIte, eq_self, Int.reduceNeg, Int.reduceEq, Int.reduceLT, Int.reduceLE, Nat.zero_le, Nat.one_ne_zero]; trivial
  · omega
  · refine ⟨k0, 0, fun _ => 0, fun _ => 0, ⟨by rw [hσ0, kup_eq, if_pos rfl]; rfl, fun k hk => absurd hk (by omega), fun u w => ⟨fun ⟨k, hk, _⟩ => absurd hk (by omega), fun ⟨k, hk, _⟩ => absurd hk (by omega)⟩⟩, rfl⟩
  · rintro i s - - ⟨hk, -⟩
    have e2 := (hM.keep hk).2.1
    simp only [wpS_skip, wpS_break, wpS_cont, wpS_retV, wpS_throw, wpS_seq, wpS_if, wpS_trunc, yS_let, yS_inc, kgK_i, kgK_r, kok_nil, kok_i0, kok_is, kok_r0, kok_rs, kok_n0, kok_ns, xS_put, xS_putOp, xS_ast0, xS_ast1, xS_astOp, wpS_E, wpS_call, wpS_callS, wpS_ret, kThen_N, kThen_B, kThen_C, kThen_R, kThen_T, kNext_N, kNext_C, kNext_B, kNext_R, wpE_K, wpE_KL, xE_I, xE_R, wpE_J, xE_bin, wpE_ladd, wpE_i2l, xE_get, xE_ald0, xE_ald1, wpE_if, xE_max, xE_min, wpE_len, wpA_nil, wpA_snoc, xE_call, xE_callS, xC_C, xC_L, xC_Z, wpC_and, wpC_or, wpC_not, wpC_if, kcmp_0, kcmp_1, kcmp_2, kcmp_3, kcmp_4, kcmp_5, rR_inj, kgO_some, kgO_add, kgO_sub, kgO_mul, kgO_div, kgO_rem, kgO_and, kvI_inl, kvJ_inl, kgI_0, kgI_s, kgR_0, kgR_s, kst_nil, kst_0, kst_s, kNLl_nil, kNLl_i, kNLl_r, kNLl_n, ktag_i, ktag_r, List.length_cons, List.length_nil, List.take_succ_cons, List.take_zero, List.take_nil, List.nil_append, List.cons_append, decide_eq_true_eq, Bool.not_eq_true, Bool.not_eq_true', decide_eq_false_iff_not, ne_eq, Decidable.not_not, true_and, and_true, Nat.reduceAdd, Nat.reduceLeDiff, Nat.reduceEqDiff, Nat.le_refl, not_true_eq_false, not_false_eq_true, reduceIte, eq_self, Int.reduceNeg, Int.reduceEq, Int.reduceLT, Int.reduceLE, Nat.zero_le, Nat.one_ne_zero, ev_model, e2]
  · rintro i s - hi ⟨hk, P, pf, ps, hr, hP'⟩
    have M1 := hM.keep hk
    have e77 := M1.2.2.2.1 i hi
    have e71 := M1.2.2.2.2.1
    have e72 := M1.2.2.2.2.2.1
    obtain ⟨hl1, hl2, hl3⟩ := hli i hi
    have hb := @cntP_bound (fun j => ¬ tkn sp tk (li j) m) i
    refine wpS_gen (fun Q2 hQ2 => ?_)
    simp only [wpS_skip, wpS_break, wpS_cont, wpS_retV, wpS_throw, wpS_seq, wpS_if, wpS_trunc, yS_let, yS_inc, kgK_i, kgK_r, kok_nil, kok_i0, kok_is, kok_r0, kok_rs, kok_n0, kok_ns, xS_put, xS_putOp, xS_ast0, xS_ast1, xS_astOp, wpS_E, wpS_call, wpS_callS, wpS_ret, kThen_N, kThen_B, kThen_C, kThen_R, kThen_T, kNext_N, kNext_C, kNext_B, kNext_R, wpE_K, wpE_KL, xE_I, xE_R, wpE_J, xE_bin, wpE_ladd, wpE_i2l, xE_get, xE_ald0, xE_ald1, wpE_if, xE_max, xE_min, wpE_len, wpA_nil, wpA_snoc, xE_call, xE_callS, xC_C, xC_L, xC_Z, wpC_and, wpC_or, wpC_not, wpC_if, kcmp_0, kcmp_1, kcmp_2, kcmp_3, kcmp_4, kcmp_5, rR_inj, kgO_some, kgO_add, kgO_sub, kgO_mul, kgO_div, kgO_rem, kgO_and, kvI_inl, kvJ_inl, kgI_0, kgI_s, kgR_0, kgR_s, kst_nil, kst_0, kst_s, kNLl_nil, kNLl_i, kNLl_r, kNLl_n, ktag_i, ktag_r, List.length_cons, List.length_nil, List.take_succ_cons, List.take_zero, List.take_nil, List.nil_append, List.cons_append, decide_eq_true_eq, Bool.not_eq_true, Bool.not_eq_true', decide_eq_false_iff_not, ne_eq, Decidable.not_not, true_and, and_true, Nat.reduceAdd, Nat.reduceLeDiff, Nat.reduceEqDiff, Nat.le_refl, not_true_eq_false, not_false_eq_true, reduceIte, eq_self, Int.reduceNeg, Int.reduceEq, Int.reduceLT, Int.reduceLE, Nat.zero_le, Nat.one_ne_zero, ev_model, ev_model_arr, Int.toNat_natCast, e77, decide_true, decide_false, Bool.false_eq_true, if_true, if_false, true_and, and_true, not_true_eq_false, not_false_eq_true]
    repeat refine And.intro (by omega) ?_
    refine (mdIsTaken_ok (hP.keep hk) hO hm).mono ?_
    rintro r s' ⟨hs, hr'⟩
    subst s'
    rcases hr' with ⟨ht, rfl⟩ | ⟨ht, rfl⟩
    · rw [kgO_some]
      simp only [wpS_skip, wpS_break, wpS_cont, wpS_retV, wpS_throw, wpS_seq, wpS_if, wpS_trunc, yS_let, yS_inc, kgK_i, kgK_r, kok_nil, kok_i0, kok_is, kok_r0, kok_rs, kok_n0, kok_ns, xS_put, xS_putOp, xS_ast0, xS_ast1, xS_astOp, wpS_E, wpS_call, wpS_callS, wpS_ret, kThen_N, kThen_B, kThen_C, kThen_R, kThen_T, kNext_N, kNext_C, kNext_B, kNext_R, wpE_K, wpE_KL, xE_I, xE_R, wpE_J, xE_bin, wpE_ladd, wpE_i2l, xE_get, xE_ald0, xE_ald1, wpE_if, xE_max, xE_min, wpE_len, wpA_nil, wpA_snoc, xE_call, xE_callS, xC_C, xC_L, xC_Z, wpC_and, wpC_or, wpC_not, wpC_if, kcmp_0, kcmp_1, kcmp_2, kcmp_3, kcmp_4, kcmp_5, rR_inj, kgO_some, kgO_add, kgO_sub, kgO_mul, kgO_div, kgO_rem, kgO_and, kvI_inl, kvJ_inl, kgI_0, kgI_s, kgR_0, kgR_s, kst_nil, kst_0, kst_s, kNLl_nil, kNLl_i, kNLl_r, kNLl_n, ktag_i, ktag_r, List.length_cons, List.length_nil, List.take_succ_cons, List.take_zero, List.take_nil, List.nil_append, List.cons_append, decide_eq_true_eq, Bool.not_eq_true, Bool.not_eq_true', decide_eq_false_iff_not, ne_eq, Decidable.not_not, true_and, and_true, Nat.reduceAdd, Nat.reduceLeDiff, Nat.reduceEqDiff, Nat.le_refl, not_true_eq_false, not_false_eq_true, reduceIte, eq_self, Int.reduceNeg, Int.reduceEq, Int.reduceLT, Int.reduceLE, Nat.zero_le, Nat.one_ne_zero, decide_true, decide_false, Bool.false_eq_true, if_true, if_false, true_and, and_true, not_true_eq_false, not_false_eq_true]
      rw [hQ2]
      refine kStep_N rfl ⟨rfl, hk, P, pf, ps, hr.congr (fun u w => ?_), by rw [hP', cntP_succ_neg (fun h => h ht)]⟩
      refine ⟨fun ⟨j, j1, j2⟩ => ?_, fun ⟨j, j1, j2⟩ => ⟨j, by omega, j2⟩⟩
      by_cases e : j = i
      · subst e; exact absurd ht j2.1
      · exact ⟨j, by omega, j2⟩
    · rw [kgO_some]
      have e44 := hr.1
      simp only [wpS_skip, wpS_break, wpS_cont, wpS_retV, wpS_throw, wpS_seq, wpS_if, wpS_trunc, yS_let, yS_inc, kgK_i, kgK_r, kok_nil, kok_i0, kok_is, kok_r0, kok_rs, kok_n0, kok_ns, xS_put, xS_putOp, xS_ast0, xS_ast1, xS_astOp, wpS_E, wpS_call, wpS_callS, wpS_ret, kThen_N, kThen_B, kThen_C, kThen_R, kThen_T, kNext_N, kNext_C, kNext_B, kNext_R, wpE_K, wpE_KL, xE_I, xE_R, wpE_J, xE_bin, wpE_ladd, wpE_i2l, xE_get, xE_ald0, xE_ald1, wpE_if, xE_max, xE_min, wpE_len, wpA_nil, wpA_snoc, xE_call, xE_callS, xC_C, xC_L, xC_Z, wpC_and, wpC_or, wpC_not, wpC_if, kcmp_0, kcmp_1, kcmp_2, kcmp_3, kcmp_4, kcmp_5, rR_inj, kgO_some, kgO_add, kgO_sub, kgO_mul, kgO_div, kgO_rem, kgO_and, kvI_inl, kvJ_inl, kgI_0, kgI_s, kgR_0, kgR_s, kst_nil, kst_0, kst_s, kNLl_nil, kNLl_i, kNLl_r, kNLl_n, ktag_i, ktag_r, List.length_cons, List.length_nil, List.take_succ_cons, List.take_zero, List.take_nil, List.nil_append, List.cons_append, decide_eq_true_eq, Bool.not_eq_true, Bool.not_eq_true', decide_eq_false_iff_not, ne_eq, Decidable.not_not, true_and, and_true, Nat.reduceAdd, Nat.reduceLeDiff, Nat.reduceEqDiff, Nat.le_refl, not_true_eq_false, not_false_eq_true, reduceIte, eq_self, Int.reduceNeg, Int.reduceEq, Int.reduceLT, Int.reduceLE, Nat.zero_le, Nat.one_ne_zero, ev_model, ev_model_arr, Int.toNat_natCast, e77, e44, e71, e72, kup_ne, Nat.reduceEqDiff, decide_true, decide_false, Bool.false_eq_true, if_true, if_false, true_and, and_true, not_true_eq_false, not_false_eq_true]
      repeat refine And.intro (by omega) ?_
      rw [hQ2]
      refine kStep_N rfl ⟨rfl, ?_, P + 1, _, _, hr.add hl2 hl3 rfl (fun u w => ?_), by rw [hP', cntP_succ_pos (P := fun j => ¬ tkn sp tk (li j) m) ht]⟩
      · intro o k ho
        have := hk o k ho
        unfold mSc at ho
        rw [kup_other (by omega), kup_other (by omega), kup_other (by omega)]
        exact this
      · refine ⟨fun ⟨j, j1, j2⟩ => ?_, ?_⟩
        · by_cases e : j = i
          · subst e; exact Or.inr ⟨j2.2.1.symm, j2.2.2.symm⟩
          · exact Or.inl ⟨j, by omega, j2⟩
        · rintro (⟨j, j1, j2⟩ | ⟨e1, e2⟩)
          · exact ⟨j, by omega, j2⟩
          · exact ⟨i, by omega, ht, e1.symm, e2.symm⟩
  rintro s1 ⟨k1, P1, pf1, ps1, hr1, hP1⟩
  rw [hQ1]
  clear hQ1 Q1
  refine kThen_N.mpr ?_
  have hb1 := @cntP_bound (fun j => ¬ tkn sp tk (li j) m) c
  -- the puts
  refine wpS_seq' (fun Q1 hQ1 => ?_)
  unfold l_Md_plan_2
  refine wpS_fp (fun i s => sK σ s ∧ ∃ P pf ps, rowOk s n P pf ps (fun u w => (∃ j, j < c ∧ ¬ tkn sp tk (li j) m ∧ fs (li j) = u ∧ sn (li j) = w) ∨ (∃ k, k < i ∧ sp k ≠ 0 ∧ ¬ tkn sp tk (-1 - (k : Int)) m ∧ sf k = u ∧ ss k = w)) ∧ P = P1 + cntP (fun k => sp k ≠ 0 ∧ ¬ tkn sp tk (-1 - (k : Int)) m) i) 0 m rfl rfl ?_ ?_ ?_ ?_ ?_ ?_
  · simp only [wpS_skip, wpS_break, wpS_cont, wpS_retV, wpS_throw, wpS_seq, wpS_if, wpS_trunc, yS_let, yS_inc, kgK_i, kgK_r, kok_nil, kok_i0, kok_is, kok_r0, kok_rs, kok_n0, kok_ns, xS_put, xS_putOp, xS_ast0, xS_ast1, xS_astOp, wpS_E, wpS_call, wpS_callS, wpS_ret, kThen_N, kThen_B, kThen_C, kThen_R, kThen_T, kNext_N, kNext_C, kNext_B, kNext_R, wpE_K, wpE_KL, xE_I, xE_R, wpE_J, xE_bin, wpE_ladd, wpE_i2l, xE_get, xE_ald0, xE_ald1, wpE_if, xE_max, xE_min, wpE_len, wpA_nil, wpA_snoc, xE_call, xE_callS, xC_C, xC_L, xC_Z, wpC_and, wpC_or, wpC_not, wpC_if, kcmp_0, kcmp_1, kcmp_2, kcmp_3, kcmp_4, kcmp_5, rR_inj, kgO_some, kgO_add, kgO_sub, kgO_mul, kgO_div, kgO_rem, kgO_and, kvI_inl, kvJ_inl, kgI_0, kgI_s, kgR_0, kgR_s, kst_nil, kst_0, kst_s, kNLl_nil, kNLl_i, kNLl_r, kNLl_n, ktag_i, ktag_r, List.length_cons, List.length_nil, List.take_succ_cons, List.take_zero, List.take_nil, List.nil_append, List.cons_append, decide_eq_true_eq, Bool.not_eq_true, Bool.not_eq_true', decide_eq_false_iff_not, ne_eq, Decidable.not_not, true_and, and_true, Nat.reduceAdd, Nat.reduceLeDiff, Nat.reduceEqDiff, Nat.le_refl, not_true_eq_false, not_false_eq_true, reduceIte, eq_self, Int.reduceNeg, Int.reduceEq, Int.reduceLT, Int.reduceLE, Nat.zero_le, Nat.one_ne_zero]; trivial
  · omega
  · refine ⟨k1, P1, pf1, ps1, hr1.congr (fun u w => ⟨fun h => h.resolve_right (fun ⟨k, hk, _⟩ => absurd hk (by omega)), Or.inl⟩), rfl⟩
  · rintro i s - - ⟨hk, -⟩
    simp only [wpS_skip, wpS_break, wpS_cont, wpS_retV, wpS_throw, wpS_seq, wpS_if, wpS_trunc, yS_let, yS_inc, kgK_i, kgK_r, kok_nil, kok_i0, kok_is, kok_r0, kok_rs, kok_n0, kok_ns, xS_put, xS_putOp, xS_ast0, xS_ast1, xS_astOp, wpS_E, wpS_call, wpS_callS, wpS_ret, kThen_N, kThen_B, kThen_C, kThen_R, kThen_T, kNext_N, kNext_C, kNext_B, kNext_R, wpE_K, wpE_KL, xE_I, xE_R, wpE_J, xE_bin, wpE_ladd, wpE_i2l, xE_get, xE_ald0, xE_ald1, wpE_if, xE_max, xE_min, wpE_len, wpA_nil, wpA_snoc, xE_call, xE_callS, xC_C, xC_L, xC_Z, wpC_and, wpC_or, wpC_not, wpC_if, kcmp_0, kcmp_1, kcmp_2, kcmp_3, kcmp_4, kcmp_5, rR_inj, kgO_some, kgO_add, kgO_sub, kgO_mul, kgO_div, kgO_rem, kgO_and, kvI_inl, kvJ_inl, kgI_0, kgI_s, kgR_0, kgR_s, kst_nil, kst_0, kst_s, kNLl_nil, kNLl_i, kNLl_r, kNLl_n, ktag_i, ktag_r, List.length_cons, List.length_nil, List.take_succ_cons, List.take_zero, List.take_nil, List.nil_append, List.cons_append, decide_eq_true_eq, Bool.not_eq_true, Bool.not_eq_true', decide_eq_false_iff_not, ne_eq, Decidable.not_not, true_and, and_true, Nat.reduceAdd, Nat.reduceLeDiff, Nat.reduceEqDiff, Nat.le_refl, not_true_eq_false, not_false_eq_true, reduceIte, eq_self, Int.reduceNeg, Int.reduceEq, Int.reduceLT, Int.reduceLE, Nat.zero_le, Nat.one_ne_zero]
  · rintro i s - hi ⟨hk, P, pf, ps, hr, hP'⟩
    have M1 := hM.keep hk
    obtain ⟨e81, e82, -⟩ := (hP.keep hk).2 i (by omega)
    have hb := @cntP_bound (fun k => sp k ≠ 0 ∧ ¬ tkn sp tk (-1 - (k : Int)) m) i
    have s81 := o2 i (by omega)
    refine wpS_gen (fun Q2 hQ2 => ?_)
    have skip : ¬ (sp i ≠ 0 ∧ ¬ tkn sp tk (-1 - (i : Int)) m) → Q2 rN [some (Sum.inr (Sum.inl 14)), some (Sum.inl (m : Int)), some (Sum.inl (i : Int))] s := by
      intro ht
      rw [hQ2]
      refine kStep_N rfl ⟨rfl, hk, P, pf, ps, hr.congr (fun u w => or_congr Iff.rfl ?_), by rw [hP', cntP_succ_neg (P := fun k => sp k ≠ 0 ∧ ¬ tkn sp tk (-1 - (k : Int)) m) ht]⟩
      refine ⟨fun ⟨j, j1, j2⟩ => ?_, fun ⟨j, j1, j2⟩ => ⟨j, by omega, j2⟩⟩
      by_cases e : j = i
      · subst e; exact absurd ⟨j2.1, j2.2.1⟩ ht
      · exact ⟨j, by omega, j2⟩
    by_cases q : sp i = 0
    · simp only [wpS_skip, wpS_break, wpS_cont, wpS_retV, wpS_throw, wpS_seq, wpS_if, wpS_trunc, yS_let, yS_inc, kgK_i, kgK_r, kok_nil, kok_i0, kok_is, kok_r0, kok_rs, kok_n0, kok_ns, xS_put, xS_putOp, xS_ast0, xS_ast1, xS_astOp, wpS_E, wpS_call, wpS_callS, wpS_ret, kThen_N, kThen_B, kThen_C, kThen_R, kThen_T, kNext_N, kNext_C, kNext_B, kNext_R, wpE_K, wpE_KL, xE_I, xE_R, wpE_J, xE_bin, wpE_ladd, wpE_i2l, xE_get, xE_ald0, xE_ald1, wpE_if, xE_max, xE_min, wpE_len, wpA_nil, wpA_snoc, xE_call, xE_callS, xC_C, xC_L, xC_Z, wpC_and, wpC_or, wpC_not, wpC_if, kcmp_0, kcmp_1, kcmp_2, kcmp_3, kcmp_4, kcmp_5, rR_inj, kgO_some, kgO_add, kgO_sub, kgO_mul, kgO_div, kgO_rem, kgO_and, kvI_inl, kvJ_inl, kgI_0, kgI_s, kgR_0, kgR_s, kst_nil, kst_0, kst_s, kNLl_nil, kNLl_i, kNLl_r, kNLl_n, ktag_i, ktag_r, List.length_cons, List.length_nil, List.take_succ_cons, List.take_zero, List.take_nil, List.nil_append, List.cons_append, decide_eq_true_eq, Bool.not_eq_true, Bool.not_eq_true', decide_eq_false_iff_not, ne_eq, Decidable.not_not, true_and, and_true, Nat.reduceAdd, Nat.reduceLeDiff, Nat.reduceEqDiff, Nat.le_refl, not_true_eq_false, not_false_eq_true, reduceIte, eq_self, Int.reduceNeg, Int.reduceEq, Int.reduceLT, Int.reduceLE, Nat.zero_le, Nat.one_ne_zero, ev_model, ev_model_arr, Int.toNat_natCast, e81, q, decide_true, decide_false, Bool.false_eq_true, if_true, if_false, true_and, and_true, not_true_eq_false, not_false_eq_true]
      repeat refine And.intro (by omega) ?_
      exact skip (fun h => h.1 q)
    · obtain ⟨q1, q2, q3⟩ : sp i = 1 ∧ sf i < n ∧ ss i < n := by
        rcases s81 with h | h
        · exact h
        · exact absurd h.1 q
      obtain ⟨e82, e83⟩ := e82 q1
      simp only [wpS_skip, wpS_break, wpS_cont, wpS_retV, wpS_throw, wpS_seq, wpS_if, wpS_trunc, yS_let, yS_inc, kgK_i, kgK_r, kok_nil, kok_i0, kok_is, kok_r0, kok_rs, kok_n0, kok_ns, xS_put, xS_putOp, xS_ast0, xS_ast1, xS_astOp, wpS_E, wpS_call, wpS_callS, wpS_ret, kThen_N, kThen_B, kThen_C, kThen_R, kThen_T, kNext_N, kNext_C, kNext_B, kNext_R, wpE_K, wpE_KL, xE_I, xE_R, wpE_J, xE_bin, wpE_ladd, wpE_i2l, xE_get, xE_ald0, xE_ald1, wpE_if, xE_max, xE_min, wpE_len, wpA_nil, wpA_snoc, xE_call, xE_callS, xC_C, xC_L, xC_Z, wpC_and, wpC_or, wpC_not, wpC_if, kcmp_0, kcmp_1, kcmp_2, kcmp_3, kcmp_4, kcmp_5, rR_inj, kgO_some, kgO_add, kgO_sub, kgO_mul, kgO_div, kgO_rem, kgO_and, kvI_inl, kvJ_inl, kgI_0, kgI_s, kgR_0, kgR_s, kst_nil, kst_0, kst_s, kNLl_nil, kNLl_i, kNLl_r, kNLl_n, ktag_i, ktag_r, List.length_cons, List.length_nil, List.take_succ_cons, List.take_zero, List.take_nil, List.nil_append, List.cons_append, decide_eq_true_eq, Bool.not_eq_true, Bool.not_eq_true', decide_eq_false_iff_not, ne_eq, Decidable.not_not, true_and, and_true, Nat.reduceAdd, Nat.reduceLeDiff, Nat.reduceEqDiff, Nat.le_refl, not_true_eq_false, not_false_eq_true, reduceIte, eq_self, Int.reduceNeg, Int.reduceEq, Int.reduceLT, Int.reduceLE, Nat.zero_le, Nat.one_ne_zero, ev_model, ev_model_arr, Int.toNat_natCast, e81, q1, decide_true, decide_false, Bool.false_eq_true, if_true, if_false, true_and, and_true, not_true_eq_false, not_false_eq_true]
      repeat refine And.intro (by omega) ?_
      refine (mdIsTaken_ok (hP.keep hk) hO hm).mono ?_
      rintro r s' ⟨hs, hr'⟩
      subst s'
      rcases hr' with ⟨ht, rfl⟩ | ⟨ht, rfl⟩
      · rw [kgO_some]
        simp only [wpS_skip, wpS_break, wpS_cont, wpS_retV, wpS_throw, wpS_seq, wpS_if, wpS_trunc, yS_let, yS_inc, kgK_i, kgK_r, kok_nil, kok_i0, kok_is, kok_r0, kok_rs, kok_n0, kok_ns, xS_put, xS_putOp, xS_ast0, xS_ast1, xS_astOp, wpS_E, wpS_call, wpS_callS, wpS_ret, kThen_N, kThen_B, kThen_C, kThen_R, kThen_T, kNext_N, kNext_C, kNext_B, kNext_R, wpE_K, wpE_KL, xE_I, xE_R, wpE_J, xE_bin, wpE_ladd, wpE_i2l, xE_get, xE_ald0, xE_ald1, wpE_if, xE_max, xE_min, wpE_len, wpA_nil, wpA_snoc, xE_call, xE_callS, xC_C, xC_L, xC_Z, wpC_and, wpC_or, wpC_not, wpC_if, kcmp_0, kcmp_1, kcmp_2, kcmp_3, kcmp_4, kcmp_5, rR_inj, kgO_some, kgO_add, kgO_sub, kgO_mul, kgO_div, kgO_rem, kgO_and, kvI_inl, kvJ_inl, kgI_0, kgI_s, kgR_0, kgR_s, kst_nil, kst_0, kst_s, kNLl_nil, kNLl_i, kNLl_r, kNLl_n, ktag_i, ktag_r, List.length_cons, List.length_nil, List.take_succ_cons, List.take_zero, List.take_nil, List.nil_append, List.cons_append, decide_eq_true_eq, Bool.not_eq_true, Bool.not_eq_true', decide_eq_false_iff_not, ne_eq, Decidable.not_not, true_and, and_true, Nat.reduceAdd, Nat.reduceLeDiff, Nat.reduceEqDiff, Nat.le_refl, not_true_eq_false, not_false_eq_true, reduceIte, eq_self, Int.reduceNeg, Int.reduceEq, Int.reduceLT, Int.reduceLE, Nat.zero_le, Nat.one_ne_zero, decide_true, decide_false, Bool.false_eq_true, if_true, if_false, true_and, and_true, not_true_eq_false, not_false_eq_true]
        exact skip (fun h => h.2 ht)
      · rw [kgO_some]
        have e44 := hr.1
        simp only [wpS_skip, wpS_break, wpS_cont, wpS_retV, wpS_throw, wpS_seq, wpS_if, wpS_trunc, yS_let, yS_inc, kgK_i, kgK_r, kok_nil, kok_i0, kok_is, kok_r0, kok_rs, kok_n0, kok_ns, xS_put, xS_putOp, xS_ast0, xS_ast1, xS_astOp, wpS_E, wpS_call, wpS_callS, wpS_ret, kThen_N, kThen_B, kThen_C, kThen_R, kThen_T, kNext_N, kNext_C, kNext_B, kNext_R, wpE_K, wpE_KL, xE_I, xE_R, wpE_J, xE_bin, wpE_ladd, wpE_i2l, xE_get, xE_ald0, xE_ald1, wpE_if, xE_max, xE_min, wpE_len, wpA_nil, wpA_snoc, xE_call, xE_callS, xC_C, xC_L, xC_Z, wpC_and, wpC_or, wpC_not, wpC_if, kcmp_0, kcmp_1, kcmp_2, kcmp_3, kcmp_4, kcmp_5, rR_inj, kgO_some, kgO_add, kgO_sub, kgO_mul, kgO_div, kgO_rem, kgO_and, kvI_inl, kvJ_inl, kgI_0, kgI_s, kgR_0, kgR_s, kst_nil, kst_0, kst_s, kNLl_nil, kNLl_i, kNLl_r, kNLl_n, ktag_i, ktag_r, List.length_cons, List.length_nil, List.take_succ_cons, List.take_zero, List.take_nil, List.nil_append, List.cons_append, decide_eq_true_eq, Bool.not_eq_true, Bool.not_eq_true', decide_eq_false_iff_not, ne_eq, Decidable.not_not, true_and, and_true, Nat.reduceAdd, Nat.reduceLeDiff, Nat.reduceEqDiff, Nat.le_refl, not_true_eq_false, not_false_eq_true, reduceIte, eq_self, Int.reduceNeg, Int.reduceEq, Int.reduceLT, Int.reduceLE, Nat.zero_le, Nat.one_ne_zero, ev_model, ev_model_arr, Int.toNat_natCast, e82, e83, e44, kup_ne, Nat.reduceEqDiff, decide_true, decide_false, Bool.false_eq_true, if_true, if_false, true_and, and_true, not_true_eq_false, not_false_eq_true]
        repeat refine And.intro (by omega) ?_
        rw [hQ2]
        refine kStep_N rfl ⟨rfl, ?_, P + 1, _, _, hr.add q2 q3 rfl (fun u w => ?_), by rw [hP', cntP_succ_pos (P := fun k => sp k ≠ 0 ∧ ¬ tkn sp tk (-1 - (k : Int)) m) ⟨q, ht⟩]; omega⟩
        · intro o k ho
          have := hk o k ho
          unfold mSc at ho
          rw [kup_other (by omega), kup_other (by omega), kup_other (by omega)]
          exact this
        · rw [or_assoc]
          refine or_congr Iff.rfl ⟨fun ⟨j, j1, j2⟩ => ?_, ?_⟩
          · by_cases e : j = i
            · subst e; exact Or.inr ⟨j2.2.2.1.symm, j2.2.2.2.symm⟩
            · exact Or.inl ⟨j, by omega, j2⟩
          · rintro (⟨j, j1, j2⟩ | ⟨e1, e2⟩)
            · exact ⟨j, by omega, j2⟩
            · exact ⟨i, by omega, q, ht, e1.symm, e2.symm⟩
  rintro s2 ⟨k2, P, pf, ps, hr2, hP2⟩
  rw [hQ1]
  clear hQ1 Q1
  refine kThen_N.mpr ?_
  have hb2 := @cntP_bound (fun k => sp k ≠ 0 ∧ ¬ tkn sp tk (-1 - (k : Int)) m) m
  have hPC : (P : Int) = plC c sp m := by rw [← plC_count hG hO m hm, hP2, hP1]; omega
  have hrA : rowOk s2 n P pf ps A := hr2.congr (fun u w => by rw [hA]; exact Iff.rfl)
  clear hr2
  have hAp : A = prE P pf ps := by
    funext u w
    exact propext (hrA.2.2 u w).symm
  -- cleared
  refine wpS_seq' (fun Q1 hQ1 => ?_)
  unfold l_Md_plan_3
  refine wpS_fp (fun i s => (∀ o k, o ≠ 107 → o ≠ 109 → s o k = s2 o k) ∧ ∀ v, v < i → s 107 v = -1 ∧ s 109 v = 0) 0 n rfl rfl ?_ ?_ ?_ ?_ ?_ ?_
  · simp only [wpS_skip, wpS_break, wpS_cont, wpS_retV, wpS_throw, wpS_seq, wpS_if, wpS_trunc, yS_let, yS_inc, kgK_i, kgK_r, kok_nil, kok_i0, kok_is, kok_r0, kok_rs, kok_n0, kok_ns, xS_put, xS_putOp, xS_ast0, xS_ast1, xS_astOp, wpS_E, wpS_call, wpS_callS, wpS_ret, kThen_N, kThen_B, kThen_C, kThen_R, kThen_T, kNext_N, kNext_C, kNext_B, kNext_R, wpE_K, wpE_KL, xE_I, xE_R, wpE_J, xE_bin, wpE_ladd, wpE_i2l, xE_get, xE_ald0, xE_ald1, wpE_if, xE_max, xE_min, wpE_len, wpA_nil, wpA_snoc, xE_call, xE_callS, xC_C, xC_L, xC_Z, wpC_and, wpC_or, wpC_not, wpC_if, kcmp_0, kcmp_1, kcmp_2, kcmp_3, kcmp_4, kcmp_5, rR_inj, kgO_some, kgO_add, kgO_sub, kgO_mul, kgO_div, kgO_rem, kgO_and, kvI_inl, kvJ_inl, kgI_0, kgI_s, kgR_0, kgR_s, kst_nil, kst_0, kst_s, kNLl_nil, kNLl_i, kNLl_r, kNLl_n, ktag_i, ktag_r, List.length_cons, List.length_nil, List.take_succ_cons, List.take_zero, List.take_nil, List.nil_append, List.cons_append, decide_eq_true_eq, Bool.not_eq_true, Bool.not_eq_true', decide_eq_false_iff_not, ne_eq, Decidable.not_not, true_and, and_true, Nat.reduceAdd, Nat.reduceLeDiff, Nat.reduceEqDiff, Nat.le_refl, not_true_eq_false, not_false_eq_true, reduceIte, eq_self, Int.reduceNeg, Int.reduceEq, Int.reduceLT, Int.reduceLE, Nat.zero_le, Nat.one_ne_zero]; trivial
  · omega
  · exact ⟨fun _ _ _ _ => rfl, fun v hv => absurd hv (by omega)⟩
  · rintro i s - - ⟨q1, -⟩
    have e1 : s 14 1 = (n : Int) := by rw [q1 _ _ (by decide) (by decide)]; exact (hM.keep k2).1
    simp only [wpS_skip, wpS_break, wpS_cont, wpS_retV, wpS_throw, wpS_seq, wpS_if, wpS_trunc, yS_let, yS_inc, kgK_i, kgK_r, kok_nil, kok_i0, kok_is, kok_r0, kok_rs, kok_n0, kok_ns, xS_put, xS_putOp, xS_ast0, xS_ast1, xS_astOp, wpS_E, wpS_call, wpS_callS, wpS_ret, kThen_N, kThen_B, kThen_C, kThen_R, kThen_T, kNext_N, kNext_C, kNext_B, kNext_R, wpE_K, wpE_KL, xE_I, xE_R, wpE_J, xE_bin, wpE_ladd, wpE_i2l, xE_get, xE_ald0, xE_ald1, wpE_if, xE_max, xE_min, wpE_len, wpA_nil, wpA_snoc, xE_call, xE_callS, xC_C, xC_L, xC_Z, wpC_and, wpC_or, wpC_not, wpC_if, kcmp_0, kcmp_1, kcmp_2, kcmp_3, kcmp_4, kcmp_5, rR_inj, kgO_some, kgO_add, kgO_sub, kgO_mul, kgO_div, kgO_rem, kgO_and, kvI_inl, kvJ_inl, kgI_0, kgI_s, kgR_0, kgR_s, kst_nil, kst_0, kst_s, kNLl_nil, kNLl_i, kNLl_r, kNLl_n, ktag_i, ktag_r, List.length_cons, List.length_nil, List.take_succ_cons, List.take_zero, List.take_nil, List.nil_append, List.cons_append, decide_eq_true_eq, Bool.not_eq_true, Bool.not_eq_true', decide_eq_false_iff_not, ne_eq, Decidable.not_not, true_and, and_true, Nat.reduceAdd, Nat.reduceLeDiff, Nat.reduceEqDiff, Nat.le_refl, not_true_eq_false, not_false_eq_true, reduceIte, eq_self, Int.reduceNeg, Int.reduceEq, Int.reduceLT, Int.reduceLE, Nat.zero_le, Nat.one_ne_zero, ev_model, e1]
  · rintro i s - hi ⟨q1, q2⟩
    refine wpS_gen (fun Q2 hQ2 => ?_)
    simp only [wpS_skip, wpS_break, wpS_cont, wpS_retV, wpS_throw, wpS_seq, wpS_if, wpS_trunc, yS_let, yS_inc, kgK_i, kgK_r, kok_nil, kok_i0, kok_is, kok_r0, kok_rs, kok_n0, kok_ns, xS_put, xS_putOp, xS_ast0, xS_ast1, xS_astOp, wpS_E, wpS_call, wpS_callS, wpS_ret, kThen_N, kThen_B, kThen_C, kThen_R, kThen_T, kNext_N, kNext_C, kNext_B, kNext_R, wpE_K, wpE_KL, xE_I, xE_R, wpE_J, xE_bin, wpE_ladd, wpE_i2l, xE_get, xE_ald0, xE_ald1, wpE_if, xE_max, xE_min, wpE_len, wpA_nil, wpA_snoc, xE_call, xE_callS, xC_C, xC_L, xC_Z, wpC_and, wpC_or, wpC_not, wpC_if, kcmp_0, kcmp_1, kcmp_2, kcmp_3, kcmp_4, kcmp_5, rR_inj, kgO_some, kgO_add, kgO_sub, kgO_mul, kgO_div, kgO_rem, kgO_and, kvI_inl, kvJ_inl, kgI_0, kgI_s, kgR_0, kgR_s, kst_nil, kst_0, kst_s, kNLl_nil, kNLl_i, kNLl_r, kNLl_n, ktag_i, ktag_r, List.length_cons, List.length_nil, List.take_succ_cons, List.take_zero, List.take_nil, List.nil_append, List.cons_append, decide_eq_true_eq, Bool.not_eq_true, Bool.not_eq_true', decide_eq_false_iff_not, ne_eq, Decidable.not_not, true_and, and_true, Nat.reduceAdd, Nat.reduceLeDiff, Nat.reduceEqDiff, Nat.le_refl, not_true_eq_false, not_false_eq_true, reduceIte, eq_self, Int.reduceNeg, Int.reduceEq, Int.reduceLT, Int.reduceLE, Nat.zero_le, Nat.one_ne_zero, ev_model, ev_model_arr, Int.toNat_natCast]
    refine ⟨by omega, by omega, by simp, ?_⟩
    rw [hQ2]
    refine kStep_N rfl ⟨rfl, fun o k h1 h2 => by rw [kup_ne h2, kup_ne h1]; exact q1 o k h1 h2, fun v hv => ?_⟩
    rw [kup_ne (by decide), kup_eq, kup_eq, kup_ne (by decide)]
    by_cases e : v = i
    · simp only [e, if_true]; exact ⟨trivial, trivial⟩
    · simp only [e, if_false]; exact q2 v (by omega)
  rintro s3 ⟨q31, q32⟩
  rw [hQ1]
  clear hQ1 Q1
  refine kThen_N.mpr ?_
  -- spread
  refine wpS_gen (fun Q1 hQ1 => ?_)
  unfold l_Md_plan_4
  refine wpS_fp (fun i s => (∀ o k, o ≠ 107 → o ≠ 88 → o ≠ 109 → s o k = s3 o k) ∧ ∀ u, u < n → ((s 107 u = -1 ∧ ∀ w, w < i → ¬ rch (jE A) u w) ∨ ∃ g : Nat, g < i ∧ g < n ∧ s 107 u = (g : Int) ∧ leastIs A u g) ∧ (u < i → leastIs A u u → (s 109 u = 1 ∧ ¬ ∃ f, colA A u f) ∨ (s 109 u = 0 ∧ ∃ f, colA A u f)) ∧ (i ≤ u → s 109 u = 0)) 0 n rfl rfl ?_ ?_ ?_ ?_ ?_ ?_
  · simp only [wpS_skip, wpS_break, wpS_cont, wpS_retV, wpS_throw, wpS_seq, wpS_if, wpS_trunc, yS_let, yS_inc, kgK_i, kgK_r, kok_nil, kok_i0, kok_is, kok_r0, kok_rs, kok_n0, kok_ns, xS_put, xS_putOp, xS_ast0, xS_ast1, xS_astOp, wpS_E, wpS_call, wpS_callS, wpS_ret, kThen_N, kThen_B, kThen_C, kThen_R, kThen_T, kNext_N, kNext_C, kNext_B, kNext_R, wpE_K, wpE_KL, xE_I, xE_R, wpE_J, xE_bin, wpE_ladd, wpE_i2l, xE_get, xE_ald0, xE_ald1, wpE_if, xE_max, xE_min, wpE_len, wpA_nil, wpA_snoc, xE_call, xE_callS, xC_C, xC_L, xC_Z, wpC_and, wpC_or, wpC_not, wpC_if, kcmp_0, kcmp_1, kcmp_2, kcmp_3, kcmp_4, kcmp_5, rR_inj, kgO_some, kgO_add, kgO_sub, kgO_mul, kgO_div, kgO_rem, kgO_and, kvI_inl, kvJ_inl, kgI_0, kgI_s, kgR_0, kgR_s, kst_nil, kst_0, kst_s, kNLl_nil, kNLl_i, kNLl_r, kNLl_n, ktag_i, ktag_r, List.length_cons, List.length_nil, List.take_succ_cons, List.take_zero, List.take_nil, List.nil_append, List.cons_append, decide_eq_true_eq, Bool.not_eq_true, Bool.not_eq_true', decide_eq_false_iff_not, ne_eq, Decidable.not_not, true_and, and_true, Nat.reduceAdd, Nat.reduceLeDiff, Nat.reduceEqDiff, Nat.le_refl, not_true_eq_false, not_false_eq_true, reduceIte, eq_self, Int.reduceNeg, Int.reduceEq, Int.reduceLT, Int.reduceLE, Nat.zero_le, Nat.one_ne_zero]; trivial
  · omega
  · exact ⟨fun _ _ _ _ _ => rfl, fun u hu => ⟨Or.inl ⟨(q32 u hu).1, fun w hw => absurd hw (by omega)⟩, fun h => absurd h (by omega), fun _ => (q32 u hu).2⟩⟩
  · rintro i s - - ⟨q1, -⟩
    have e1 : s 14 1 = (n : Int) := by rw [q1 _ _ (by decide) (by decide) (by decide), q31 _ _ (by decide) (by decide)]; exact (hM.keep k2).1
    simp only [wpS_skip, wpS_break, wpS_cont, wpS_retV, wpS_throw, wpS_seq, wpS_if, wpS_trunc, yS_let, yS_inc, kgK_i, kgK_r, kok_nil, kok_i0, kok_is, kok_r0, kok_rs, kok_n0, kok_ns, xS_put, xS_putOp, xS_ast0, xS_ast1, xS_astOp, wpS_E, wpS_call, wpS_callS, wpS_ret, kThen_N, kThen_B, kThen_C, kThen_R, kThen_T, kNext_N, kNext_C, kNext_B, kNext_R, wpE_K, wpE_KL, xE_I, xE_R, wpE_J, xE_bin, wpE_ladd, wpE_i2l, xE_get, xE_ald0, xE_ald1, wpE_if, xE_max, xE_min, wpE_len, wpA_nil, wpA_snoc, xE_call, xE_callS, xC_C, xC_L, xC_Z, wpC_and, wpC_or, wpC_not, wpC_if, kcmp_0, kcmp_1, kcmp_2, kcmp_3, kcmp_4, kcmp_5, rR_inj, kgO_some, kgO_add, kgO_sub, kgO_mul, kgO_div, kgO_rem, kgO_and, kvI_inl, kvJ_inl, kgI_0, kgI_s, kgR_0, kgR_s, kst_nil, kst_0, kst_s, kNLl_nil, kNLl_i, kNLl_r, kNLl_n, ktag_i, ktag_r, List.length_cons, List.length_nil, List.take_succ_cons, List.take_zero, List.take_nil, List.nil_append, List.cons_append, decide_eq_true_eq, Bool.not_eq_true, Bool.not_eq_true', decide_eq_false_iff_not, ne_eq, Decidable.not_not, true_and, and_true, Nat.reduceAdd, Nat.reduceLeDiff, Nat.reduceEqDiff, Nat.le_refl, not_true_eq_false, not_false_eq_true, reduceIte, eq_self, Int.reduceNeg, Int.reduceEq, Int.reduceLT, Int.reduceLE, Nat.zero_le, Nat.one_ne_zero, ev_model, e1]
  · rintro i s - hi ⟨q1, q2⟩
    have e44 : s 14 44 = (P : Int) := by rw [q1 _ _ (by decide) (by decide) (by decide), q31 _ _ (by decide) (by decide)]; exact hrA.1
    have hp : ∀ k, k < P → s 105 k = (pf k : Int) ∧ s 106 k = (ps k : Int) ∧ pf k < n ∧ ps k < n := fun k hk => by
      rw [q1 _ _ (by decide) (by decide) (by decide), q31 _ _ (by decide) (by decide), q1 _ _ (by decide) (by decide) (by decide), q31 _ _ (by decide) (by decide)]; exact hrA.2.1 k hk
    refine wpS_gen (fun Q2 hQ2 => ?_)
    by_cases z : s 107 i = -1
    · simp only [wpS_skip, wpS_break, wpS_cont, wpS_retV, wpS_throw, wpS_seq, wpS_if, wpS_trunc, yS_let, yS_inc, kgK_i, kgK_r, kok_nil, kok_i0, kok_is, kok_r0, kok_rs, kok_n0, kok_ns, xS_put, xS_putOp, xS_ast0, xS_ast1, xS_astOp, wpS_E, wpS_call, wpS_callS, wpS_ret, kThen_N, kThen_B, kThen_C, kThen_R, kThen_T, kNext_N, kNext_C, kNext_B, kNext_R, wpE_K, wpE_KL, xE_I, xE_R, wpE_J, xE_bin, wpE_ladd, wpE_i2l, xE_get, xE_ald0, xE_ald1, wpE_if, xE_max, xE_min, wpE_len, wpA_nil, wpA_snoc, xE_call, xE_callS, xC_C, xC_L, xC_Z, wpC_and, wpC_or, wpC_not, wpC_if, kcmp_0, kcmp_1, kcmp_2, kcmp_3, kcmp_4, kcmp_5, rR_inj, kgO_some, kgO_add, kgO_sub, kgO_mul, kgO_div, kgO_rem, kgO_and, kvI_inl, kvJ_inl, kgI_0, kgI_s, kgR_0, kgR_s, kst_nil, kst_0, kst_s, kNLl_nil, kNLl_i, kNLl_r, kNLl_n, ktag_i, ktag_r, List.length_cons, List.length_nil, List.take_succ_cons, List.take_zero, List.take_nil, List.nil_append, List.cons_append, decide_eq_true_eq, Bool.not_eq_true, Bool.not_eq_true', decide_eq_false_iff_not, ne_eq, Decidable.not_not, true_and, and_true, Nat.reduceAdd, Nat.reduceLeDiff, Nat.reduceEqDiff, Nat.le_refl, not_true_eq_false, not_false_eq_true, reduceIte, eq_self, Int.reduceNeg, Int.reduceEq, Int.reduceLT, Int.reduceLE, Nat.zero_le, Nat.one_ne_zero, ev_model, ev_model_arr, Int.toNat_natCast, z, decide_true, decide_false, Bool.false_eq_true, if_true, if_false, true_and, and_true, not_true_eq_false, not_false_eq_true]
      repeat refine And.intro (by omega) ?_
      have hi' : ∀ w, w < i → ¬ rch (jE A) i w := by
        rcases (q2 i hi).1 with t | ⟨g, -, -, t, -⟩
        · exact t.2
        · omega
      have hno : ∀ u, u < n → s 107 u ≠ (i : Int) := fun u hu => by
        rcases (q2 u hu).1 with t | ⟨g, t1, -, t, -⟩ <;> omega
      have hcl : ∀ k, k < P → (s 107 (pf k) = -1 ↔ s 107 (ps k) = -1) := by
        intro k hk
        obtain ⟨-, -, y1, y2⟩ := hp k hk
        have ed : jE A (pf k) (ps k) := Or.inl (by rw [hAp]; exact ⟨k, hk, rfl, rfl⟩)
        rcases (q2 _ y1).1 with ⟨t1, t2⟩ | ⟨g, t1, -, t2, t3⟩ <;> rcases (q2 _ y2).1 with ⟨t4, t5⟩ | ⟨g', t4, -, t5, t6⟩
        · rw [t1, t4]
        · exact absurd (rch.cons ed t6.1) (t2 g' t4)
        · exact absurd (rch.cons (Or.symm ed) t3.1) (t5 g t1)
        · omega
      refine (mdSpread_ok hn3 (by omega) e44 hi hp hAp z hno hcl).mono ?_
      rintro r s' ⟨rfl, b1, b2, b3⟩
      refine ⟨rfl, ?_⟩
      rw [hQ2]
      refine kStep_N rfl ⟨rfl, fun o k h1 h2 h3 => by rw [b1 o k h1 h2 (Or.inl h3)]; exact q1 o k h1 h2 h3, fun u hu => ⟨?_, ?_, ?_⟩⟩
      · rcases b2 u hu with ⟨t1, t2⟩ | ⟨t1, t2⟩
        · refine Or.inr ⟨i, by omega, hi, t2, jE.rsymm t1, fun w hw => ?_⟩
          exact Nat.le_of_not_lt fun h => hi' w h (t1.trans hw)
        · rw [t2]
          rcases (q2 u hu).1 with ⟨t3, t4⟩ | ⟨g, t3, t4⟩
          · refine Or.inl ⟨t3, fun w hw => ?_⟩
            by_cases e : w = i
            · subst e; exact fun h => t1 (jE.rsymm h)
            · exact t4 w (by omega)
          · exact Or.inr ⟨g, by omega, t4⟩
      · intro hu1 hl
        by_cases e : u = i
        · subst e
          rcases b3 with t | t
          · exact Or.inl t
          · exact Or.inr ⟨by rw [t.1]; exact (q2 u hu).2.2 (Nat.le_refl _), t.2⟩
        · rw [b1 _ _ (by decide) (by decide) (Or.inr e)]
          exact (q2 u hu).2.1 (by omega) hl
      · intro hu1
        rw [b1 _ _ (by decide) (by decide) (Or.inr (by omega))]
        exact (q2 u hu).2.2 (by omega)
    · simp only [wpS_skip, wpS_break, wpS_cont, wpS_retV, wpS_throw, wpS_seq, wpS_if, wpS_trunc, yS_let, yS_inc, kgK_i, kgK_r, kok_nil, kok_i0, kok_is, kok_r0, kok_rs, kok_n0, kok_ns, xS_put, xS_putOp, xS_ast0, xS_ast1, xS_astOp, wpS_E, wpS_call, wpS_callS, wpS_ret, kThen_N, kThen_B, kThen_C, kThen_R, kThen_T, kNext_N, kNext_C, kNext_B, kNext_R, wpE_K, wpE_KL, xE_I, xE_R, wpE_J, xE_bin, wpE_ladd, wpE_i2l, xE_get, xE_ald0, xE_ald1, wpE_if, xE_max, xE_min, wpE_len, wpA_nil, wpA_snoc, xE_call, xE_callS, xC_C, xC_L, xC_Z, wpC_and, wpC_or, wpC_not, wpC_if, kcmp_0, kcmp_1, kcmp_2, kcmp_3, kcmp_4, kcmp_5, rR_inj, kgO_some, kgO_add, kgO_sub, kgO_mul, kgO_div, kgO_rem, kgO_and, kvI_inl, kvJ_inl, kgI_0, kgI_s, kgR_0, kgR_s, kst_nil, kst_0, kst_s, kNLl_nil, kNLl_i, kNLl_r, kNLl_n, ktag_i, ktag_r, List.length_cons, List.length_nil, List.take_succ_cons, List.take_zero, List.take_nil, List.nil_append, List.cons_append, decide_eq_true_eq, Bool.not_eq_true, Bool.not_eq_true', decide_eq_false_iff_not, ne_eq, Decidable.not_not, true_and, and_true, Nat.reduceAdd, Nat.reduceLeDiff, Nat.reduceEqDiff, Nat.le_refl, not_true_eq_false, not_false_eq_true, reduceIte, eq_self, Int.reduceNeg, Int.reduceEq, Int.reduceLT, Int.reduceLE, Nat.zero_le, Nat.one_ne_zero, ev_model, ev_model_arr, Int.toNat_natCast, z, decide_true, decide_false, Bool.false_eq_true, if_true, if_false, true_and, and_true, not_true_eq_false, not_false_eq_true]
      repeat refine And.intro (by omega) ?_
      obtain ⟨g, g1, g2, g3, g4⟩ := (q2 i hi).1.resolve_left (fun h => z h.1)
      rw [hQ2]
      refine kStep_N rfl ⟨rfl, q1, fun u hu => ⟨?_, ?_, fun hu1 => (q2 u hu).2.2 (by omega)⟩⟩
      · rcases (q2 u hu).1 with ⟨t3, t4⟩ | ⟨g, t3, t4⟩
        · refine Or.inl ⟨t3, fun w hw => ?_⟩
          by_cases e : w = i
          · subst e; exact fun h => t4 g g1 (h.trans g4.1)
          · exact t4 w (by omega)
        · exact Or.inr ⟨g, by omega, t4⟩
      · intro hu1 hl
        by_cases e : u = i
        · subst e
          have := hl.2 g g4.1
          omega
        · exact (q2 u hu).2.1 (by omega) hl
  rintro s4 ⟨q41, q42⟩
  rw [hQ1]
  rw [hQ0]
  refine kThen_N.mpr (wpS_retV.mpr ⟨none, rfl, rfl, ?_⟩)
  refine ⟨rfl, ?_, ⟨P, by rw [q41 _ _ (by decide) (by decide) (by decide), q31 _ _ (by decide) (by decide)]; exact hrA.1, hPC⟩, fun u hu => ⟨?_, (q42 u hu).2.1 hu⟩⟩
  · intro o k ho
    have := k2 o k ho
    unfold mSc at ho
    rw [q41 _ _ (by omega) (by omega) (by omega), q31 _ _ (by omega) (by omega)]
    exact this
  · rcases (q42 u hu).1 with ⟨t1, t2⟩ | ⟨g, t1, t2, t3, t4⟩
    · exact absurd (rch.rfl' u) (t2 u hu)
    · exact ⟨g, t2, t3, t4⟩
end MQ
