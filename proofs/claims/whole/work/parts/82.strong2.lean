/-! STRONG PARTS: collected from what was left last -/
section SC
variable {σ : kS} {n c ar : Nat} {li fs sn Fo So Fi Si L : Nat → Nat}
/-- against the arcs, to nodes that have no part yet -/
def unE (E : Nat → Nat → Prop) (un : Nat → Prop) (a b : Nat) : Prop := E b a ∧ un b
theorem kos_step {E : Nat → Nat → Prop} {lc : Nat} (hP : ∀ i v, i < lc → E (L i) v → (∃ j, j ≤ i ∧ L j = v) ∨ (∃ j, i < j ∧ j < lc ∧ L j = v ∧ ∀ k, i ≤ k → k ≤ j → rch E v (L k)))
    {W : Nat → Nat → Prop} (hW : ∀ a b, W a b → E a b) {i v : Nat} (hi : i < lc) (h : rch W (L i) v) : (∃ j, j ≤ i ∧ L j = v) ∨ ∃ j, i < j ∧ j < lc ∧ rch E (L j) (L i) ∧ rch W (L j) v := by
  refine rch.closed (S := fun v => (∃ j, j ≤ i ∧ L j = v) ∨ ∃ j, i < j ∧ j < lc ∧ rch E (L j) (L i) ∧ rch W (L j) v) ?_ (Or.inl ⟨i, Nat.le_refl _, rfl⟩) h
  rintro u v (⟨j, j1, rfl⟩ | ⟨j, j1, j2, j3, j4⟩) he
  · rcases hP j v (by omega) (hW _ _ he) with ⟨j', q1, q2⟩ | ⟨j', q1, q2, q3, q4⟩
    · exact Or.inl ⟨j', by omega, q2⟩
    · by_cases q : j' ≤ i
      · exact Or.inl ⟨j', q, q3⟩
      · refine Or.inr ⟨j', by omega, q2, ?_, ?_⟩
        · rw [q3]; exact q4 i j1 (by omega)
        · rw [q3]; exact rch.rfl' _
  · exact Or.inr ⟨j, j1, j2, j3, j4.snoc he⟩
theorem kos_back {E : Nat → Nat → Prop} {lc m : Nat} {un : Nat → Prop} (hP : ∀ i v, i < lc → E (L i) v → (∃ j, j ≤ i ∧ L j = v) ∨ (∃ j, i < j ∧ j < lc ∧ L j = v ∧ ∀ k, i ≤ k → k ≤ j → rch E v (L k)))
    (hi : ∀ i j, i < j → j < lc → L i ≠ L j) (hun : ∀ i, i < lc → un (L i) → i ≤ m) (hm : m < lc) : ∀ d i, i + d = m → rch (fun a b => E a b ∧ un a) (L i) (L m) → rch E (L m) (L i) := by
  intro d
  induction d using Nat.strongRecOn with
  | ind d ih =>
    intro i hid hr
    by_cases e : i = m
    · subst e; exact rch.rfl' _
    · rcases kos_step hP (fun a b h => h.1) (by omega) hr with ⟨j, j1, j2⟩ | ⟨j, j1, j2, j3, j4⟩
      · exact absurd j2 (hi j m (by omega) hm)
      · have hjm : j ≤ m := by
          by_cases e2 : L j = L m
          · rcases Nat.lt_trichotomy j m with r | r | r
            · omega
            · omega
            · exact absurd e2.symm (hi m j r j2)
          · refine hun j j2 ?_
            have : L j = L m ∨ un (L j) := by
              refine rch.closed (S := fun w => L j = w ∨ un (L j)) ?_ (Or.inl rfl) j4
              rintro u w (q | q) he
              · exact Or.inr (q ▸ he.2)
              · exact Or.inr q
            exact this.resolve_left e2
        exact (ih (m - j) (by omega) j (by omega) j4).trans j3
/-- what is collected from x is its strong part -/
theorem kos_part {lc m : Nat} {un : Nat → Prop} (hP : ∀ i v, i < lc → dE (th c li) fs sn (L i) v → (∃ j, j ≤ i ∧ L j = v) ∨ (∃ j, i < j ∧ j < lc ∧ L j = v ∧ ∀ k, i ≤ k → k ≤ j → rch (dE (th c li) fs sn) v (L k)))
    (hi : ∀ i j, i < j → j < lc → L i ≠ L j) (hall : ∀ v, v < n → ∃ i, i < lc ∧ L i = v) (hG : gOk n c ar li fs sn) (hun : ∀ i, i < lc → un (L i) → i ≤ m) (hm : m < lc) (hx : un (L m)) (hxn : L m < n) (hcl : ∀ u v, un u → bothw c li fs sn u v → un v) (v : Nat) :
    rch (unE (dE (th c li) fs sn) un) (L m) v ↔ bothw c li fs sn (L m) v := by
  constructor
  · intro h
    have h1 : v < n ∧ rch (fun a b => dE (th c li) fs sn a b ∧ un a) v (L m) := by
      refine rch.closed (S := fun v => v < n ∧ rch (fun a b => dE (th c li) fs sn a b ∧ un a) v (L m)) ?_ ⟨hxn, rch.rfl' _⟩ h
      rintro u v ⟨hu, h2⟩ ⟨h3, h4⟩
      refine ⟨?_, rch.cons ⟨h3, h4⟩ h2⟩
      obtain ⟨x, hx, x1, x2⟩ := h3
      have := th_lt hG hx
      omega
    refine ⟨?_, h1.2.mono (fun _ _ q => q.1)⟩
    obtain ⟨i, i1, rfl⟩ := hall v h1.1
    have hu : L i = L m ∨ un (L i) := by
      refine rch.closed (S := fun w => L i = w ∨ un (L i)) ?_ (Or.inl rfl) h1.2
      rintro u w (q | q) he
      · exact Or.inr (q ▸ he.2)
      · exact Or.inr q
    have him : i ≤ m := by
      rcases hu with q | q
      · rcases Nat.lt_trichotomy i m with r | r | r
        · omega
        · omega
        · exact absurd q.symm (hi m i r i1)
      · exact hun i i1 q
    exact kos_back hP hi hun hm (m - i) i (by omega) h1.2
  · rintro ⟨h1, h2⟩
    have key : rch (dE (th c li) fs sn) v (L m) ∧ (rch (dE (th c li) fs sn) (L m) v → rch (unE (dE (th c li) fs sn) un) (L m) v) := by
      refine rch.closed (E := fun a b => dE (th c li) fs sn b a) (S := fun v => rch (dE (th c li) fs sn) v (L m) ∧ (rch (dE (th c li) fs sn) (L m) v → rch (unE (dE (th c li) fs sn) un) (L m) v)) ?_ ⟨rch.rfl' _, fun _ => rch.rfl' _⟩ h2.flip
      rintro u v ⟨g1, g2⟩ he
      refine ⟨rch.cons he g1, fun g3 => (g2 (g3.snoc he)).snoc ⟨he, hcl _ _ hx ⟨g3, rch.cons he g1⟩⟩⟩
    exact key.2 h1
/-- the collecting -/
def colI (σ s : kS) (n : Nat) (U : Nat → Nat → Prop) (x : Nat) (Q : Nat → Nat) (tl : Nat) : Prop :=
  (∀ o k, o ≠ 41 → o ≠ 43 → s o k = σ o k) ∧ (∀ i, i < tl → s 43 i = (Q i : Int) ∧ Q i < n ∧ rch U x (Q i)) ∧ (∀ i j, i < j → j < tl → Q i ≠ Q j) ∧
  (∀ v, ((∃ i, i < tl ∧ Q i = v) ∧ s 41 v = (x : Int)) ∨ (¬ (∃ i, i < tl ∧ Q i = v) ∧ s 41 v = σ 41 v)) ∧ 0 < tl ∧ Q 0 = x
theorem colI.push {s : kS} {U : Nat → Nat → Prop} {x p y tl : Nat} {Q : Nat → Nat} (h : colI σ s n U x Q tl) (hy : y < n) (hp : p < tl) (hU : U (Q p) y) (hy2 : s 41 y = -1) :
    colI σ (kup (kup s 41 y (x : Int)) 43 tl (y : Int)) n U x (fun i => if i = tl then y else Q i) (tl + 1) := by
  obtain ⟨c1, c2, c3, c4, c5, c6⟩ := h
  have hyQ : ∀ i, i < tl → Q i ≠ y := fun i hi e => by
    rcases c4 y with ⟨-, q⟩ | ⟨q, -⟩
    · omega
    · exact q ⟨i, hi, e⟩
  refine ⟨fun o k h1 h2 => by rw [kup_ne h2, kup_ne h1]; exact c1 o k h1 h2, fun i hi => ?_, fun i j hij hj => ?_, fun v => ?_, by omega, by show (if 0 = tl then y else Q 0) = x; rw [if_neg (by omega)]; exact c6⟩
  · rw [kup_eq]
    try dsimp only
    by_cases e : i = tl
    · simp only [e, if_true]
      exact ⟨trivial, hy, (c2 p hp).2.2.snoc hU⟩
    · simp only [e, if_false]
      rw [kup_ne (by decide)]
      exact c2 i (by omega)
  · simp only [if_neg (show i ≠ tl by omega)]
    by_cases e : j = tl
    · simp only [e, if_true]; exact hyQ i (by omega)
    · simp only [e, if_false]; exact c3 i j hij (by omega)
  · rw [kup_ne (by decide), kup_eq]
    by_cases e : v = y
    · rw [if_pos e]; exact Or.inl ⟨⟨tl, by omega, by simp only [if_true]; exact e.symm⟩, rfl⟩
    · rw [if_neg e]
      rcases c4 v with ⟨⟨i, i1, i2⟩, q⟩ | ⟨q1, q2⟩
      · exact Or.inl ⟨⟨i, by omega, by simp only [if_neg (show i ≠ tl by omega)]; exact i2⟩, q⟩
      · refine Or.inr ⟨?_, q2⟩
        rintro ⟨i, i1, i2⟩
        try dsimp only at i2
        by_cases e2 : i = tl
        · rw [if_pos e2] at i2; exact e i2.symm
        · rw [if_neg e2] at i2; exact q1 ⟨i, by omega, i2⟩
theorem colI.len {s : kS} {U : Nat → Nat → Prop} {x tl : Nat} {Q : Nat → Nat} (h : colI σ s n U x Q tl) : tl ≤ n := by
  obtain ⟨c1, c2, c3, -⟩ := h
  refine Nat.le_trans (cntP_row (P := fun _ => True) (n := n) (q := Q) (fun i hi => ⟨(c2 i hi).2.1, trivial⟩) (fun i j hi hj e => ?_)).1 cntP_bound
  rcases Nat.lt_trichotomy i j with r | r | r
  · exact absurd e (c3 i j r hj)
  · exact r
  · exact absurd e.symm (c3 j i r hi)
theorem strCollect_ok {x : Nat} {U : Nat → Nat → Prop} (hG : gOk n c ar li fs sn) (hW : Wb σ n c ar li fs sn) (hx : x < n) (h0 : σ 41 x = -1) (hUd : U = unE (dE (th c li) fs sn) (fun v => σ 41 v = -1)) :
    wpF F_Strong_collect [.inr (.inl 8), .inl (x : Int)] σ (fun r s => r = none ∧ (∀ o k, o ≠ 41 → o ≠ 43 → s o k = σ o k) ∧ ∃ w : Nat, rch U x w ∧ (∀ v, rch U x v → w ≤ v) ∧ ∀ v, (rch U x v → s 41 v = (w : Int)) ∧ (¬ rch U x v → s 41 v = σ 41 v)) := by
  obtain ⟨hn3, hc9, ha5, hli, -⟩ := id hG
  obtain ⟨w1, w2, w3, w4, w5, w6, w7, Fo, So, Fi, Si, -, -, hFr, hF⟩ := id hW
  obtain ⟨f1, f2, f3, f4⟩ := id hFr
  have hmono := hF.2.2.1
  unfold F_Strong_collect
  rw [wpF_kF]
  refine ⟨rfl, rfl, ?_⟩
  unfold s_Strong_collect
  simp only [List.map_cons, List.map_nil]
  refine wpS_seq' (fun Q0 hQ0 => ?_)
  refine wpS_seq' (fun Q101 hQ101 => ?_)
  simp only [wpS_skip, wpS_break, wpS_cont, wpS_retV, wpS_throw, wpS_seq, wpS_if, wpS_trunc, yS_let, yS_inc, kgK_i, kgK_r, kok_nil, kok_i0, kok_is, kok_r0, kok_rs, kok_n0, kok_ns, xS_put, xS_putOp, xS_ast0, xS_ast1, xS_astOp, wpS_E, wpS_call, wpS_callS, wpS_ret, kThen_N, kThen_B, kThen_C, kThen_R, kThen_T, kNext_N, kNext_C, kNext_B, kNext_R, wpE_K, wpE_KL, xE_I, xE_R, wpE_J, xE_bin, wpE_ladd, wpE_i2l, xE_get, xE_ald0, xE_ald1, wpE_if, xE_max, xE_min, wpE_len, wpA_nil, wpA_snoc, xE_call, xE_callS, xC_C, xC_L, xC_Z, wpC_and, wpC_or, wpC_not, wpC_if, kcmp_0, kcmp_1, kcmp_2, kcmp_3, kcmp_4, kcmp_5, rR_inj, kgO_some, kgO_add, kgO_sub, kgO_mul, kgO_div, kgO_rem, kgO_and, kvI_inl, kvJ_inl, kgI_0, kgI_s, kgR_0, kgR_s, kst_nil, kst_0, kst_s, kNLl_nil, kNLl_i, kNLl_r, kNLl_n, ktag_i, ktag_r, List.length_cons, List.length_nil, List.take_succ_cons, List.take_zero, List.take_nil, List.nil_append, List.cons_append, decide_eq_true_eq, Bool.not_eq_true, Bool.not_eq_true', decide_eq_false_iff_not, ne_eq, Decidable.not_not, true_and, and_true, Nat.reduceAdd, Nat.reduceLeDiff, Nat.reduceEqDiff, Nat.le_refl, not_true_eq_false, not_false_eq_true, reduceIte, eq_self, Int.reduceNeg, Int.reduceEq, Int.reduceLT, Int.reduceLE, Nat.zero_le, Nat.one_ne_zero, ev_strong, ev_web]
  repeat refine And.intro (by omega) ?_
  rw [hQ101]
  clear hQ101 Q101
  refine kThen_N.mpr ?_
  refine wpS_seq' (fun Q102 hQ102 => ?_)
  simp only [wpS_skip, wpS_break, wpS_cont, wpS_retV, wpS_throw, wpS_seq, wpS_if, wpS_trunc, yS_let, yS_inc, kgK_i, kgK_r, kok_nil, kok_i0, kok_is, kok_r0, kok_rs, kok_n0, kok_ns, xS_put, xS_putOp, xS_ast0, xS_ast1, xS_astOp, wpS_E, wpS_call, wpS_callS, wpS_ret, kThen_N, kThen_B, kThen_C, kThen_R, kThen_T, kNext_N, kNext_C, kNext_B, kNext_R, wpE_K, wpE_KL, xE_I, xE_R, wpE_J, xE_bin, wpE_ladd, wpE_i2l, xE_get, xE_ald0, xE_ald1, wpE_if, xE_max, xE_min, wpE_len, wpA_nil, wpA_snoc, xE_call, xE_callS, xC_C, xC_L, xC_Z, wpC_and, wpC_or, wpC_not, wpC_if, kcmp_0, kcmp_1, kcmp_2, kcmp_3, kcmp_4, kcmp_5, rR_inj, kgO_some, kgO_add, kgO_sub, kgO_mul, kgO_div, kgO_rem, kgO_and, kvI_inl, kvJ_inl, kgI_0, kgI_s, kgR_0, kgR_s, kst_nil, kst_0, kst_s, kNLl_nil, kNLl_i, kNLl_r, kNLl_n, ktag_i, ktag_r, List.length_cons, List.length_nil, List.take_succ_cons, List.take_zero, List.take_nil, List.nil_append, List.cons_append, decide_eq_true_eq, Bool.not_eq_true, Bool.not_eq_true', decide_eq_false_iff_not, ne_eq, Decidable.not_not, true_and, and_true, Nat.reduceAdd, Nat.reduceLeDiff, Nat.reduceEqDiff, Nat.le_refl, not_true_eq_false, not_false_eq_true, reduceIte, eq_self, Int.reduceNeg, Int.reduceEq, Int.reduceLT, Int.reduceLE, Nat.zero_le, Nat.one_ne_zero, ev_strong, ev_strong_arr, Int.toNat_natCast]
  repeat refine And.intro (by omega) ?_
  rw [hQ102]
  clear hQ102 Q102
  refine kThen_N.mpr ?_
  refine wpS_seq' (fun Q103 hQ103 => ?_)
  simp only [wpS_skip, wpS_break, wpS_cont, wpS_retV, wpS_throw, wpS_seq, wpS_if, wpS_trunc, yS_let, yS_inc, kgK_i, kgK_r, kok_nil, kok_i0, kok_is, kok_r0, kok_rs, kok_n0, kok_ns, xS_put, xS_putOp, xS_ast0, xS_ast1, xS_astOp, wpS_E, wpS_call, wpS_callS, wpS_ret, kThen_N, kThen_B, kThen_C, kThen_R, kThen_T, kNext_N, kNext_C, kNext_B, kNext_R, wpE_K, wpE_KL, xE_I, xE_R, wpE_J, xE_bin, wpE_ladd, wpE_i2l, xE_get, xE_ald0, xE_ald1, wpE_if, xE_max, xE_min, wpE_len, wpA_nil, wpA_snoc, xE_call, xE_callS, xC_C, xC_L, xC_Z, wpC_and, wpC_or, wpC_not, wpC_if, kcmp_0, kcmp_1, kcmp_2, kcmp_3, kcmp_4, kcmp_5, rR_inj, kgO_some, kgO_add, kgO_sub, kgO_mul, kgO_div, kgO_rem, kgO_and, kvI_inl, kvJ_inl, kgI_0, kgI_s, kgR_0, kgR_s, kst_nil, kst_0, kst_s, kNLl_nil, kNLl_i, kNLl_r, kNLl_n, ktag_i, ktag_r, List.length_cons, List.length_nil, List.take_succ_cons, List.take_zero, List.take_nil, List.nil_append, List.cons_append, decide_eq_true_eq, Bool.not_eq_true, Bool.not_eq_true', decide_eq_false_iff_not, ne_eq, Decidable.not_not, true_and, and_true, Nat.reduceAdd, Nat.reduceLeDiff, Nat.reduceEqDiff, Nat.le_refl, not_true_eq_false, not_false_eq_true, reduceIte, eq_self, Int.reduceNeg, Int.reduceEq, Int.reduceLT, Int.reduceLE, Nat.zero_le, Nat.one_ne_zero, ev_strong, ev_strong_arr, Int.toNat_natCast]
  repeat refine And.intro (by omega) ?_
  rw [hQ103]
  clear hQ103 Q103
  refine kThen_N.mpr ?_
  refine wpS_seq' (fun Q104 hQ104 => ?_)
  simp only [wpS_skip, wpS_break, wpS_cont, wpS_retV, wpS_throw, wpS_seq, wpS_if, wpS_trunc, yS_let, yS_inc, kgK_i, kgK_r, kok_nil, kok_i0, kok_is, kok_r0, kok_rs, kok_n0, kok_ns, xS_put, xS_putOp, xS_ast0, xS_ast1, xS_astOp, wpS_E, wpS_call, wpS_callS, wpS_ret, kThen_N, kThen_B, kThen_C, kThen_R, kThen_T, kNext_N, kNext_C, kNext_B, kNext_R, wpE_K, wpE_KL, xE_I, xE_R, wpE_J, xE_bin, wpE_ladd, wpE_i2l, xE_get, xE_ald0, xE_ald1, wpE_if, xE_max, xE_min, wpE_len, wpA_nil, wpA_snoc, xE_call, xE_callS, xC_C, xC_L, xC_Z, wpC_and, wpC_or, wpC_not, wpC_if, kcmp_0, kcmp_1, kcmp_2, kcmp_3, kcmp_4, kcmp_5, rR_inj, kgO_some, kgO_add, kgO_sub, kgO_mul, kgO_div, kgO_rem, kgO_and, kvI_inl, kvJ_inl, kgI_0, kgI_s, kgR_0, kgR_s, kst_nil, kst_0, kst_s, kNLl_nil, kNLl_i, kNLl_r, kNLl_n, ktag_i, ktag_r, List.length_cons, List.length_nil, List.take_succ_cons, List.take_zero, List.take_nil, List.nil_append, List.cons_append, decide_eq_true_eq, Bool.not_eq_true, Bool.not_eq_true', decide_eq_false_iff_not, ne_eq, Decidable.not_not, true_and, and_true, Nat.reduceAdd, Nat.reduceLeDiff, Nat.reduceEqDiff, Nat.le_refl, not_true_eq_false, not_false_eq_true, reduceIte, eq_self, Int.reduceNeg, Int.reduceEq, Int.reduceLT, Int.reduceLE, Nat.zero_le, Nat.one_ne_zero]
  repeat refine And.intro (by omega) ?_
  rw [hQ104]
  clear hQ104 Q104
  refine kThen_N.mpr ?_
  refine wpS_seq' (fun Q105 hQ105 => ?_)
  simp only [wpS_skip, wpS_break, wpS_cont, wpS_retV, wpS_throw, wpS_seq, wpS_if, wpS_trunc, yS_let, yS_inc, kgK_i, kgK_r, kok_nil, kok_i0, kok_is, kok_r0, kok_rs, kok_n0, kok_ns, xS_put, xS_putOp, xS_ast0, xS_ast1, xS_astOp, wpS_E, wpS_call, wpS_callS, wpS_ret, kThen_N, kThen_B, kThen_C, kThen_R, kThen_T, kNext_N, kNext_C, kNext_B, kNext_R, wpE_K, wpE_KL, xE_I, xE_R, wpE_J, xE_bin, wpE_ladd, wpE_i2l, xE_get, xE_ald0, xE_ald1, wpE_if, xE_max, xE_min, wpE_len, wpA_nil, wpA_snoc, xE_call, xE_callS, xC_C, xC_L, xC_Z, wpC_and, wpC_or, wpC_not, wpC_if, kcmp_0, kcmp_1, kcmp_2, kcmp_3, kcmp_4, kcmp_5, rR_inj, kgO_some, kgO_add, kgO_sub, kgO_mul, kgO_div, kgO_rem, kgO_and, kvI_inl, kvJ_inl, kgI_0, kgI_s, kgR_0, kgR_s, kst_nil, kst_0, kst_s, kNLl_nil, kNLl_i, kNLl_r, kNLl_n, ktag_i, ktag_r, List.length_cons, List.length_nil, List.take_succ_cons, List.take_zero, List.take_nil, List.nil_append, List.cons_append, decide_eq_true_eq, Bool.not_eq_true, Bool.not_eq_true', decide_eq_false_iff_not, ne_eq, Decidable.not_not, true_and, and_true, Nat.reduceAdd, Nat.reduceLeDiff, Nat.reduceEqDiff, Nat.le_refl, not_true_eq_false, not_false_eq_true, reduceIte, eq_self, Int.reduceNeg, Int.reduceEq, Int.reduceLT, Int.reduceLE, Nat.zero_le, Nat.one_ne_zero]
  repeat refine And.intro (by omega) ?_
  rw [hQ105]
  clear hQ105 Q105
  refine kThen_N.mpr ?_
  obtain ⟨s0, hs0⟩ : ∃ s0, s0 = kup (kup σ 41 x (x : Int)) 43 (Int.toNat 0) (x : Int) := ⟨_, rfl⟩
  rw [← hs0]
  have hs0 : s0 = kup (kup σ 41 x (x : Int)) 43 0 (x : Int) := hs0
  refine wpS_seq' (fun Q1 hQ1 => ?_)
  unfold l_Strong_collect_2
  have hb : ∀ (Q : Nat → Nat) (tl : Nat) s (hd : Nat), colI σ s n U x Q tl → hd < tl → hd < 300 := fun Q tl s hd h1 h2 => by have := h1.len; omega
  refine wpS_fortG (fun hd P s => ∃ Q tl, ∃ lw : Nat, P = [some (.inr (.inl 8)), some (.inl (x : Int)), some (.inr (.inl 3)), some (.inl (lw : Int)), some (.inl ((tl : Nat) : Int))] ∧ colI σ s n U x Q tl ∧ hd ≤ tl ∧ (∃ j, j < tl ∧ Q j = lw) ∧ (∀ i, i < hd → lw ≤ Q i) ∧ ∀ i y, i < hd → U (Q i) y → ∃ j, j < tl ∧ Q j = y) (fun i => (i : Int)) 300 rfl rfl ?_ ?_ ?_ ?_
  · simp only [wpS_skip, wpS_break, wpS_cont, wpS_retV, wpS_throw, wpS_seq, wpS_if, wpS_trunc, yS_let, yS_inc, kgK_i, kgK_r, kok_nil, kok_i0, kok_is, kok_r0, kok_rs, kok_n0, kok_ns, xS_put, xS_putOp, xS_ast0, xS_ast1, xS_astOp, wpS_E, wpS_call, wpS_callS, wpS_ret, kThen_N, kThen_B, kThen_C, kThen_R, kThen_T, kNext_N, kNext_C, kNext_B, kNext_R, wpE_K, wpE_KL, xE_I, xE_R, wpE_J, xE_bin, wpE_ladd, wpE_i2l, xE_get, xE_ald0, xE_ald1, wpE_if, xE_max, xE_min, wpE_len, wpA_nil, wpA_snoc, xE_call, xE_callS, xC_C, xC_L, xC_Z, wpC_and, wpC_or, wpC_not, wpC_if, kcmp_0, kcmp_1, kcmp_2, kcmp_3, kcmp_4, kcmp_5, rR_inj, kgO_some, kgO_add, kgO_sub, kgO_mul, kgO_div, kgO_rem, kgO_and, kvI_inl, kvJ_inl, kgI_0, kgI_s, kgR_0, kgR_s, kst_nil, kst_0, kst_s, kNLl_nil, kNLl_i, kNLl_r, kNLl_n, ktag_i, ktag_r, List.length_cons, List.length_nil, List.take_succ_cons, List.take_zero, List.take_nil, List.nil_append, List.cons_append, decide_eq_true_eq, Bool.not_eq_true, Bool.not_eq_true', decide_eq_false_iff_not, ne_eq, Decidable.not_not, true_and, and_true, Nat.reduceAdd, Nat.reduceLeDiff, Nat.reduceEqDiff, Nat.le_refl, not_true_eq_false, not_false_eq_true, reduceIte, eq_self, Int.reduceNeg, Int.reduceEq, Int.reduceLT, Int.reduceLE, Nat.zero_le, Nat.one_ne_zero]; trivial
  · refine ⟨fun _ => x, 1, x, rfl, ⟨fun o k h1 h2 => by rw [hs0, kup_ne h2, kup_ne h1], fun i hi => ?_, fun i j h1 h2 => by omega, fun v => ?_, by omega, rfl⟩, by omega, ⟨0, by omega, rfl⟩, fun i hi => by omega, fun i y hi => by omega⟩
    · have : i = 0 := by omega
      rw [this, hs0, kup_eq, if_pos rfl]
      exact ⟨rfl, hx, rch.rfl' _⟩
    · rw [hs0, kup_ne (by decide), kup_eq]
      by_cases e : v = x
      · rw [if_pos e]; exact Or.inl ⟨⟨0, by omega, e.symm⟩, rfl⟩
      · rw [if_neg e]; exact Or.inr ⟨fun ⟨i, _, h⟩ => e h.symm, rfl⟩
  · rintro hd P s ⟨Q, tl, lw, rfl, -⟩; exact ⟨rfl, rfl⟩
  · rintro hd P s hhd ⟨Q, tl, lw, rfl, hC, hle, hlw, hlo, hcl⟩
    have htl := hC.len
    refine wpC_gen (fun Q2 hQ2 => ?_)
    by_cases q : hd < tl
    · have c1 : (hd : Int) < 300 := by omega
      have c2 : (hd : Int) < (tl : Int) := by omega
      simp only [wpS_skip, wpS_break, wpS_cont, wpS_retV, wpS_throw, wpS_seq, wpS_if, wpS_trunc, yS_let, yS_inc, kgK_i, kgK_r, kok_nil, kok_i0, kok_is, kok_r0, kok_rs, kok_n0, kok_ns, xS_put, xS_putOp, xS_ast0, xS_ast1, xS_astOp, wpS_E, wpS_call, wpS_callS, wpS_ret, kThen_N, kThen_B, kThen_C, kThen_R, kThen_T, kNext_N, kNext_C, kNext_B, kNext_R, wpE_K, wpE_KL, xE_I, xE_R, wpE_J, xE_bin, wpE_ladd, wpE_i2l, xE_get, xE_ald0, xE_ald1, wpE_if, xE_max, xE_min, wpE_len, wpA_nil, wpA_snoc, xE_call, xE_callS, xC_C, xC_L, xC_Z, wpC_and, wpC_or, wpC_not, wpC_if, kcmp_0, kcmp_1, kcmp_2, kcmp_3, kcmp_4, kcmp_5, rR_inj, kgO_some, kgO_add, kgO_sub, kgO_mul, kgO_div, kgO_rem, kgO_and, kvI_inl, kvJ_inl, kgI_0, kgI_s, kgR_0, kgR_s, kst_nil, kst_0, kst_s, kNLl_nil, kNLl_i, kNLl_r, kNLl_n, ktag_i, ktag_r, List.length_cons, List.length_nil, List.take_succ_cons, List.take_zero, List.take_nil, List.nil_append, List.cons_append, decide_eq_true_eq, Bool.not_eq_true, Bool.not_eq_true', decide_eq_false_iff_not, ne_eq, Decidable.not_not, true_and, and_true, Nat.reduceAdd, Nat.reduceLeDiff, Nat.reduceEqDiff, Nat.le_refl, not_true_eq_false, not_false_eq_true, reduceIte, eq_self, Int.reduceNeg, Int.reduceEq, Int.reduceLT, Int.reduceLE, Nat.zero_le, Nat.one_ne_zero, c1, c2, decide_true, decide_false, Bool.false_eq_true, if_true, if_false, true_and, and_true, not_true_eq_false, not_false_eq_true]
      rw [hQ2]
      refine ⟨rfl, Or.inl ⟨rfl, by omega, by omega, by omega, by omega, ?_⟩⟩
      clear hQ2 Q2
      obtain ⟨e43, hQn, hQr⟩ := hC.2.1 hd q
      obtain ⟨z, hz⟩ : ∃ z, z = Q hd := ⟨_, rfl⟩
      rw [← hz] at e43 hQn hQr
      have hle' := fan_le hF (show z + 1 ≤ n by omega)
      have es : ((z : Int) + 1).toNat = z + 1 := by omega
      have e22 : ∀ s' : kS, (∀ o k, o ≠ 41 → o ≠ 43 → s' o k = σ o k) → s' 22 z = (Si z : Int) ∧ s' 22 (z + 1) = (Si (z + 1) : Int) := fun s' h => by
        rw [h _ _ (by decide) (by decide), h _ _ (by decide) (by decide)]
        exact ⟨f4 _ (by omega), f4 _ (by omega)⟩
      obtain ⟨lw', hlw'⟩ : ∃ lw' : Nat, lw' = if z < lw then z else lw := ⟨_, rfl⟩
      have em : (if (z : Int) < (lw : Int) then (z : Int) else (lw : Int)) = (lw' : Int) := by
        rw [hlw']
        by_cases e : z < lw
        · rw [if_pos (by omega), if_pos e]
        · rw [if_neg (by omega), if_neg e]
      have em2 : lw' ≤ lw ∧ lw' ≤ z ∧ (lw' = z ∨ lw' = lw) := by rw [hlw']; split <;> omega
      rw [wpS_trunc]
      refine wpS_seq' (fun Q106 hQ106 => ?_)
      simp only [wpS_skip, wpS_break, wpS_cont, wpS_retV, wpS_throw, wpS_seq, wpS_if, wpS_trunc, yS_let, yS_inc, kgK_i, kgK_r, kok_nil, kok_i0, kok_is, kok_r0, kok_rs, kok_n0, kok_ns, xS_put, xS_putOp, xS_ast0, xS_ast1, xS_astOp, wpS_E, wpS_call, wpS_callS, wpS_ret, kThen_N, kThen_B, kThen_C, kThen_R, kThen_T, kNext_N, kNext_C, kNext_B, kNext_R, wpE_K, wpE_KL, xE_I, xE_R, wpE_J, xE_bin, wpE_ladd, wpE_i2l, xE_get, xE_ald0, xE_ald1, wpE_if, xE_max, xE_min, wpE_len, wpA_nil, wpA_snoc, xE_call, xE_callS, xC_C, xC_L, xC_Z, wpC_and, wpC_or, wpC_not, wpC_if, kcmp_0, kcmp_1, kcmp_2, kcmp_3, kcmp_4, kcmp_5, rR_inj, kgO_some, kgO_add, kgO_sub, kgO_mul, kgO_div, kgO_rem, kgO_and, kvI_inl, kvJ_inl, kgI_0, kgI_s, kgR_0, kgR_s, kst_nil, kst_0, kst_s, kNLl_nil, kNLl_i, kNLl_r, kNLl_n, ktag_i, ktag_r, List.length_cons, List.length_nil, List.take_succ_cons, List.take_zero, List.take_nil, List.nil_append, List.cons_append, decide_eq_true_eq, Bool.not_eq_true, Bool.not_eq_true', decide_eq_false_iff_not, ne_eq, Decidable.not_not, true_and, and_true, Nat.reduceAdd, Nat.reduceLeDiff, Nat.reduceEqDiff, Nat.le_refl, not_true_eq_false, not_false_eq_true, reduceIte, eq_self, Int.reduceNeg, Int.reduceEq, Int.reduceLT, Int.reduceLE, Nat.zero_le, Nat.one_ne_zero, ev_strong, ev_strong_arr, Int.toNat_natCast, e43]
      repeat refine And.intro (by omega) ?_
      rw [hQ106]
      clear hQ106 Q106
      refine kThen_N.mpr ?_
      refine wpS_seq' (fun Q107 hQ107 => ?_)
      simp only [wpS_skip, wpS_break, wpS_cont, wpS_retV, wpS_throw, wpS_seq, wpS_if, wpS_trunc, yS_let, yS_inc, kgK_i, kgK_r, kok_nil, kok_i0, kok_is, kok_r0, kok_rs, kok_n0, kok_ns, xS_put, xS_putOp, xS_ast0, xS_ast1, xS_astOp, wpS_E, wpS_call, wpS_callS, wpS_ret, kThen_N, kThen_B, kThen_C, kThen_R, kThen_T, kNext_N, kNext_C, kNext_B, kNext_R, wpE_K, wpE_KL, xE_I, xE_R, wpE_J, xE_bin, wpE_ladd, wpE_i2l, xE_get, xE_ald0, xE_ald1, wpE_if, xE_max, xE_min, wpE_len, wpA_nil, wpA_snoc, xE_call, xE_callS, xC_C, xC_L, xC_Z, wpC_and, wpC_or, wpC_not, wpC_if, kcmp_0, kcmp_1, kcmp_2, kcmp_3, kcmp_4, kcmp_5, rR_inj, kgO_some, kgO_add, kgO_sub, kgO_mul, kgO_div, kgO_rem, kgO_and, kvI_inl, kvJ_inl, kgI_0, kgI_s, kgR_0, kgR_s, kst_nil, kst_0, kst_s, kNLl_nil, kNLl_i, kNLl_r, kNLl_n, ktag_i, ktag_r, List.length_cons, List.length_nil, List.take_succ_cons, List.take_zero, List.take_nil, List.nil_append, List.cons_append, decide_eq_true_eq, Bool.not_eq_true, Bool.not_eq_true', decide_eq_false_iff_not, ne_eq, Decidable.not_not, true_and, and_true, Nat.reduceAdd, Nat.reduceLeDiff, Nat.reduceEqDiff, Nat.le_refl, not_true_eq_false, not_false_eq_true, reduceIte, eq_self, Int.reduceNeg, Int.reduceEq, Int.reduceLT, Int.reduceLE, Nat.zero_le, Nat.one_ne_zero, em]
      repeat refine And.intro (by omega) ?_
      rw [hQ107]
      clear hQ107 Q107
      refine kThen_N.mpr ?_
      refine wpS_gen (fun Q3 hQ3 => ?_)
      unfold l_Strong_collect_1
      refine wpS_fort (fun k P s' => ∃ Q' tl', P = [some (.inr (.inl 8)), some (.inl (x : Int)), some (.inr (.inl 3)), some (.inl (lw' : Int)), some (.inl ((tl' : Nat) : Int)), some (.inl (hd : Int)), some (.inl (z : Int))] ∧ colI σ s' n U x Q' tl' ∧ tl ≤ tl' ∧ (∀ i, i < tl → Q' i = Q i) ∧ ∀ k', Si z ≤ k' → k' < k → σ 41 (fs (Fi k')) = -1 → ∃ j, j < tl' ∧ Q' j = fs (Fi k')) (Si z) (Si (z + 1)) rfl rfl ?_ ?_ ?_ ?_ ?_ ?_ ?_
      · simp only [wpS_skip, wpS_break, wpS_cont, wpS_retV, wpS_throw, wpS_seq, wpS_if, wpS_trunc, yS_let, yS_inc, kgK_i, kgK_r, kok_nil, kok_i0, kok_is, kok_r0, kok_rs, kok_n0, kok_ns, xS_put, xS_putOp, xS_ast0, xS_ast1, xS_astOp, wpS_E, wpS_call, wpS_callS, wpS_ret, kThen_N, kThen_B, kThen_C, kThen_R, kThen_T, kNext_N, kNext_C, kNext_B, kNext_R, wpE_K, wpE_KL, xE_I, xE_R, wpE_J, xE_bin, wpE_ladd, wpE_i2l, xE_get, xE_ald0, xE_ald1, wpE_if, xE_max, xE_min, wpE_len, wpA_nil, wpA_snoc, xE_call, xE_callS, xC_C, xC_L, xC_Z, wpC_and, wpC_or, wpC_not, wpC_if, kcmp_0, kcmp_1, kcmp_2, kcmp_3, kcmp_4, kcmp_5, rR_inj, kgO_some, kgO_add, kgO_sub, kgO_mul, kgO_div, kgO_rem, kgO_and, kvI_inl, kvJ_inl, kgI_0, kgI_s, kgR_0, kgR_s, kst_nil, kst_0, kst_s, kNLl_nil, kNLl_i, kNLl_r, kNLl_n, ktag_i, ktag_r, List.length_cons, List.length_nil, List.take_succ_cons, List.take_zero, List.take_nil, List.nil_append, List.cons_append, decide_eq_true_eq, Bool.not_eq_true, Bool.not_eq_true', decide_eq_false_iff_not, ne_eq, Decidable.not_not, true_and, and_true, Nat.reduceAdd, Nat.reduceLeDiff, Nat.reduceEqDiff, Nat.le_refl, not_true_eq_false, not_false_eq_true, reduceIte, eq_self, Int.reduceNeg, Int.reduceEq, Int.reduceLT, Int.reduceLE, Nat.zero_le, Nat.one_ne_zero, ev_fin, ev_fin_arr, Int.toNat_natCast, (e22 s hC.1).1]
        exact ⟨by omega, by omega⟩
      · exact ⟨hmono z hQn, by omega⟩
      · exact ⟨Q, tl, rfl, hC, Nat.le_refl _, fun _ _ => rfl, fun k' h1 h2 => by omega⟩
      · rintro k P s' ⟨Q', tl', rfl, -⟩; exact ⟨rfl, rfl⟩
      · rintro k P s' h1 h2 ⟨Q', tl', rfl, hC', -⟩
        simp only [wpS_skip, wpS_break, wpS_cont, wpS_retV, wpS_throw, wpS_seq, wpS_if, wpS_trunc, yS_let, yS_inc, kgK_i, kgK_r, kok_nil, kok_i0, kok_is, kok_r0, kok_rs, kok_n0, kok_ns, xS_put, xS_putOp, xS_ast0, xS_ast1, xS_astOp, wpS_E, wpS_call, wpS_callS, wpS_ret, kThen_N, kThen_B, kThen_C, kThen_R, kThen_T, kNext_N, kNext_C, kNext_B, kNext_R, wpE_K, wpE_KL, xE_I, xE_R, wpE_J, xE_bin, wpE_ladd, wpE_i2l, xE_get, xE_ald0, xE_ald1, wpE_if, xE_max, xE_min, wpE_len, wpA_nil, wpA_snoc, xE_call, xE_callS, xC_C, xC_L, xC_Z, wpC_and, wpC_or, wpC_not, wpC_if, kcmp_0, kcmp_1, kcmp_2, kcmp_3, kcmp_4, kcmp_5, rR_inj, kgO_some, kgO_add, kgO_sub, kgO_mul, kgO_div, kgO_rem, kgO_and, kvI_inl, kvJ_inl, kgI_0, kgI_s, kgR_0, kgR_s, kst_nil, kst_0, kst_s, kNLl_nil, kNLl_i, kNLl_r, kNLl_n, ktag_i, ktag_r, List.length_cons, List.length_nil, List.take_succ_cons, List.take_zero, List.take_nil, List.nil_append, List.cons_append, decide_eq_true_eq, Bool.not_eq_true, Bool.not_eq_true', decide_eq_false_iff_not, ne_eq, Decidable.not_not, true_and, and_true, Nat.reduceAdd, Nat.reduceLeDiff, Nat.reduceEqDiff, Nat.le_refl, not_true_eq_false, not_false_eq_true, reduceIte, eq_self, Int.reduceNeg, Int.reduceEq, Int.reduceLT, Int.reduceLE, Nat.zero_le, Nat.one_ne_zero, ev_fin, ev_fin_arr, es, (e22 s' hC'.1).2]
        exact ⟨by omega, by omega, by omega⟩
      · rintro k P s' h1 h2 ⟨Q', tl', rfl, hC', g1, g2, g3⟩
        obtain ⟨y, hy⟩ : ∃ y, y = Fi k := ⟨_, rfl⟩
        have e21 : s' 21 k = (y : Int) := by rw [hC'.1 _ _ (by decide) (by decide), hy]; exact f3 k (by omega)
        have hy5 : th c li y := by
          obtain ⟨⟨j, j1, j2⟩, -⟩ := hF.2.2.2.1 k (by omega)
          exact ⟨j, j1, by rw [hy]; exact j2⟩
        have hyl := th_lt hG hy5
        have e15 : s' 15 y = (fs y : Int) := by rw [hC'.1 _ _ (by decide) (by decide)]; exact w4 y
        obtain ⟨w, hw⟩ : ∃ w, w = fs y := ⟨_, rfl⟩
        rw [← hw] at e15
        have hwn : w < n := by omega
        have hsy : sn y = z := by rw [hy]; exact (fan_at hF (by omega) hQn).mpr ⟨h1, h2⟩
        refine wpS_gen (fun Q4 hQ4 => ?_)
        by_cases qw : s' 41 w = -1
        · have hU : U (Q' hd) w := by
            rw [g2 hd q, ← hz, hUd]
            refine ⟨⟨y, hy5, hw.symm, hsy⟩, ?_⟩
            rcases hC'.2.2.2.1 w with ⟨-, r⟩ | ⟨-, r⟩
            · omega
            · show σ 41 w = -1; rw [← r]; exact qw
          have D := hC'.push hwn (show hd < tl' by omega) hU qw
          have hl2 := D.len
          simp only [wpS_skip, wpS_break, wpS_cont, wpS_retV, wpS_throw, wpS_seq, wpS_if, wpS_trunc, yS_let, yS_inc, kgK_i, kgK_r, kok_nil, kok_i0, kok_is, kok_r0, kok_rs, kok_n0, kok_ns, xS_put, xS_putOp, xS_ast0, xS_ast1, xS_astOp, wpS_E, wpS_call, wpS_callS, wpS_ret, kThen_N, kThen_B, kThen_C, kThen_R, kThen_T, kNext_N, kNext_C, kNext_B, kNext_R, wpE_K, wpE_KL, xE_I, xE_R, wpE_J, xE_bin, wpE_ladd, wpE_i2l, xE_get, xE_ald0, xE_ald1, wpE_if, xE_max, xE_min, wpE_len, wpA_nil, wpA_snoc, xE_call, xE_callS, xC_C, xC_L, xC_Z, wpC_and, wpC_or, wpC_not, wpC_if, kcmp_0, kcmp_1, kcmp_2, kcmp_3, kcmp_4, kcmp_5, rR_inj, kgO_some, kgO_add, kgO_sub, kgO_mul, kgO_div, kgO_rem, kgO_and, kvI_inl, kvJ_inl, kgI_0, kgI_s, kgR_0, kgR_s, kst_nil, kst_0, kst_s, kNLl_nil, kNLl_i, kNLl_r, kNLl_n, ktag_i, ktag_r, List.length_cons, List.length_nil, List.take_succ_cons, List.take_zero, List.take_nil, List.nil_append, List.cons_append, decide_eq_true_eq, Bool.not_eq_true, Bool.not_eq_true', decide_eq_false_iff_not, ne_eq, Decidable.not_not, true_and, and_true, Nat.reduceAdd, Nat.reduceLeDiff, Nat.reduceEqDiff, Nat.le_refl, not_true_eq_false, not_false_eq_true, reduceIte, eq_self, Int.reduceNeg, Int.reduceEq, Int.reduceLT, Int.reduceLE, Nat.zero_le, Nat.one_ne_zero, ev_strong, ev_strong_arr, ev_web, ev_web_arr, ev_fin, ev_fin_arr, Int.toNat_natCast, e21, e15, qw, decide_true, decide_false, Bool.false_eq_true, if_true, if_false, true_and, and_true, not_true_eq_false, not_false_eq_true]
          repeat refine And.intro (by omega) ?_
          rw [hQ4]
          refine kStep_N (P := [some (.inr (.inl 8)), some (.inl (x : Int)), some (.inr (.inl 3)), some (.inl (lw' : Int)), some (.inl ((tl' + 1 : Nat) : Int)), some (.inl (hd : Int)), some (.inl (z : Int))]) rfl ⟨_, tl' + 1, rfl, D, by omega, fun i hi => ?_, fun k' h3 h4 h5 => ?_⟩
          · show (if i = tl' then w else Q' i) = Q i
            rw [if_neg (by omega)]; exact g2 i hi
          · by_cases e : k' = k
            · exact ⟨tl', by omega, by show (if tl' = tl' then w else Q' tl') = _; rw [if_pos rfl, e, hw, hy]⟩
            · obtain ⟨j, j1, j2⟩ := g3 k' h3 (by omega) h5
              exact ⟨j, by omega, by show (if j = tl' then w else Q' j) = _; rw [if_neg (by omega)]; exact j2⟩
        · simp only [wpS_skip, wpS_break, wpS_cont, wpS_retV, wpS_throw, wpS_seq, wpS_if, wpS_trunc, yS_let, yS_inc, kgK_i, kgK_r, kok_nil, kok_i0, kok_is, kok_r0, kok_rs, kok_n0, kok_ns, xS_put, xS_putOp, xS_ast0, xS_ast1, xS_astOp, wpS_E, wpS_call, wpS_callS, wpS_ret, kThen_N, kThen_B, kThen_C, kThen_R, kThen_T, kNext_N, kNext_C, kNext_B, kNext_R, wpE_K, wpE_KL, xE_I, xE_R, wpE_J, xE_bin, wpE_ladd, wpE_i2l, xE_get, xE_ald0, xE_ald1, wpE_if, xE_max, xE_min, wpE_len, wpA_nil, wpA_snoc, xE_call, xE_callS, xC_C, xC_L, xC_Z, wpC_and, wpC_or, wpC_not, wpC_if, kcmp_0, kcmp_1, kcmp_2, kcmp_3, kcmp_4, kcmp_5, rR_inj, kgO_some, kgO_add, kgO_sub, kgO_mul, kgO_div, kgO_rem, kgO_and, kvI_inl, kvJ_inl, kgI_0, kgI_s, kgR_0, kgR_s, kst_nil, kst_0, kst_s, kNLl_nil, kNLl_i, kNLl_r, kNLl_n, ktag_i, ktag_r, List.length_cons, List.length_nil, List.take_succ_cons, List.take_zero, List.take_nil, List.nil_append, List.cons_append, decide_eq_true_eq, Bool.not_eq_true, Bool.not_eq_true', decide_eq_false_iff_not, ne_eq, Decidable.not_not, true_and, and_true, Nat.reduceAdd, Nat.reduceLeDiff, Nat.reduceEqDiff, Nat.le_refl, not_true_eq_false, not_false_eq_true, reduceIte, eq_self, Int.reduceNeg, Int.reduceEq, Int.reduceLT, Int.reduceLE, Nat.zero_le, Nat.one_ne_zero, ev_strong, ev_strong_arr, ev_web, ev_web_arr, ev_fin, ev_fin_arr, Int.toNat_natCast, e21, e15, qw, decide_true, decide_false, Bool.false_eq_true, if_true, if_false, true_and, and_true, not_true_eq_false, not_false_eq_true]
          repeat refine And.intro (by omega) ?_
          rw [hQ4]
          refine kStep_N (P := [some (.inr (.inl 8)), some (.inl (x : Int)), some (.inr (.inl 3)), some (.inl (lw' : Int)), some (.inl (tl' : Int)), some (.inl (hd : Int)), some (.inl (z : Int))]) rfl ⟨Q', tl', rfl, hC', g1, g2, fun k' h3 h4 h5 => ?_⟩
          by_cases e : k' = k
          · rw [e, ← hy, ← hw] at h5 ⊢
            rcases hC'.2.2.2.1 w with ⟨⟨j, j1, j2⟩, -⟩ | ⟨-, r⟩
            · exact ⟨j, j1, j2⟩
            · exact absurd (r.trans h5) qw
          · exact g3 k' h3 (by omega) h5
      · rintro P s' ⟨Q', tl', rfl, hC', g1, g2, g3⟩
        rw [hQ3]
        refine kStep_N (P := [some (.inr (.inl 8)), some (.inl (x : Int)), some (.inr (.inl 3)), some (.inl (lw' : Int)), some (.inl (tl' : Int))]) rfl ⟨Q', tl', lw', rfl, hC', by omega, ?_, fun i hi => ?_, fun i y hi hU => ?_⟩
        · by_cases e : lw' = z
          · exact ⟨hd, by omega, by rw [g2 hd q, ← hz, e]⟩
          · obtain ⟨j, j1, j2⟩ := hlw
            exact ⟨j, by omega, by rw [g2 j j1, j2]; omega⟩
        · by_cases e : i = hd
          · rw [e, g2 hd q, ← hz]; omega
          · have := hlo i (by omega)
            rw [g2 i (by omega)]; omega
        · by_cases e : i = hd
          · rw [e, g2 hd q, ← hz, hUd] at hU
            obtain ⟨⟨a, ha, a1, a2⟩, hu⟩ := hU
            obtain ⟨j, hj, hja⟩ := ha
            obtain ⟨p, p1, p2⟩ := hF.2.2.2.2.2 j hj
            have hp : sn (Fi p) = z := by rw [p2, hja]; exact a2
            obtain ⟨y1, y2⟩ := (fan_at hF p1 hQn).mp hp
            have := g3 p y1 y2 (by rw [p2, hja, a1]; exact hu)
            rw [p2, hja, a1] at this
            exact this
          · rw [g2 i (by omega)] at hU
            obtain ⟨j, j1, j2⟩ := hcl i y (by omega) hU
            exact ⟨j, by omega, by rw [g2 j j1]; exact j2⟩
    · have ht : hd = tl := by omega
      have c2 : ¬ (hd : Int) < (tl : Int) := by omega
      obtain ⟨d1, d2, d3, d4, d5, d6⟩ := hC
      have hiff : ∀ v, rch U x v ↔ ∃ i, i < tl ∧ Q i = v := by
        intro v
        refine ⟨fun h => ?_, fun ⟨i, i1, i2⟩ => i2 ▸ (d2 i i1).2.2⟩
        refine rch.closed (S := fun v => ∃ i, i < tl ∧ Q i = v) ?_ ⟨0, d5, d6⟩ h
        rintro u v ⟨i, i1, rfl⟩ he
        exact hcl i v (by omega) he
      have fin : Q1 rN [some (.inr (.inl 8)), some (.inl (x : Int)), some (.inr (.inl 3)), some (.inl (lw : Int)), some (.inl (tl : Int))] s := by
        rw [hQ1]
        refine kThen_N.mpr ?_
        refine wpS_gen (fun Q3 hQ3 => ?_)
        unfold l_Strong_collect_3
        refine wpS_fp (fun k s' => (∀ o k, o ≠ 41 → s' o k = s o k) ∧ ∀ v, ((∃ i, i < k ∧ Q i = v) ∧ s' 41 v = (lw : Int)) ∨ (¬ (∃ i, i < k ∧ Q i = v) ∧ s' 41 v = s 41 v)) 0 tl rfl rfl ?_ ?_ ?_ ?_ ?_ ?_
        · simp only [wpS_skip, wpS_break, wpS_cont, wpS_retV, wpS_throw, wpS_seq, wpS_if, wpS_trunc, yS_let, yS_inc, kgK_i, kgK_r, kok_nil, kok_i0, kok_is, kok_r0, kok_rs, kok_n0, kok_ns, xS_put, xS_putOp, xS_ast0, xS_ast1, xS_astOp, wpS_E, wpS_call, wpS_callS, wpS_ret, kThen_N, kThen_B, kThen_C, kThen_R, kThen_T, kNext_N, kNext_C, kNext_B, kNext_R, wpE_K, wpE_KL, xE_I, xE_R, wpE_J, xE_bin, wpE_ladd, wpE_i2l, xE_get, xE_ald0, xE_ald1, wpE_if, xE_max, xE_min, wpE_len, wpA_nil, wpA_snoc, xE_call, xE_callS, xC_C, xC_L, xC_Z, wpC_and, wpC_or, wpC_not, wpC_if, kcmp_0, kcmp_1, kcmp_2, kcmp_3, kcmp_4, kcmp_5, rR_inj, kgO_some, kgO_add, kgO_sub, kgO_mul, kgO_div, kgO_rem, kgO_and, kvI_inl, kvJ_inl, kgI_0, kgI_s, kgR_0, kgR_s, kst_nil, kst_0, kst_s, kNLl_nil, kNLl_i, kNLl_r, kNLl_n, ktag_i, ktag_r, List.length_cons, List.length_nil, List.take_succ_cons, List.take_zero, List.take_nil, List.nil_append, List.cons_append, decide_eq_true_eq, Bool.not_eq_true, Bool.not_eq_true', decide_eq_false_iff_not, ne_eq, Decidable.not_not, true_and, and_true, Nat.reduceAdd, Nat.reduceLeDiff, Nat.reduceEqDiff, Nat.le_refl, not_true_eq_false, not_false_eq_true, reduceIte, eq_self, Int.reduceNeg, Int.reduceEq, Int.reduceLT, Int.reduceLE, Nat.zero_le, Nat.one_ne_zero]; trivial
        · omega
        · exact ⟨fun _ _ _ => rfl, fun v => Or.inr ⟨fun ⟨i, hi, _⟩ => absurd hi (by omega), rfl⟩⟩
        · rintro k s' - - -
          simp only [wpS_skip, wpS_break, wpS_cont, wpS_retV, wpS_throw, wpS_seq, wpS_if, wpS_trunc, yS_let, yS_inc, kgK_i, kgK_r, kok_nil, kok_i0, kok_is, kok_r0, kok_rs, kok_n0, kok_ns, xS_put, xS_putOp, xS_ast0, xS_ast1, xS_astOp, wpS_E, wpS_call, wpS_callS, wpS_ret, kThen_N, kThen_B, kThen_C, kThen_R, kThen_T, kNext_N, kNext_C, kNext_B, kNext_R, wpE_K, wpE_KL, xE_I, xE_R, wpE_J, xE_bin, wpE_ladd, wpE_i2l, xE_get, xE_ald0, xE_ald1, wpE_if, xE_max, xE_min, wpE_len, wpA_nil, wpA_snoc, xE_call, xE_callS, xC_C, xC_L, xC_Z, wpC_and, wpC_or, wpC_not, wpC_if, kcmp_0, kcmp_1, kcmp_2, kcmp_3, kcmp_4, kcmp_5, rR_inj, kgO_some, kgO_add, kgO_sub, kgO_mul, kgO_div, kgO_rem, kgO_and, kvI_inl, kvJ_inl, kgI_0, kgI_s, kgR_0, kgR_s, kst_nil, kst_0, kst_s, kNLl_nil, kNLl_i, kNLl_r, kNLl_n, ktag_i, ktag_r, List.length_cons, List.length_nil, List.take_succ_cons, List.take_zero, List.take_nil, List.nil_append, List.cons_append, decide_eq_true_eq, Bool.not_eq_true, Bool.not_eq_true', decide_eq_false_iff_not, ne_eq, Decidable.not_not, true_and, and_true, Nat.reduceAdd, Nat.reduceLeDiff, Nat.reduceEqDiff, Nat.le_refl, not_true_eq_false, not_false_eq_true, reduceIte, eq_self, Int.reduceNeg, Int.reduceEq, Int.reduceLT, Int.reduceLE, Nat.zero_le, Nat.one_ne_zero]
        · rintro k s' - hk2 ⟨g1, g2⟩
          obtain ⟨e43, hQn, -⟩ := d2 k hk2
          have e43' : s' 43 k = (Q k : Int) := by rw [g1 _ _ (by decide)]; exact e43
          refine wpS_gen (fun Q4 hQ4 => ?_)
          simp only [wpS_skip, wpS_break, wpS_cont, wpS_retV, wpS_throw, wpS_seq, wpS_if, wpS_trunc, yS_let, yS_inc, kgK_i, kgK_r, kok_nil, kok_i0, kok_is, kok_r0, kok_rs, kok_n0, kok_ns, xS_put, xS_putOp, xS_ast0, xS_ast1, xS_astOp, wpS_E, wpS_call, wpS_callS, wpS_ret, kThen_N, kThen_B, kThen_C, kThen_R, kThen_T, kNext_N, kNext_C, kNext_B, kNext_R, wpE_K, wpE_KL, xE_I, xE_R, wpE_J, xE_bin, wpE_ladd, wpE_i2l, xE_get, xE_ald0, xE_ald1, wpE_if, xE_max, xE_min, wpE_len, wpA_nil, wpA_snoc, xE_call, xE_callS, xC_C, xC_L, xC_Z, wpC_and, wpC_or, wpC_not, wpC_if, kcmp_0, kcmp_1, kcmp_2, kcmp_3, kcmp_4, kcmp_5, rR_inj, kgO_some, kgO_add, kgO_sub, kgO_mul, kgO_div, kgO_rem, kgO_and, kvI_inl, kvJ_inl, kgI_0, kgI_s, kgR_0, kgR_s, kst_nil, kst_0, kst_s, kNLl_nil, kNLl_i, kNLl_r, kNLl_n, ktag_i, ktag_r, List.length_cons, List.length_nil, List.take_succ_cons, List.take_zero, List.take_nil, List.nil_append, List.cons_append, decide_eq_true_eq, Bool.not_eq_true, Bool.not_eq_true', decide_eq_false_iff_not, ne_eq, Decidable.not_not, true_and, and_true, Nat.reduceAdd, Nat.reduceLeDiff, Nat.reduceEqDiff, Nat.le_refl, not_true_eq_false, not_false_eq_true, reduceIte, eq_self, Int.reduceNeg, Int.reduceEq, Int.reduceLT, Int.reduceLE, Nat.zero_le, Nat.one_ne_zero, ev_strong, ev_strong_arr, Int.toNat_natCast, e43']
          repeat refine And.intro (by omega) ?_
          rw [hQ4]
          refine kStep_N rfl ⟨rfl, fun o k h => by rw [kup_ne h]; exact g1 o k h, fun v => ?_⟩
          rw [kup_eq]
          by_cases e : v = Q k
          · rw [if_pos e]; exact Or.inl ⟨⟨k, by omega, e.symm⟩, rfl⟩
          · rw [if_neg e]
            rcases g2 v with ⟨⟨i, i1, i2⟩, z⟩ | ⟨z1, z2⟩
            · exact Or.inl ⟨⟨i, by omega, i2⟩, z⟩
            · refine Or.inr ⟨fun ⟨i, i1, i2⟩ => ?_, z2⟩
              by_cases e2 : i = k
              · subst e2; exact e i2.symm
              · exact z1 ⟨i, by omega, i2⟩
        · rintro s' ⟨g1, g2⟩
          rw [hQ3]
          rw [hQ0]
          refine kThen_N.mpr (wpS_retV.mpr ⟨none, rfl, rfl, ?_⟩)
          refine ⟨rfl, fun o k h1 h2 => by rw [g1 o k h1]; exact d1 o k h1 h2, lw, (hiff lw).mpr hlw, fun v hv => ?_, fun v => ⟨fun h => ?_, fun h => ?_⟩⟩
          · obtain ⟨i, i1, rfl⟩ := (hiff v).mp hv
            exact hlo i (by omega)
          · rcases g2 v with z | z
            · exact z.2
            · exact absurd ((hiff v).mp h) z.1
          · rcases g2 v with z | z
            · exact absurd ((hiff v).mpr z.1) h
            · rw [z.2]
              rcases d4 v with z3 | z3
              · exact absurd z3.1 z.1
              · exact z3.2
      rcases Classical.em ((hd : Int) < 300) with c1 | c1
      · simp only [wpS_skip, wpS_break, wpS_cont, wpS_retV, wpS_throw, wpS_seq, wpS_if, wpS_trunc, yS_let, yS_inc, kgK_i, kgK_r, kok_nil, kok_i0, kok_is, kok_r0, kok_rs, kok_n0, kok_ns, xS_put, xS_putOp, xS_ast0, xS_ast1, xS_astOp, wpS_E, wpS_call, wpS_callS, wpS_ret, kThen_N, kThen_B, kThen_C, kThen_R, kThen_T, kNext_N, kNext_C, kNext_B, kNext_R, wpE_K, wpE_KL, xE_I, xE_R, wpE_J, xE_bin, wpE_ladd, wpE_i2l, xE_get, xE_ald0, xE_ald1, wpE_if, xE_max, xE_min, wpE_len, wpA_nil, wpA_snoc, xE_call, xE_callS, xC_C, xC_L, xC_Z, wpC_and, wpC_or, wpC_not, wpC_if, kcmp_0, kcmp_1, kcmp_2, kcmp_3, kcmp_4, kcmp_5, rR_inj, kgO_some, kgO_add, kgO_sub, kgO_mul, kgO_div, kgO_rem, kgO_and, kvI_inl, kvJ_inl, kgI_0, kgI_s, kgR_0, kgR_s, kst_nil, kst_0, kst_s, kNLl_nil, kNLl_i, kNLl_r, kNLl_n, ktag_i, ktag_r, List.length_cons, List.length_nil, List.take_succ_cons, List.take_zero, List.take_nil, List.nil_append, List.cons_append, decide_eq_true_eq, Bool.not_eq_true, Bool.not_eq_true', decide_eq_false_iff_not, ne_eq, Decidable.not_not, true_and, and_true, Nat.reduceAdd, Nat.reduceLeDiff, Nat.reduceEqDiff, Nat.le_refl, not_true_eq_false, not_false_eq_true, reduceIte, eq_self, Int.reduceNeg, Int.reduceEq, Int.reduceLT, Int.reduceLE, Nat.zero_le, Nat.one_ne_zero, c1, c2, decide_true, decide_false, Bool.false_eq_true, if_true, if_false, true_and, and_true, not_true_eq_false, not_false_eq_true]
        rw [hQ2]
        exact ⟨rfl, Or.inr ⟨rfl, fin⟩⟩
      · simp only [wpS_skip, wpS_break, wpS_cont, wpS_retV, wpS_throw, wpS_seq, wpS_if, wpS_trunc, yS_let, yS_inc, kgK_i, kgK_r, kok_nil, kok_i0, kok_is, kok_r0, kok_rs, kok_n0, kok_ns, xS_put, xS_putOp, xS_ast0, xS_ast1, xS_astOp, wpS_E, wpS_call, wpS_callS, wpS_ret, kThen_N, kThen_B, kThen_C, kThen_R, kThen_T, kNext_N, kNext_C, kNext_B, kNext_R, wpE_K, wpE_KL, xE_I, xE_R, wpE_J, xE_bin, wpE_ladd, wpE_i2l, xE_get, xE_ald0, xE_ald1, wpE_if, xE_max, xE_min, wpE_len, wpA_nil, wpA_snoc, xE_call, xE_callS, xC_C, xC_L, xC_Z, wpC_and, wpC_or, wpC_not, wpC_if, kcmp_0, kcmp_1, kcmp_2, kcmp_3, kcmp_4, kcmp_5, rR_inj, kgO_some, kgO_add, kgO_sub, kgO_mul, kgO_div, kgO_rem, kgO_and, kvI_inl, kvJ_inl, kgI_0, kgI_s, kgR_0, kgR_s, kst_nil, kst_0, kst_s, kNLl_nil, kNLl_i, kNLl_r, kNLl_n, ktag_i, ktag_r, List.length_cons, List.length_nil, List.take_succ_cons, List.take_zero, List.take_nil, List.nil_append, List.cons_append, decide_eq_true_eq, Bool.not_eq_true, Bool.not_eq_true', decide_eq_false_iff_not, ne_eq, Decidable.not_not, true_and, and_true, Nat.reduceAdd, Nat.reduceLeDiff, Nat.reduceEqDiff, Nat.le_refl, not_true_eq_false, not_false_eq_true, reduceIte, eq_self, Int.reduceNeg, Int.reduceEq, Int.reduceLT, Int.reduceLE, Nat.zero_le, Nat.one_ne_zero, c1, decide_true, decide_false, Bool.false_eq_true, if_true, if_false, true_and, and_true, not_true_eq_false, not_false_eq_true]
        rw [hQ2]
        exact ⟨rfl, Or.inr ⟨rfl, fin⟩⟩
/-- what Strong keeps -/
def StS (s : kS) (n c : Nat) (li fs sn : Nat → Nat) : Prop := s 8 6 ≤ s 1 5 ∧ (s 8 6 = s 1 5 → ∀ v, v < n → ∃ u : Nat, s 41 v = (u : Int) ∧ strIs c li fs sn v u)
theorem bothw.symm' {u v : Nat} (h : bothw c li fs sn u v) : bothw c li fs sn v u := ⟨h.2, h.1⟩
theorem bothw.trans' {u v w : Nat} (h : bothw c li fs sn u v) (h2 : bothw c li fs sn v w) : bothw c li fs sn u w := ⟨h.1.trans h2.1, h2.2.trans h.2⟩
theorem strLook_ok (hG : gOk n c ar li fs sn) (hW : Wb σ n c ar li fs sn) (hS : StS σ n c li fs sn) :
    wpF F_Strong_look [.inr (.inl 8)] σ (fun r s => r = none ∧ (∀ o k, ¬ (41 ≤ o ∧ o ≤ 44) → (o ≠ 8 ∨ (k ≠ 5 ∧ k ≠ 6)) → s o k = σ o k) ∧ s 8 6 = σ 1 5 ∧ ∀ v, v < n → ∃ u : Nat, s 41 v = (u : Int) ∧ strIs c li fs sn v u) := by
  have hn3 := hG.1
  obtain ⟨w1, w2, w3, w4, w5, w6, w7, Fo, So, Fi, Si, hFo, hFo2, -, -⟩ := id hW
  unfold F_Strong_look
  rw [wpF_kF]
  refine ⟨rfl, rfl, ?_⟩
  unfold s_Strong_look
  simp only [List.map_cons, List.map_nil]
  refine wpS_seq' (fun Q0 hQ0 => ?_)
  by_cases e : σ 8 6 = σ 1 5
  · refine wpS_seq' (fun Q108 hQ108 => ?_)
    simp only [wpS_skip, wpS_break, wpS_cont, wpS_retV, wpS_throw, wpS_seq, wpS_if, wpS_trunc, yS_let, yS_inc, kgK_i, kgK_r, kok_nil, kok_i0, kok_is, kok_r0, kok_rs, kok_n0, kok_ns, xS_put, xS_putOp, xS_ast0, xS_ast1, xS_astOp, wpS_E, wpS_call, wpS_callS, wpS_ret, kThen_N, kThen_B, kThen_C, kThen_R, kThen_T, kNext_N, kNext_C, kNext_B, kNext_R, wpE_K, wpE_KL, xE_I, xE_R, wpE_J, xE_bin, wpE_ladd, wpE_i2l, xE_get, xE_ald0, xE_ald1, wpE_if, xE_max, xE_min, wpE_len, wpA_nil, wpA_snoc, xE_call, xE_callS, xC_C, xC_L, xC_Z, wpC_and, wpC_or, wpC_not, wpC_if, kcmp_0, kcmp_1, kcmp_2, kcmp_3, kcmp_4, kcmp_5, rR_inj, kgO_some, kgO_add, kgO_sub, kgO_mul, kgO_div, kgO_rem, kgO_and, kvI_inl, kvJ_inl, kgI_0, kgI_s, kgR_0, kgR_s, kst_nil, kst_0, kst_s, kNLl_nil, kNLl_i, kNLl_r, kNLl_n, ktag_i, ktag_r, List.length_cons, List.length_nil, List.take_succ_cons, List.take_zero, List.take_nil, List.nil_append, List.cons_append, decide_eq_true_eq, Bool.not_eq_true, Bool.not_eq_true', decide_eq_false_iff_not, ne_eq, Decidable.not_not, true_and, and_true, Nat.reduceAdd, Nat.reduceLeDiff, Nat.reduceEqDiff, Nat.le_refl, not_true_eq_false, not_false_eq_true, reduceIte, eq_self, Int.reduceNeg, Int.reduceEq, Int.reduceLT, Int.reduceLE, Nat.zero_le, Nat.one_ne_zero, ev_strong, ev_web, e, decide_true, decide_false, Bool.false_eq_true, if_true, if_false, true_and, and_true, not_true_eq_false, not_false_eq_true]
    rw [hQ108]
    refine kThen_R.mpr ?_
    rw [hQ0]
    exact kThen_R.mpr ⟨none, rfl, rfl, rfl, fun _ _ _ _ => rfl, e, hS.2 e⟩
  · refine wpS_seq' (fun Q109 hQ109 => ?_)
    simp only [wpS_skip, wpS_break, wpS_cont, wpS_retV, wpS_throw, wpS_seq, wpS_if, wpS_trunc, yS_let, yS_inc, kgK_i, kgK_r, kok_nil, kok_i0, kok_is, kok_r0, kok_rs, kok_n0, kok_ns, xS_put, xS_putOp, xS_ast0, xS_ast1, xS_astOp, wpS_E, wpS_call, wpS_callS, wpS_ret, kThen_N, kThen_B, kThen_C, kThen_R, kThen_T, kNext_N, kNext_C, kNext_B, kNext_R, wpE_K, wpE_KL, xE_I, xE_R, wpE_J, xE_bin, wpE_ladd, wpE_i2l, xE_get, xE_ald0, xE_ald1, wpE_if, xE_max, xE_min, wpE_len, wpA_nil, wpA_snoc, xE_call, xE_callS, xC_C, xC_L, xC_Z, wpC_and, wpC_or, wpC_not, wpC_if, kcmp_0, kcmp_1, kcmp_2, kcmp_3, kcmp_4, kcmp_5, rR_inj, kgO_some, kgO_add, kgO_sub, kgO_mul, kgO_div, kgO_rem, kgO_and, kvI_inl, kvJ_inl, kgI_0, kgI_s, kgR_0, kgR_s, kst_nil, kst_0, kst_s, kNLl_nil, kNLl_i, kNLl_r, kNLl_n, ktag_i, ktag_r, List.length_cons, List.length_nil, List.take_succ_cons, List.take_zero, List.take_nil, List.nil_append, List.cons_append, decide_eq_true_eq, Bool.not_eq_true, Bool.not_eq_true', decide_eq_false_iff_not, ne_eq, Decidable.not_not, true_and, and_true, Nat.reduceAdd, Nat.reduceLeDiff, Nat.reduceEqDiff, Nat.le_refl, not_true_eq_false, not_false_eq_true, reduceIte, eq_self, Int.reduceNeg, Int.reduceEq, Int.reduceLT, Int.reduceLE, Nat.zero_le, Nat.one_ne_zero, ev_strong, ev_web, e, decide_true, decide_false, Bool.false_eq_true, if_true, if_false, true_and, and_true, not_true_eq_false, not_false_eq_true]
    repeat refine And.intro (by omega) ?_
    rw [hQ109]
    clear hQ109 Q109
    refine kThen_N.mpr ?_
    refine wpS_seq' (fun Q110 hQ110 => ?_)
    simp only [wpS_skip, wpS_break, wpS_cont, wpS_retV, wpS_throw, wpS_seq, wpS_if, wpS_trunc, yS_let, yS_inc, kgK_i, kgK_r, kok_nil, kok_i0, kok_is, kok_r0, kok_rs, kok_n0, kok_ns, xS_put, xS_putOp, xS_ast0, xS_ast1, xS_astOp, wpS_E, wpS_call, wpS_callS, wpS_ret, kThen_N, kThen_B, kThen_C, kThen_R, kThen_T, kNext_N, kNext_C, kNext_B, kNext_R, wpE_K, wpE_KL, xE_I, xE_R, wpE_J, xE_bin, wpE_ladd, wpE_i2l, xE_get, xE_ald0, xE_ald1, wpE_if, xE_max, xE_min, wpE_len, wpA_nil, wpA_snoc, xE_call, xE_callS, xC_C, xC_L, xC_Z, wpC_and, wpC_or, wpC_not, wpC_if, kcmp_0, kcmp_1, kcmp_2, kcmp_3, kcmp_4, kcmp_5, rR_inj, kgO_some, kgO_add, kgO_sub, kgO_mul, kgO_div, kgO_rem, kgO_and, kvI_inl, kvJ_inl, kgI_0, kgI_s, kgR_0, kgR_s, kst_nil, kst_0, kst_s, kNLl_nil, kNLl_i, kNLl_r, kNLl_n, ktag_i, ktag_r, List.length_cons, List.length_nil, List.take_succ_cons, List.take_zero, List.take_nil, List.nil_append, List.cons_append, decide_eq_true_eq, Bool.not_eq_true, Bool.not_eq_true', decide_eq_false_iff_not, ne_eq, Decidable.not_not, true_and, and_true, Nat.reduceAdd, Nat.reduceLeDiff, Nat.reduceEqDiff, Nat.le_refl, not_true_eq_false, not_false_eq_true, reduceIte, eq_self, Int.reduceNeg, Int.reduceEq, Int.reduceLT, Int.reduceLE, Nat.zero_le, Nat.one_ne_zero, ev_strong, decide_true, decide_false, Bool.false_eq_true, if_true, if_false, true_and, and_true, not_true_eq_false, not_false_eq_true]
    refine (fill_ok (n := 300) (by omega) rfl rfl).mono ?_
    rintro r s0 ⟨rfl, hs0⟩
    refine ⟨rfl, ?_⟩
    rw [hQ110]
    clear hQ110
    refine kThen_N.mpr ?_
    have f1 : ∀ o k, o ≠ 44 → s0 o k = σ o k := by intro o k ho; rw [hs0]; unfold kfill; rw [if_neg (fun q => ho q.1)]
    have f2 : ∀ v, v < 300 → s0 44 v = -1 := by intro v hv; rw [hs0]; unfold kfill; rw [if_pos ⟨rfl, hv⟩]
    refine wpS_seq' (fun Q111 hQ111 => ?_)
    simp only [wpS_skip, wpS_break, wpS_cont, wpS_retV, wpS_throw, wpS_seq, wpS_if, wpS_trunc, yS_let, yS_inc, kgK_i, kgK_r, kok_nil, kok_i0, kok_is, kok_r0, kok_rs, kok_n0, kok_ns, xS_put, xS_putOp, xS_ast0, xS_ast1, xS_astOp, wpS_E, wpS_call, wpS_callS, wpS_ret, kThen_N, kThen_B, kThen_C, kThen_R, kThen_T, kNext_N, kNext_C, kNext_B, kNext_R, wpE_K, wpE_KL, xE_I, xE_R, wpE_J, xE_bin, wpE_ladd, wpE_i2l, xE_get, xE_ald0, xE_ald1, wpE_if, xE_max, xE_min, wpE_len, wpA_nil, wpA_snoc, xE_call, xE_callS, xC_C, xC_L, xC_Z, wpC_and, wpC_or, wpC_not, wpC_if, kcmp_0, kcmp_1, kcmp_2, kcmp_3, kcmp_4, kcmp_5, rR_inj, kgO_some, kgO_add, kgO_sub, kgO_mul, kgO_div, kgO_rem, kgO_and, kvI_inl, kvJ_inl, kgI_0, kgI_s, kgR_0, kgR_s, kst_nil, kst_0, kst_s, kNLl_nil, kNLl_i, kNLl_r, kNLl_n, ktag_i, ktag_r, List.length_cons, List.length_nil, List.take_succ_cons, List.take_zero, List.take_nil, List.nil_append, List.cons_append, decide_eq_true_eq, Bool.not_eq_true, Bool.not_eq_true', decide_eq_false_iff_not, ne_eq, Decidable.not_not, true_and, and_true, Nat.reduceAdd, Nat.reduceLeDiff, Nat.reduceEqDiff, Nat.le_refl, not_true_eq_false, not_false_eq_true, reduceIte, eq_self, Int.reduceNeg, Int.reduceEq, Int.reduceLT, Int.reduceLE, Nat.zero_le, Nat.one_ne_zero, ev_strong]
    repeat refine And.intro (by omega) ?_
    rw [hQ111]
    clear hQ111 Q111
    refine kThen_N.mpr ?_
    refine wpS_seq' (fun Q1 hQ1 => ?_)
    unfold l_Strong_look_1
    refine wpS_fp (fun i s => (∀ o k, ¬ (42 ≤ o ∧ o ≤ 44) → (o ≠ 8 ∨ k ≠ 5) → s o k = σ o k) ∧ (∀ v, v < i → s 44 v ≠ -1) ∧ ∃ S L lc, dfS s n c li fs sn Fo So S L 0 lc) 0 n rfl rfl ?_ ?_ ?_ ?_ ?_ ?_
    · simp only [wpS_skip, wpS_break, wpS_cont, wpS_retV, wpS_throw, wpS_seq, wpS_if, wpS_trunc, yS_let, yS_inc, kgK_i, kgK_r, kok_nil, kok_i0, kok_is, kok_r0, kok_rs, kok_n0, kok_ns, xS_put, xS_putOp, xS_ast0, xS_ast1, xS_astOp, wpS_E, wpS_call, wpS_callS, wpS_ret, kThen_N, kThen_B, kThen_C, kThen_R, kThen_T, kNext_N, kNext_C, kNext_B, kNext_R, wpE_K, wpE_KL, xE_I, xE_R, wpE_J, xE_bin, wpE_ladd, wpE_i2l, xE_get, xE_ald0, xE_ald1, wpE_if, xE_max, xE_min, wpE_len, wpA_nil, wpA_snoc, xE_call, xE_callS, xC_C, xC_L, xC_Z, wpC_and, wpC_or, wpC_not, wpC_if, kcmp_0, kcmp_1, kcmp_2, kcmp_3, kcmp_4, kcmp_5, rR_inj, kgO_some, kgO_add, kgO_sub, kgO_mul, kgO_div, kgO_rem, kgO_and, kvI_inl, kvJ_inl, kgI_0, kgI_s, kgR_0, kgR_s, kst_nil, kst_0, kst_s, kNLl_nil, kNLl_i, kNLl_r, kNLl_n, ktag_i, ktag_r, List.length_cons, List.length_nil, List.take_succ_cons, List.take_zero, List.take_nil, List.nil_append, List.cons_append, decide_eq_true_eq, Bool.not_eq_true, Bool.not_eq_true', decide_eq_false_iff_not, ne_eq, Decidable.not_not, true_and, and_true, Nat.reduceAdd, Nat.reduceLeDiff, Nat.reduceEqDiff, Nat.le_refl, not_true_eq_false, not_false_eq_true, reduceIte, eq_self, Int.reduceNeg, Int.reduceEq, Int.reduceLT, Int.reduceLE, Nat.zero_le, Nat.one_ne_zero]; trivial
    · omega
    · refine ⟨fun o k h1 h2 => by rw [kup_other h2, f1 _ _ (by omega)], fun v hv => absurd hv (by omega), fun _ => 0, fun _ => 0, 0, ⟨⟨⟨fun i hi => absurd hi (by omega), fun i hi => absurd hi (by omega)⟩, ⟨fun i j _ hj => absurd hj (by omega), fun i j _ hj => absurd hj (by omega), fun i j hi => absurd hi (by omega)⟩, fun v hv => Or.inl ?_, fun v hv => ⟨fun h => absurd ?_ h, ?_⟩, fun i hi => absurd hi (by omega), fun v k hv _ hk => ?_, fun i hi => absurd hi (by omega), fun i v hi => absurd hi (by omega)⟩, fun i hi => absurd hi (by omega), fun i hi => absurd hi (by omega), ?_⟩⟩
      · rw [kup_ne (by decide)]; exact f2 v (by omega)
      · rw [kup_ne (by decide)]; exact f2 v (by omega)
      · rintro (⟨i, hi, -⟩ | ⟨i, hi, -⟩) <;> omega
      · rw [kup_ne (by decide), f2 v (by omega)] at hk; omega
      · rw [kup_eq, if_pos rfl]; rfl
    · rintro i s - - ⟨hk, -⟩
      have e13 : s 1 3 = (n : Int) := by rw [hk _ _ (by decide) (by decide)]; exact w1
      simp only [wpS_skip, wpS_break, wpS_cont, wpS_retV, wpS_throw, wpS_seq, wpS_if, wpS_trunc, yS_let, yS_inc, kgK_i, kgK_r, kok_nil, kok_i0, kok_is, kok_r0, kok_rs, kok_n0, kok_ns, xS_put, xS_putOp, xS_ast0, xS_ast1, xS_astOp, wpS_E, wpS_call, wpS_callS, wpS_ret, kThen_N, kThen_B, kThen_C, kThen_R, kThen_T, kNext_N, kNext_C, kNext_B, kNext_R, wpE_K, wpE_KL, xE_I, xE_R, wpE_J, xE_bin, wpE_ladd, wpE_i2l, xE_get, xE_ald0, xE_ald1, wpE_if, xE_max, xE_min, wpE_len, wpA_nil, wpA_snoc, xE_call, xE_callS, xC_C, xC_L, xC_Z, wpC_and, wpC_or, wpC_not, wpC_if, kcmp_0, kcmp_1, kcmp_2, kcmp_3, kcmp_4, kcmp_5, rR_inj, kgO_some, kgO_add, kgO_sub, kgO_mul, kgO_div, kgO_rem, kgO_and, kvI_inl, kvJ_inl, kgI_0, kgI_s, kgR_0, kgR_s, kst_nil, kst_0, kst_s, kNLl_nil, kNLl_i, kNLl_r, kNLl_n, ktag_i, ktag_r, List.length_cons, List.length_nil, List.take_succ_cons, List.take_zero, List.take_nil, List.nil_append, List.cons_append, decide_eq_true_eq, Bool.not_eq_true, Bool.not_eq_true', decide_eq_false_iff_not, ne_eq, Decidable.not_not, true_and, and_true, Nat.reduceAdd, Nat.reduceLeDiff, Nat.reduceEqDiff, Nat.le_refl, not_true_eq_false, not_false_eq_true, reduceIte, eq_self, Int.reduceNeg, Int.reduceEq, Int.reduceLT, Int.reduceLE, Nat.zero_le, Nat.one_ne_zero, ev_strong, ev_web, e13]
    · rintro i s - hi ⟨hk, hv, S, L, lc, hD⟩
      have W2 : Wb s n c ar li fs sn := hW.agree (fun o k ho => hk o k (by unfold isWb at ho; omega) (by unfold isWb at ho; omega))
      have Fr2 : Fr s 2 19 20 n c Fo So := hFo.agree (fun k => hk _ _ (by decide) (Or.inl (by decide))) (fun k => hk _ _ (by decide) (Or.inl (by decide))) (fun k => hk _ _ (by decide) (Or.inl (by decide)))
      refine wpS_gen (fun Q2 hQ2 => ?_)
      by_cases z : s 44 i = -1
      · simp only [wpS_skip, wpS_break, wpS_cont, wpS_retV, wpS_throw, wpS_seq, wpS_if, wpS_trunc, yS_let, yS_inc, kgK_i, kgK_r, kok_nil, kok_i0, kok_is, kok_r0, kok_rs, kok_n0, kok_ns, xS_put, xS_putOp, xS_ast0, xS_ast1, xS_astOp, wpS_E, wpS_call, wpS_callS, wpS_ret, kThen_N, kThen_B, kThen_C, kThen_R, kThen_T, kNext_N, kNext_C, kNext_B, kNext_R, wpE_K, wpE_KL, xE_I, xE_R, wpE_J, xE_bin, wpE_ladd, wpE_i2l, xE_get, xE_ald0, xE_ald1, wpE_if, xE_max, xE_min, wpE_len, wpA_nil, wpA_snoc, xE_call, xE_callS, xC_C, xC_L, xC_Z, wpC_and, wpC_or, wpC_not, wpC_if, kcmp_0, kcmp_1, kcmp_2, kcmp_3, kcmp_4, kcmp_5, rR_inj, kgO_some, kgO_add, kgO_sub, kgO_mul, kgO_div, kgO_rem, kgO_and, kvI_inl, kvJ_inl, kgI_0, kgI_s, kgR_0, kgR_s, kst_nil, kst_0, kst_s, kNLl_nil, kNLl_i, kNLl_r, kNLl_n, ktag_i, ktag_r, List.length_cons, List.length_nil, List.take_succ_cons, List.take_zero, List.take_nil, List.nil_append, List.cons_append, decide_eq_true_eq, Bool.not_eq_true, Bool.not_eq_true', decide_eq_false_iff_not, ne_eq, Decidable.not_not, true_and, and_true, Nat.reduceAdd, Nat.reduceLeDiff, Nat.reduceEqDiff, Nat.le_refl, not_true_eq_false, not_false_eq_true, reduceIte, eq_self, Int.reduceNeg, Int.reduceEq, Int.reduceLT, Int.reduceLE, Nat.zero_le, Nat.one_ne_zero, ev_strong, ev_strong_arr, Int.toNat_natCast, z, decide_true, decide_false, Bool.false_eq_true, if_true, if_false, true_and, and_true, not_true_eq_false, not_false_eq_true]
        repeat refine And.intro (by omega) ?_
        refine (strLeave_ok hG W2 Fr2 hFo2 hi hD z).mono ?_
        rintro r s2 ⟨rfl, k2, g1, g2, g3⟩
        refine ⟨rfl, ?_⟩
        rw [hQ2]
        refine kStep_N rfl ⟨rfl, fun o k h1 h2 => by rw [k2 o k h1 h2]; exact hk o k h1 h2, fun v hv2 => ?_, g3⟩
        by_cases e2 : v = i
        · rw [e2]; exact g1
        · exact g2 v (hv v (by omega))
      · simp only [wpS_skip, wpS_break, wpS_cont, wpS_retV, wpS_throw, wpS_seq, wpS_if, wpS_trunc, yS_let, yS_inc, kgK_i, kgK_r, kok_nil, kok_i0, kok_is, kok_r0, kok_rs, kok_n0, kok_ns, xS_put, xS_putOp, xS_ast0, xS_ast1, xS_astOp, wpS_E, wpS_call, wpS_callS, wpS_ret, kThen_N, kThen_B, kThen_C, kThen_R, kThen_T, kNext_N, kNext_C, kNext_B, kNext_R, wpE_K, wpE_KL, xE_I, xE_R, wpE_J, xE_bin, wpE_ladd, wpE_i2l, xE_get, xE_ald0, xE_ald1, wpE_if, xE_max, xE_min, wpE_len, wpA_nil, wpA_snoc, xE_call, xE_callS, xC_C, xC_L, xC_Z, wpC_and, wpC_or, wpC_not, wpC_if, kcmp_0, kcmp_1, kcmp_2, kcmp_3, kcmp_4, kcmp_5, rR_inj, kgO_some, kgO_add, kgO_sub, kgO_mul, kgO_div, kgO_rem, kgO_and, kvI_inl, kvJ_inl, kgI_0, kgI_s, kgR_0, kgR_s, kst_nil, kst_0, kst_s, kNLl_nil, kNLl_i, kNLl_r, kNLl_n, ktag_i, ktag_r, List.length_cons, List.length_nil, List.take_succ_cons, List.take_zero, List.take_nil, List.nil_append, List.cons_append, decide_eq_true_eq, Bool.not_eq_true, Bool.not_eq_true', decide_eq_false_iff_not, ne_eq, Decidable.not_not, true_and, and_true, Nat.reduceAdd, Nat.reduceLeDiff, Nat.reduceEqDiff, Nat.le_refl, not_true_eq_false, not_false_eq_true, reduceIte, eq_self, Int.reduceNeg, Int.reduceEq, Int.reduceLT, Int.reduceLE, Nat.zero_le, Nat.one_ne_zero, ev_strong, ev_strong_arr, Int.toNat_natCast, z, decide_true, decide_false, Bool.false_eq_true, if_true, if_false, true_and, and_true, not_true_eq_false, not_false_eq_true]
        repeat refine And.intro (by omega) ?_
        rw [hQ2]
        refine kStep_N rfl ⟨rfl, hk, fun v hv2 => ?_, S, L, lc, hD⟩
        by_cases e2 : v = i
        · rw [e2]; exact z
        · exact hv v (by omega)
    rintro s1 ⟨hk1, hv1, S, L, lc, hD, hD1, hD2, hD3⟩
    rw [hQ1]
    clear hQ1 Q1
    refine kThen_N.mpr ?_
    have hlen := hD.len
    obtain ⟨⟨-, dL⟩, ⟨-, dI, -⟩, -, dV, -, -, -, dP⟩ := hD
    have hall : ∀ v, v < n → ∃ i, i < lc ∧ L i = v := fun v hv => ((dV v hv).mp (hv1 v hv)).resolve_left (fun ⟨i, hi, _⟩ => absurd hi (by omega))
    have hP : ∀ i v, i < lc → dE (th c li) fs sn (L i) v → (∃ j, j ≤ i ∧ L j = v) ∨ (∃ j, i < j ∧ j < lc ∧ L j = v ∧ ∀ k, i ≤ k → k ≤ j → rch (dE (th c li) fs sn) v (L k)) := fun i v hi he => by
      rcases dP i v hi he with q | q | ⟨j, hj, -⟩
      · exact Or.inl q
      · exact Or.inr q
      · exact absurd hj (by omega)
    refine wpS_seq' (fun Q112 hQ112 => ?_)
    simp only [wpS_skip, wpS_break, wpS_cont, wpS_retV, wpS_throw, wpS_seq, wpS_if, wpS_trunc, yS_let, yS_inc, kgK_i, kgK_r, kok_nil, kok_i0, kok_is, kok_r0, kok_rs, kok_n0, kok_ns, xS_put, xS_putOp, xS_ast0, xS_ast1, xS_astOp, wpS_E, wpS_call, wpS_callS, wpS_ret, kThen_N, kThen_B, kThen_C, kThen_R, kThen_T, kNext_N, kNext_C, kNext_B, kNext_R, wpE_K, wpE_KL, xE_I, xE_R, wpE_J, xE_bin, wpE_ladd, wpE_i2l, xE_get, xE_ald0, xE_ald1, wpE_if, xE_max, xE_min, wpE_len, wpA_nil, wpA_snoc, xE_call, xE_callS, xC_C, xC_L, xC_Z, wpC_and, wpC_or, wpC_not, wpC_if, kcmp_0, kcmp_1, kcmp_2, kcmp_3, kcmp_4, kcmp_5, rR_inj, kgO_some, kgO_add, kgO_sub, kgO_mul, kgO_div, kgO_rem, kgO_and, kvI_inl, kvJ_inl, kgI_0, kgI_s, kgR_0, kgR_s, kst_nil, kst_0, kst_s, kNLl_nil, kNLl_i, kNLl_r, kNLl_n, ktag_i, ktag_r, List.length_cons, List.length_nil, List.take_succ_cons, List.take_zero, List.take_nil, List.nil_append, List.cons_append, decide_eq_true_eq, Bool.not_eq_true, Bool.not_eq_true', decide_eq_false_iff_not, ne_eq, Decidable.not_not, true_and, and_true, Nat.reduceAdd, Nat.reduceLeDiff, Nat.reduceEqDiff, Nat.le_refl, not_true_eq_false, not_false_eq_true, reduceIte, eq_self, Int.reduceNeg, Int.reduceEq, Int.reduceLT, Int.reduceLE, Nat.zero_le, Nat.one_ne_zero, ev_strong, decide_true, decide_false, Bool.false_eq_true, if_true, if_false, true_and, and_true, not_true_eq_false, not_false_eq_true]
    refine (fill_ok (n := 300) (by omega) rfl rfl).mono ?_
    rintro r s2 ⟨rfl, hs2⟩
    refine ⟨rfl, ?_⟩
    rw [hQ112]
    clear hQ112
    refine kThen_N.mpr ?_
    have k21 : ∀ o k, o ≠ 41 → s2 o k = s1 o k := by intro o k ho; rw [hs2]; unfold kfill; rw [if_neg (fun q => ho q.1)]
    have k22 : ∀ v, v < 300 → s2 41 v = -1 := by intro v hv; rw [hs2]; unfold kfill; rw [if_pos ⟨rfl, hv⟩]
    have k2 : ∀ o k, ¬ (41 ≤ o ∧ o ≤ 44) → (o ≠ 8 ∨ k ≠ 5) → s2 o k = σ o k := fun o k h1 h2 => by rw [k21 _ _ (by omega)]; exact hk1 o k (by omega) h2
    have e85 : s2 8 5 = (lc : Int) := by rw [k21 _ _ (by decide)]; exact hD3
    refine wpS_seq' (fun Q1 hQ1 => ?_)
    unfold l_Strong_look_2
    refine wpS_fortG (fun k P s => P = [some (.inr (.inl 8))] ∧ (∀ o k, o ≠ 41 → o ≠ 43 → s o k = s2 o k) ∧ (∀ v, v < n → s 41 v = -1 ∨ ∃ u : Nat, s 41 v = (u : Int) ∧ strIs c li fs sn v u) ∧ (∀ u v, v < n → bothw c li fs sn u v → s 41 u = -1 → s 41 v = -1) ∧ ∀ j, lc - k ≤ j → j < lc → s 41 (L j) ≠ -1) (fun k => (lc : Int) - 1 - (k : Int)) lc rfl rfl ?_ ?_ ?_ ?_
    · simp only [wpS_skip, wpS_break, wpS_cont, wpS_retV, wpS_throw, wpS_seq, wpS_if, wpS_trunc, yS_let, yS_inc, kgK_i, kgK_r, kok_nil, kok_i0, kok_is, kok_r0, kok_rs, kok_n0, kok_ns, xS_put, xS_putOp, xS_ast0, xS_ast1, xS_astOp, wpS_E, wpS_call, wpS_callS, wpS_ret, kThen_N, kThen_B, kThen_C, kThen_R, kThen_T, kNext_N, kNext_C, kNext_B, kNext_R, wpE_K, wpE_KL, xE_I, xE_R, wpE_J, xE_bin, wpE_ladd, wpE_i2l, xE_get, xE_ald0, xE_ald1, wpE_if, xE_max, xE_min, wpE_len, wpA_nil, wpA_snoc, xE_call, xE_callS, xC_C, xC_L, xC_Z, wpC_and, wpC_or, wpC_not, wpC_if, kcmp_0, kcmp_1, kcmp_2, kcmp_3, kcmp_4, kcmp_5, rR_inj, kgO_some, kgO_add, kgO_sub, kgO_mul, kgO_div, kgO_rem, kgO_and, kvI_inl, kvJ_inl, kgI_0, kgI_s, kgR_0, kgR_s, kst_nil, kst_0, kst_s, kNLl_nil, kNLl_i, kNLl_r, kNLl_n, ktag_i, ktag_r, List.length_cons, List.length_nil, List.take_succ_cons, List.take_zero, List.take_nil, List.nil_append, List.cons_append, decide_eq_true_eq, Bool.not_eq_true, Bool.not_eq_true', decide_eq_false_iff_not, ne_eq, Decidable.not_not, true_and, and_true, Nat.reduceAdd, Nat.reduceLeDiff, Nat.reduceEqDiff, Nat.le_refl, not_true_eq_false, not_false_eq_true, reduceIte, eq_self, Int.reduceNeg, Int.reduceEq, Int.reduceLT, Int.reduceLE, Nat.zero_le, Nat.one_ne_zero, ev_strong, e85]
      exact ⟨by omega, congrArg Sum.inl (by omega)⟩
    · exact ⟨rfl, fun _ _ _ _ => rfl, fun v hv => Or.inl (k22 v (by omega)), fun u v hv _ _ => k22 v (by omega), fun j h1 h2 => absurd h1 (by omega)⟩
    · rintro k P s ⟨rfl, -⟩; exact ⟨rfl, rfl⟩
    · rintro k P s hkl ⟨rfl, g1, g2, g3, g4⟩
      refine wpC_gen (fun Q2 hQ2 => ?_)
      by_cases hk : k < lc
      · obtain ⟨m, hm⟩ : ∃ m, m = lc - 1 - k := ⟨_, rfl⟩
        have em : (lc : Int) - 1 - (k : Int) = (m : Int) := by omega
        have cm : (0 : Int) ≤ (m : Int) := by omega
        have hml : m < lc := by omega
        have hLn := dL m hml
        simp only [em]
        simp only [wpS_skip, wpS_break, wpS_cont, wpS_retV, wpS_throw, wpS_seq, wpS_if, wpS_trunc, yS_let, yS_inc, kgK_i, kgK_r, kok_nil, kok_i0, kok_is, kok_r0, kok_rs, kok_n0, kok_ns, xS_put, xS_putOp, xS_ast0, xS_ast1, xS_astOp, wpS_E, wpS_call, wpS_callS, wpS_ret, kThen_N, kThen_B, kThen_C, kThen_R, kThen_T, kNext_N, kNext_C, kNext_B, kNext_R, wpE_K, wpE_KL, xE_I, xE_R, wpE_J, xE_bin, wpE_ladd, wpE_i2l, xE_get, xE_ald0, xE_ald1, wpE_if, xE_max, xE_min, wpE_len, wpA_nil, wpA_snoc, xE_call, xE_callS, xC_C, xC_L, xC_Z, wpC_and, wpC_or, wpC_not, wpC_if, kcmp_0, kcmp_1, kcmp_2, kcmp_3, kcmp_4, kcmp_5, rR_inj, kgO_some, kgO_add, kgO_sub, kgO_mul, kgO_div, kgO_rem, kgO_and, kvI_inl, kvJ_inl, kgI_0, kgI_s, kgR_0, kgR_s, kst_nil, kst_0, kst_s, kNLl_nil, kNLl_i, kNLl_r, kNLl_n, ktag_i, ktag_r, List.length_cons, List.length_nil, List.take_succ_cons, List.take_zero, List.take_nil, List.nil_append, List.cons_append, decide_eq_true_eq, Bool.not_eq_true, Bool.not_eq_true', decide_eq_false_iff_not, ne_eq, Decidable.not_not, true_and, and_true, Nat.reduceAdd, Nat.reduceLeDiff, Nat.reduceEqDiff, Nat.le_refl, not_true_eq_false, not_false_eq_true, reduceIte, eq_self, Int.reduceNeg, Int.reduceEq, Int.reduceLT, Int.reduceLE, Nat.zero_le, Nat.one_ne_zero, cm, decide_true, decide_false, Bool.false_eq_true, if_true, if_false, true_and, and_true, not_true_eq_false, not_false_eq_true]
        rw [hQ2]
        refine ⟨rfl, Or.inl ⟨rfl, hk, by omega, by omega, by omega, ?_⟩⟩
        simp only [em]
        have e42 : s 42 m = (L m : Int) := by rw [g1 _ _ (by decide) (by decide), k21 _ _ (by decide)]; exact hD2 m hml
        refine wpS_gen (fun Q3 hQ3 => ?_)
        by_cases z : s 41 (L m) = -1
        · simp only [wpS_skip, wpS_break, wpS_cont, wpS_retV, wpS_throw, wpS_seq, wpS_if, wpS_trunc, yS_let, yS_inc, kgK_i, kgK_r, kok_nil, kok_i0, kok_is, kok_r0, kok_rs, kok_n0, kok_ns, xS_put, xS_putOp, xS_ast0, xS_ast1, xS_astOp, wpS_E, wpS_call, wpS_callS, wpS_ret, kThen_N, kThen_B, kThen_C, kThen_R, kThen_T, kNext_N, kNext_C, kNext_B, kNext_R, wpE_K, wpE_KL, xE_I, xE_R, wpE_J, xE_bin, wpE_ladd, wpE_i2l, xE_get, xE_ald0, xE_ald1, wpE_if, xE_max, xE_min, wpE_len, wpA_nil, wpA_snoc, xE_call, xE_callS, xC_C, xC_L, xC_Z, wpC_and, wpC_or, wpC_not, wpC_if, kcmp_0, kcmp_1, kcmp_2, kcmp_3, kcmp_4, kcmp_5, rR_inj, kgO_some, kgO_add, kgO_sub, kgO_mul, kgO_div, kgO_rem, kgO_and, kvI_inl, kvJ_inl, kgI_0, kgI_s, kgR_0, kgR_s, kst_nil, kst_0, kst_s, kNLl_nil, kNLl_i, kNLl_r, kNLl_n, ktag_i, ktag_r, List.length_cons, List.length_nil, List.take_succ_cons, List.take_zero, List.take_nil, List.nil_append, List.cons_append, decide_eq_true_eq, Bool.not_eq_true, Bool.not_eq_true', decide_eq_false_iff_not, ne_eq, Decidable.not_not, true_and, and_true, Nat.reduceAdd, Nat.reduceLeDiff, Nat.reduceEqDiff, Nat.le_refl, not_true_eq_false, not_false_eq_true, reduceIte, eq_self, Int.reduceNeg, Int.reduceEq, Int.reduceLT, Int.reduceLE, Nat.zero_le, Nat.one_ne_zero, ev_strong, ev_strong_arr, Int.toNat_natCast, e42, z, decide_true, decide_false, Bool.false_eq_true, if_true, if_false, true_and, and_true, not_true_eq_false, not_false_eq_true]
          repeat refine And.intro (by omega) ?_
          have W2 : Wb s n c ar li fs sn := hW.agree (fun o k ho => by rw [g1 o k (by unfold isWb at ho; omega) (by unfold isWb at ho; omega)]; exact k2 o k (by unfold isWb at ho; omega) (by unfold isWb at ho; omega))
          refine (strCollect_ok hG W2 hLn z rfl).mono ?_
          rintro r s3 ⟨rfl, k3, w, h1, h2, h3⟩
          refine ⟨rfl, ?_⟩
          have hun : ∀ i, i < lc → (fun v => s 41 v = -1) (L i) → i ≤ m := fun i hi hu => Nat.le_of_not_lt fun h => g4 i (by omega) hi hu
          have hclo : ∀ u v, s 41 u = -1 → bothw c li fs sn u v → s 41 v = -1 := by
            intro u v hu hb
            have hv : v = u ∨ v < n := by
              refine rch.closed (S := fun w => w = u ∨ w < n) ?_ (Or.inl rfl) hb.1
              rintro x y - ⟨a, ha, a1, a2⟩
              have := th_lt hG ha
              exact Or.inr (by omega)
            rcases hv with hv | hv
            · rw [hv]; exact hu
            · exact g3 u v hv hb hu
          have hpart : ∀ v, rch (unE (dE (th c li) fs sn) (fun v => s 41 v = -1)) (L m) v ↔ bothw c li fs sn (L m) v := kos_part hP dI hall hG hun hml z hLn hclo
          rw [hQ3]
          refine kStep_N (P := [some (.inr (.inl 8))]) rfl ⟨rfl, fun o k h1 h2 => by rw [k3 o k h1 h2]; exact g1 o k h1 h2, fun v hv => ?_, fun u v hv hb hu => ?_, fun j h4 h5 => ?_⟩
          · by_cases hb : bothw c li fs sn (L m) v
            · refine Or.inr ⟨w, (h3 v).1 ((hpart v).mpr hb), hb.symm'.trans' ((hpart w).mp h1), fun y hy => h2 y ((hpart y).mpr (hb.trans' hy))⟩
            · rw [(h3 v).2 (fun h => hb ((hpart v).mp h))]; exact g2 v hv
          · by_cases hb2 : bothw c li fs sn (L m) u
            · have := (h3 u).1 ((hpart u).mpr hb2); omega
            · have hb3 : ¬ bothw c li fs sn (L m) v := fun h => hb2 (h.trans' hb.symm')
              rw [(h3 u).2 (fun h => hb2 ((hpart u).mp h))] at hu
              rw [(h3 v).2 (fun h => hb3 ((hpart v).mp h))]
              exact g3 u v hv hb hu
          · by_cases hb : bothw c li fs sn (L m) (L j)
            · have := (h3 (L j)).1 ((hpart (L j)).mpr hb); omega
            · rw [(h3 (L j)).2 (fun h => hb ((hpart (L j)).mp h))]
              have hjm : j ≠ m := fun e => hb (by rw [e]; exact ⟨rch.rfl' _, rch.rfl' _⟩)
              exact g4 j (by omega) h5
        · simp only [wpS_skip, wpS_break, wpS_cont, wpS_retV, wpS_throw, wpS_seq, wpS_if, wpS_trunc, yS_let, yS_inc, kgK_i, kgK_r, kok_nil, kok_i0, kok_is, kok_r0, kok_rs, kok_n0, kok_ns, xS_put, xS_putOp, xS_ast0, xS_ast1, xS_astOp, wpS_E, wpS_call, wpS_callS, wpS_ret, kThen_N, kThen_B, kThen_C, kThen_R, kThen_T, kNext_N, kNext_C, kNext_B, kNext_R, wpE_K, wpE_KL, xE_I, xE_R, wpE_J, xE_bin, wpE_ladd, wpE_i2l, xE_get, xE_ald0, xE_ald1, wpE_if, xE_max, xE_min, wpE_len, wpA_nil, wpA_snoc, xE_call, xE_callS, xC_C, xC_L, xC_Z, wpC_and, wpC_or, wpC_not, wpC_if, kcmp_0, kcmp_1, kcmp_2, kcmp_3, kcmp_4, kcmp_5, rR_inj, kgO_some, kgO_add, kgO_sub, kgO_mul, kgO_div, kgO_rem, kgO_and, kvI_inl, kvJ_inl, kgI_0, kgI_s, kgR_0, kgR_s, kst_nil, kst_0, kst_s, kNLl_nil, kNLl_i, kNLl_r, kNLl_n, ktag_i, ktag_r, List.length_cons, List.length_nil, List.take_succ_cons, List.take_zero, List.take_nil, List.nil_append, List.cons_append, decide_eq_true_eq, Bool.not_eq_true, Bool.not_eq_true', decide_eq_false_iff_not, ne_eq, Decidable.not_not, true_and, and_true, Nat.reduceAdd, Nat.reduceLeDiff, Nat.reduceEqDiff, Nat.le_refl, not_true_eq_false, not_false_eq_true, reduceIte, eq_self, Int.reduceNeg, Int.reduceEq, Int.reduceLT, Int.reduceLE, Nat.zero_le, Nat.one_ne_zero, ev_strong, ev_strong_arr, Int.toNat_natCast, e42, z, decide_true, decide_false, Bool.false_eq_true, if_true, if_false, true_and, and_true, not_true_eq_false, not_false_eq_true]
          repeat refine And.intro (by omega) ?_
          rw [hQ3]
          refine kStep_N (P := [some (.inr (.inl 8))]) rfl ⟨rfl, g1, g2, g3, fun j h1 h2 => ?_⟩
          by_cases ej : j = m
          · rw [ej]; exact z
          · exact g4 j (by omega) h2
      · have em : (lc : Int) - 1 - (k : Int) = -1 := by omega
        simp only [em]
        simp only [wpS_skip, wpS_break, wpS_cont, wpS_retV, wpS_throw, wpS_seq, wpS_if, wpS_trunc, yS_let, yS_inc, kgK_i, kgK_r, kok_nil, kok_i0, kok_is, kok_r0, kok_rs, kok_n0, kok_ns, xS_put, xS_putOp, xS_ast0, xS_ast1, xS_astOp, wpS_E, wpS_call, wpS_callS, wpS_ret, kThen_N, kThen_B, kThen_C, kThen_R, kThen_T, kNext_N, kNext_C, kNext_B, kNext_R, wpE_K, wpE_KL, xE_I, xE_R, wpE_J, xE_bin, wpE_ladd, wpE_i2l, xE_get, xE_ald0, xE_ald1, wpE_if, xE_max, xE_min, wpE_len, wpA_nil, wpA_snoc, xE_call, xE_callS, xC_C, xC_L, xC_Z, wpC_and, wpC_or, wpC_not, wpC_if, kcmp_0, kcmp_1, kcmp_2, kcmp_3, kcmp_4, kcmp_5, rR_inj, kgO_some, kgO_add, kgO_sub, kgO_mul, kgO_div, kgO_rem, kgO_and, kvI_inl, kvJ_inl, kgI_0, kgI_s, kgR_0, kgR_s, kst_nil, kst_0, kst_s, kNLl_nil, kNLl_i, kNLl_r, kNLl_n, ktag_i, ktag_r, List.length_cons, List.length_nil, List.take_succ_cons, List.take_zero, List.take_nil, List.nil_append, List.cons_append, decide_eq_true_eq, Bool.not_eq_true, Bool.not_eq_true', decide_eq_false_iff_not, ne_eq, Decidable.not_not, true_and, and_true, Nat.reduceAdd, Nat.reduceLeDiff, Nat.reduceEqDiff, Nat.le_refl, not_true_eq_false, not_false_eq_true, reduceIte, eq_self, Int.reduceNeg, Int.reduceEq, Int.reduceLT, Int.reduceLE, Nat.zero_le, Nat.one_ne_zero, decide_true, decide_false, Bool.false_eq_true, if_true, if_false, true_and, and_true, not_true_eq_false, not_false_eq_true]
        rw [hQ2]
        refine ⟨rfl, Or.inr ⟨rfl, ?_⟩⟩
        rw [hQ1]
        refine kThen_N.mpr ?_
        refine wpS_gen (fun Q3 hQ3 => ?_)
        have e15 : s 1 5 = σ 1 5 := by rw [g1 _ _ (by decide) (by decide)]; exact k2 _ _ (by decide) (by decide)
        simp only [wpS_skip, wpS_break, wpS_cont, wpS_retV, wpS_throw, wpS_seq, wpS_if, wpS_trunc, yS_let, yS_inc, kgK_i, kgK_r, kok_nil, kok_i0, kok_is, kok_r0, kok_rs, kok_n0, kok_ns, xS_put, xS_putOp, xS_ast0, xS_ast1, xS_astOp, wpS_E, wpS_call, wpS_callS, wpS_ret, kThen_N, kThen_B, kThen_C, kThen_R, kThen_T, kNext_N, kNext_C, kNext_B, kNext_R, wpE_K, wpE_KL, xE_I, xE_R, wpE_J, xE_bin, wpE_ladd, wpE_i2l, xE_get, xE_ald0, xE_ald1, wpE_if, xE_max, xE_min, wpE_len, wpA_nil, wpA_snoc, xE_call, xE_callS, xC_C, xC_L, xC_Z, wpC_and, wpC_or, wpC_not, wpC_if, kcmp_0, kcmp_1, kcmp_2, kcmp_3, kcmp_4, kcmp_5, rR_inj, kgO_some, kgO_add, kgO_sub, kgO_mul, kgO_div, kgO_rem, kgO_and, kvI_inl, kvJ_inl, kgI_0, kgI_s, kgR_0, kgR_s, kst_nil, kst_0, kst_s, kNLl_nil, kNLl_i, kNLl_r, kNLl_n, ktag_i, ktag_r, List.length_cons, List.length_nil, List.take_succ_cons, List.take_zero, List.take_nil, List.nil_append, List.cons_append, decide_eq_true_eq, Bool.not_eq_true, Bool.not_eq_true', decide_eq_false_iff_not, ne_eq, Decidable.not_not, true_and, and_true, Nat.reduceAdd, Nat.reduceLeDiff, Nat.reduceEqDiff, Nat.le_refl, not_true_eq_false, not_false_eq_true, reduceIte, eq_self, Int.reduceNeg, Int.reduceEq, Int.reduceLT, Int.reduceLE, Nat.zero_le, Nat.one_ne_zero, ev_strong, ev_web, e15]
        rw [hQ3, hQ0]
        refine kThen_N.mpr (wpS_retV.mpr ⟨none, rfl, rfl, rfl, fun o k h1 h2 => ?_, by rw [kup_eq, if_pos rfl], fun v hv => ?_⟩)
        · rw [kup_other (by omega), g1 _ _ (by omega) (by omega)]
          exact k2 o k h1 (by omega)
        · rw [kup_ne (by decide)]
          rcases g2 v hv with q | q
          · obtain ⟨i, i1, rfl⟩ := hall v hv
            exact absurd q (g4 i (by omega) i1)
          · exact q
theorem strLeastOf_ok {v : Nat} (hG : gOk n c ar li fs sn) (hW : Wb σ n c ar li fs sn) (hS : StS σ n c li fs sn) (hv : v < n) :
    wpF F_Strong_leastOf [.inr (.inl 8), .inl (v : Int)] σ (fun r s => (∀ o k, ¬ (41 ≤ o ∧ o ≤ 44) → (o ≠ 8 ∨ (k ≠ 5 ∧ k ≠ 6)) → s o k = σ o k) ∧ StS s n c li fs sn ∧ ∃ u : Nat, r = some (.inl (u : Int)) ∧ strIs c li fs sn v u) := by
  have hn3 := hG.1
  unfold F_Strong_leastOf
  rw [wpF_kF]
  refine ⟨rfl, rfl, ?_⟩
  unfold s_Strong_leastOf
  simp only [List.map_cons, List.map_nil]
  refine wpS_seq' (fun Q113 hQ113 => ?_)
  simp only [wpS_skip, wpS_break, wpS_cont, wpS_retV, wpS_throw, wpS_seq, wpS_if, wpS_trunc, yS_let, yS_inc, kgK_i, kgK_r, kok_nil, kok_i0, kok_is, kok_r0, kok_rs, kok_n0, kok_ns, xS_put, xS_putOp, xS_ast0, xS_ast1, xS_astOp, wpS_E, wpS_call, wpS_callS, wpS_ret, kThen_N, kThen_B, kThen_C, kThen_R, kThen_T, kNext_N, kNext_C, kNext_B, kNext_R, wpE_K, wpE_KL, xE_I, xE_R, wpE_J, xE_bin, wpE_ladd, wpE_i2l, xE_get, xE_ald0, xE_ald1, wpE_if, xE_max, xE_min, wpE_len, wpA_nil, wpA_snoc, xE_call, xE_callS, xC_C, xC_L, xC_Z, wpC_and, wpC_or, wpC_not, wpC_if, kcmp_0, kcmp_1, kcmp_2, kcmp_3, kcmp_4, kcmp_5, rR_inj, kgO_some, kgO_add, kgO_sub, kgO_mul, kgO_div, kgO_rem, kgO_and, kvI_inl, kvJ_inl, kgI_0, kgI_s, kgR_0, kgR_s, kst_nil, kst_0, kst_s, kNLl_nil, kNLl_i, kNLl_r, kNLl_n, ktag_i, ktag_r, List.length_cons, List.length_nil, List.take_succ_cons, List.take_zero, List.take_nil, List.nil_append, List.cons_append, decide_eq_true_eq, Bool.not_eq_true, Bool.not_eq_true', decide_eq_false_iff_not, ne_eq, Decidable.not_not, true_and, and_true, Nat.reduceAdd, Nat.reduceLeDiff, Nat.reduceEqDiff, Nat.le_refl, not_true_eq_false, not_false_eq_true, reduceIte, eq_self, Int.reduceNeg, Int.reduceEq, Int.reduceLT, Int.reduceLE, Nat.zero_le, Nat.one_ne_zero]
  refine ⟨rfl, ?_⟩
  refine (strLook_ok hG hW hS).mono ?_
  rintro r s1 ⟨rfl, k1, k2, k3⟩
  refine ⟨rfl, ?_⟩
  rw [hQ113]
  clear hQ113
  refine kThen_N.mpr ?_
  obtain ⟨u, u1, u2⟩ := k3 v hv
  refine wpS_gen (fun Q114 hQ114 => ?_)
  simp only [wpS_skip, wpS_break, wpS_cont, wpS_retV, wpS_throw, wpS_seq, wpS_if, wpS_trunc, yS_let, yS_inc, kgK_i, kgK_r, kok_nil, kok_i0, kok_is, kok_r0, kok_rs, kok_n0, kok_ns, xS_put, xS_putOp, xS_ast0, xS_ast1, xS_astOp, wpS_E, wpS_call, wpS_callS, wpS_ret, kThen_N, kThen_B, kThen_C, kThen_R, kThen_T, kNext_N, kNext_C, kNext_B, kNext_R, wpE_K, wpE_KL, xE_I, xE_R, wpE_J, xE_bin, wpE_ladd, wpE_i2l, xE_get, xE_ald0, xE_ald1, wpE_if, xE_max, xE_min, wpE_len, wpA_nil, wpA_snoc, xE_call, xE_callS, xC_C, xC_L, xC_Z, wpC_and, wpC_or, wpC_not, wpC_if, kcmp_0, kcmp_1, kcmp_2, kcmp_3, kcmp_4, kcmp_5, rR_inj, kgO_some, kgO_add, kgO_sub, kgO_mul, kgO_div, kgO_rem, kgO_and, kvI_inl, kvJ_inl, kgI_0, kgI_s, kgR_0, kgR_s, kst_nil, kst_0, kst_s, kNLl_nil, kNLl_i, kNLl_r, kNLl_n, ktag_i, ktag_r, List.length_cons, List.length_nil, List.take_succ_cons, List.take_zero, List.take_nil, List.nil_append, List.cons_append, decide_eq_true_eq, Bool.not_eq_true, Bool.not_eq_true', decide_eq_false_iff_not, ne_eq, Decidable.not_not, true_and, and_true, Nat.reduceAdd, Nat.reduceLeDiff, Nat.reduceEqDiff, Nat.le_refl, not_true_eq_false, not_false_eq_true, reduceIte, eq_self, Int.reduceNeg, Int.reduceEq, Int.reduceLT, Int.reduceLE, Nat.zero_le, Nat.one_ne_zero, ev_strong, ev_strong_arr, Int.toNat_natCast, u1]
  repeat refine And.intro (by omega) ?_
  rw [hQ114]
  clear hQ114 Q114
  exact ⟨_, rfl, rfl, k1, ⟨by rw [k2, k1 _ _ (by decide) (by decide)]; exact Int.le_refl _, fun _ => k3⟩, u, rfl, u2⟩
theorem strParts_ok (hG : gOk n c ar li fs sn) (hW : Wb σ n c ar li fs sn) (hS : StS σ n c li fs sn) :
    wpF F_Strong_parts [.inr (.inl 8)] σ (fun r s => (∀ o k, ¬ (41 ≤ o ∧ o ≤ 44) → (o ≠ 8 ∨ (k ≠ 5 ∧ k ≠ 6)) → s o k = σ o k) ∧ StS s n c li fs sn ∧ r = some (.inl (cntP (fun v => strIs c li fs sn v v) n : Int))) := by
  have hn3 := hG.1
  unfold F_Strong_parts
  rw [wpF_kF]
  refine ⟨rfl, rfl, ?_⟩
  unfold s_Strong_parts
  simp only [List.map_cons, List.map_nil]
  refine wpS_seq' (fun Q115 hQ115 => ?_)
  simp only [wpS_skip, wpS_break, wpS_cont, wpS_retV, wpS_throw, wpS_seq, wpS_if, wpS_trunc, yS_let, yS_inc, kgK_i, kgK_r, kok_nil, kok_i0, kok_is, kok_r0, kok_rs, kok_n0, kok_ns, xS_put, xS_putOp, xS_ast0, xS_ast1, xS_astOp, wpS_E, wpS_call, wpS_callS, wpS_ret, kThen_N, kThen_B, kThen_C, kThen_R, kThen_T, kNext_N, kNext_C, kNext_B, kNext_R, wpE_K, wpE_KL, xE_I, xE_R, wpE_J, xE_bin, wpE_ladd, wpE_i2l, xE_get, xE_ald0, xE_ald1, wpE_if, xE_max, xE_min, wpE_len, wpA_nil, wpA_snoc, xE_call, xE_callS, xC_C, xC_L, xC_Z, wpC_and, wpC_or, wpC_not, wpC_if, kcmp_0, kcmp_1, kcmp_2, kcmp_3, kcmp_4, kcmp_5, rR_inj, kgO_some, kgO_add, kgO_sub, kgO_mul, kgO_div, kgO_rem, kgO_and, kvI_inl, kvJ_inl, kgI_0, kgI_s, kgR_0, kgR_s, kst_nil, kst_0, kst_s, kNLl_nil, kNLl_i, kNLl_r, kNLl_n, ktag_i, ktag_r, List.length_cons, List.length_nil, List.take_succ_cons, List.take_zero, List.take_nil, List.nil_append, List.cons_append, decide_eq_true_eq, Bool.not_eq_true, Bool.not_eq_true', decide_eq_false_iff_not, ne_eq, Decidable.not_not, true_and, and_true, Nat.reduceAdd, Nat.reduceLeDiff, Nat.reduceEqDiff, Nat.le_refl, not_true_eq_false, not_false_eq_true, reduceIte, eq_self, Int.reduceNeg, Int.reduceEq, Int.reduceLT, Int.reduceLE, Nat.zero_le, Nat.one_ne_zero]
  refine ⟨rfl, ?_⟩
  refine (strLook_ok hG hW hS).mono ?_
  rintro r s1 ⟨rfl, k1, k2, k3⟩
  refine ⟨rfl, ?_⟩
  rw [hQ115]
  clear hQ115
  refine kThen_N.mpr ?_
  refine wpS_seq' (fun Q116 hQ116 => ?_)
  simp only [wpS_skip, wpS_break, wpS_cont, wpS_retV, wpS_throw, wpS_seq, wpS_if, wpS_trunc, yS_let, yS_inc, kgK_i, kgK_r, kok_nil, kok_i0, kok_is, kok_r0, kok_rs, kok_n0, kok_ns, xS_put, xS_putOp, xS_ast0, xS_ast1, xS_astOp, wpS_E, wpS_call, wpS_callS, wpS_ret, kThen_N, kThen_B, kThen_C, kThen_R, kThen_T, kNext_N, kNext_C, kNext_B, kNext_R, wpE_K, wpE_KL, xE_I, xE_R, wpE_J, xE_bin, wpE_ladd, wpE_i2l, xE_get, xE_ald0, xE_ald1, wpE_if, xE_max, xE_min, wpE_len, wpA_nil, wpA_snoc, xE_call, xE_callS, xC_C, xC_L, xC_Z, wpC_and, wpC_or, wpC_not, wpC_if, kcmp_0, kcmp_1, kcmp_2, kcmp_3, kcmp_4, kcmp_5, rR_inj, kgO_some, kgO_add, kgO_sub, kgO_mul, kgO_div, kgO_rem, kgO_and, kvI_inl, kvJ_inl, kgI_0, kgI_s, kgR_0, kgR_s, kst_nil, kst_0, kst_s, kNLl_nil, kNLl_i, kNLl_r, kNLl_n, ktag_i, ktag_r, List.length_cons, List.length_nil, List.take_succ_cons, List.take_zero, List.take_nil, List.nil_append, List.cons_append, decide_eq_true_eq, Bool.not_eq_true, Bool.not_eq_true', decide_eq_false_iff_not, ne_eq, Decidable.not_not, true_and, and_true, Nat.reduceAdd, Nat.reduceLeDiff, Nat.reduceEqDiff, Nat.le_refl, not_true_eq_false, not_false_eq_true, reduceIte, eq_self, Int.reduceNeg, Int.reduceEq, Int.reduceLT, Int.reduceLE, Nat.zero_le, Nat.one_ne_zero]
  repeat refine And.intro (by omega) ?_
  rw [hQ116]
  clear hQ116 Q116
  refine kThen_N.mpr ?_
  refine wpS_seq' (fun Q1 hQ1 => ?_)
  unfold l_Strong_parts_1
  have e13 : s1 1 3 = (n : Int) := by rw [k1 _ _ (by decide) (by decide)]; exact hW.1
  refine wpS_fort (fun i P s => P = [some (.inr (.inl 8)), some (.inl (cntP (fun v => strIs c li fs sn v v) i : Int))] ∧ s = s1) 0 n rfl rfl ?_ ?_ ?_ ?_ ?_ ?_ ?_
  · simp only [wpS_skip, wpS_break, wpS_cont, wpS_retV, wpS_throw, wpS_seq, wpS_if, wpS_trunc, yS_let, yS_inc, kgK_i, kgK_r, kok_nil, kok_i0, kok_is, kok_r0, kok_rs, kok_n0, kok_ns, xS_put, xS_putOp, xS_ast0, xS_ast1, xS_astOp, wpS_E, wpS_call, wpS_callS, wpS_ret, kThen_N, kThen_B, kThen_C, kThen_R, kThen_T, kNext_N, kNext_C, kNext_B, kNext_R, wpE_K, wpE_KL, xE_I, xE_R, wpE_J, xE_bin, wpE_ladd, wpE_i2l, xE_get, xE_ald0, xE_ald1, wpE_if, xE_max, xE_min, wpE_len, wpA_nil, wpA_snoc, xE_call, xE_callS, xC_C, xC_L, xC_Z, wpC_and, wpC_or, wpC_not, wpC_if, kcmp_0, kcmp_1, kcmp_2, kcmp_3, kcmp_4, kcmp_5, rR_inj, kgO_some, kgO_add, kgO_sub, kgO_mul, kgO_div, kgO_rem, kgO_and, kvI_inl, kvJ_inl, kgI_0, kgI_s, kgR_0, kgR_s, kst_nil, kst_0, kst_s, kNLl_nil, kNLl_i, kNLl_r, kNLl_n, ktag_i, ktag_r, List.length_cons, List.length_nil, List.take_succ_cons, List.take_zero, List.take_nil, List.nil_append, List.cons_append, decide_eq_true_eq, Bool.not_eq_true, Bool.not_eq_true', decide_eq_false_iff_not, ne_eq, Decidable.not_not, true_and, and_true, Nat.reduceAdd, Nat.reduceLeDiff, Nat.reduceEqDiff, Nat.le_refl, not_true_eq_false, not_false_eq_true, reduceIte, eq_self, Int.reduceNeg, Int.reduceEq, Int.reduceLT, Int.reduceLE, Nat.zero_le, Nat.one_ne_zero]; trivial
  · omega
  · exact ⟨rfl, rfl⟩
  · rintro i P s ⟨rfl, -⟩; exact ⟨rfl, rfl⟩
  · rintro i P s - - ⟨rfl, hs⟩
    subst s
    simp only [wpS_skip, wpS_break, wpS_cont, wpS_retV, wpS_throw, wpS_seq, wpS_if, wpS_trunc, yS_let, yS_inc, kgK_i, kgK_r, kok_nil, kok_i0, kok_is, kok_r0, kok_rs, kok_n0, kok_ns, xS_put, xS_putOp, xS_ast0, xS_ast1, xS_astOp, wpS_E, wpS_call, wpS_callS, wpS_ret, kThen_N, kThen_B, kThen_C, kThen_R, kThen_T, kNext_N, kNext_C, kNext_B, kNext_R, wpE_K, wpE_KL, xE_I, xE_R, wpE_J, xE_bin, wpE_ladd, wpE_i2l, xE_get, xE_ald0, xE_ald1, wpE_if, xE_max, xE_min, wpE_len, wpA_nil, wpA_snoc, xE_call, xE_callS, xC_C, xC_L, xC_Z, wpC_and, wpC_or, wpC_not, wpC_if, kcmp_0, kcmp_1, kcmp_2, kcmp_3, kcmp_4, kcmp_5, rR_inj, kgO_some, kgO_add, kgO_sub, kgO_mul, kgO_div, kgO_rem, kgO_and, kvI_inl, kvJ_inl, kgI_0, kgI_s, kgR_0, kgR_s, kst_nil, kst_0, kst_s, kNLl_nil, kNLl_i, kNLl_r, kNLl_n, ktag_i, ktag_r, List.length_cons, List.length_nil, List.take_succ_cons, List.take_zero, List.take_nil, List.nil_append, List.cons_append, decide_eq_true_eq, Bool.not_eq_true, Bool.not_eq_true', decide_eq_false_iff_not, ne_eq, Decidable.not_not, true_and, and_true, Nat.reduceAdd, Nat.reduceLeDiff, Nat.reduceEqDiff, Nat.le_refl, not_true_eq_false, not_false_eq_true, reduceIte, eq_self, Int.reduceNeg, Int.reduceEq, Int.reduceLT, Int.reduceLE, Nat.zero_le, Nat.one_ne_zero, ev_strong, ev_web, e13]
  · rintro i P s - hi ⟨rfl, hs⟩
    subst s
    have hb := @cntP_bound (fun v => strIs c li fs sn v v) i
    obtain ⟨u, u1, u2⟩ := k3 i hi
    refine wpS_gen (fun Q2 hQ2 => ?_)
    by_cases e : u = i
    · have e' : (u : Int) = (i : Int) := by omega
      simp only [wpS_skip, wpS_break, wpS_cont, wpS_retV, wpS_throw, wpS_seq, wpS_if, wpS_trunc, yS_let, yS_inc, kgK_i, kgK_r, kok_nil, kok_i0, kok_is, kok_r0, kok_rs, kok_n0, kok_ns, xS_put, xS_putOp, xS_ast0, xS_ast1, xS_astOp, wpS_E, wpS_call, wpS_callS, wpS_ret, kThen_N, kThen_B, kThen_C, kThen_R, kThen_T, kNext_N, kNext_C, kNext_B, kNext_R, wpE_K, wpE_KL, xE_I, xE_R, wpE_J, xE_bin, wpE_ladd, wpE_i2l, xE_get, xE_ald0, xE_ald1, wpE_if, xE_max, xE_min, wpE_len, wpA_nil, wpA_snoc, xE_call, xE_callS, xC_C, xC_L, xC_Z, wpC_and, wpC_or, wpC_not, wpC_if, kcmp_0, kcmp_1, kcmp_2, kcmp_3, kcmp_4, kcmp_5, rR_inj, kgO_some, kgO_add, kgO_sub, kgO_mul, kgO_div, kgO_rem, kgO_and, kvI_inl, kvJ_inl, kgI_0, kgI_s, kgR_0, kgR_s, kst_nil, kst_0, kst_s, kNLl_nil, kNLl_i, kNLl_r, kNLl_n, ktag_i, ktag_r, List.length_cons, List.length_nil, List.take_succ_cons, List.take_zero, List.take_nil, List.nil_append, List.cons_append, decide_eq_true_eq, Bool.not_eq_true, Bool.not_eq_true', decide_eq_false_iff_not, ne_eq, Decidable.not_not, true_and, and_true, Nat.reduceAdd, Nat.reduceLeDiff, Nat.reduceEqDiff, Nat.le_refl, not_true_eq_false, not_false_eq_true, reduceIte, eq_self, Int.reduceNeg, Int.reduceEq, Int.reduceLT, Int.reduceLE, Nat.zero_le, Nat.one_ne_zero, ev_strong, ev_strong_arr, Int.toNat_natCast, u1, e', decide_true, decide_false, Bool.false_eq_true, if_true, if_false, true_and, and_true, not_true_eq_false, not_false_eq_true]
      repeat refine And.intro (by omega) ?_
      rw [hQ2]
      refine kStep_N (P := [some (.inr (.inl 8)), some (.inl ((cntP (fun v => strIs c li fs sn v v) i : Int) + 1))]) rfl ⟨?_, rfl⟩
      rw [cntP_succ_pos (P := fun v => strIs c li fs sn v v) (by rw [e] at u2; exact u2)]; rfl
    · have e' : ¬ (u : Int) = (i : Int) := by omega
      simp only [wpS_skip, wpS_break, wpS_cont, wpS_retV, wpS_throw, wpS_seq, wpS_if, wpS_trunc, yS_let, yS_inc, kgK_i, kgK_r, kok_nil, kok_i0, kok_is, kok_r0, kok_rs, kok_n0, kok_ns, xS_put, xS_putOp, xS_ast0, xS_ast1, xS_astOp, wpS_E, wpS_call, wpS_callS, wpS_ret, kThen_N, kThen_B, kThen_C, kThen_R, kThen_T, kNext_N, kNext_C, kNext_B, kNext_R, wpE_K, wpE_KL, xE_I, xE_R, wpE_J, xE_bin, wpE_ladd, wpE_i2l, xE_get, xE_ald0, xE_ald1, wpE_if, xE_max, xE_min, wpE_len, wpA_nil, wpA_snoc, xE_call, xE_callS, xC_C, xC_L, xC_Z, wpC_and, wpC_or, wpC_not, wpC_if, kcmp_0, kcmp_1, kcmp_2, kcmp_3, kcmp_4, kcmp_5, rR_inj, kgO_some, kgO_add, kgO_sub, kgO_mul, kgO_div, kgO_rem, kgO_and, kvI_inl, kvJ_inl, kgI_0, kgI_s, kgR_0, kgR_s, kst_nil, kst_0, kst_s, kNLl_nil, kNLl_i, kNLl_r, kNLl_n, ktag_i, ktag_r, List.length_cons, List.length_nil, List.take_succ_cons, List.take_zero, List.take_nil, List.nil_append, List.cons_append, decide_eq_true_eq, Bool.not_eq_true, Bool.not_eq_true', decide_eq_false_iff_not, ne_eq, Decidable.not_not, true_and, and_true, Nat.reduceAdd, Nat.reduceLeDiff, Nat.reduceEqDiff, Nat.le_refl, not_true_eq_false, not_false_eq_true, reduceIte, eq_self, Int.reduceNeg, Int.reduceEq, Int.reduceLT, Int.reduceLE, Nat.zero_le, Nat.one_ne_zero, ev_strong, ev_strong_arr, Int.toNat_natCast, u1, e', decide_true, decide_false, Bool.false_eq_true, if_true, if_false, true_and, and_true, not_true_eq_false, not_false_eq_true]
      repeat refine And.intro (by omega) ?_
      rw [hQ2]
      refine kStep_N (P := [some (.inr (.inl 8)), some (.inl (cntP (fun v => strIs c li fs sn v v) i : Int))]) rfl ⟨?_, rfl⟩
      rw [cntP_succ_neg (P := fun v => strIs c li fs sn v v) (fun h => e (Nat.le_antisymm (u2.2 _ h.1) (h.2 _ u2.1)))]
  · rintro P s ⟨rfl, hs⟩
    subst s
    rw [hQ1]
    refine kThen_N.mpr ?_
    refine wpS_gen (fun Q117 hQ117 => ?_)
    simp only [wpS_skip, wpS_break, wpS_cont, wpS_retV, wpS_throw, wpS_seq, wpS_if, wpS_trunc, yS_let, yS_inc, kgK_i, kgK_r, kok_nil, kok_i0, kok_is, kok_r0, kok_rs, kok_n0, kok_ns, xS_put, xS_putOp, xS_ast0, xS_ast1, xS_astOp, wpS_E, wpS_call, wpS_callS, wpS_ret, kThen_N, kThen_B, kThen_C, kThen_R, kThen_T, kNext_N, kNext_C, kNext_B, kNext_R, wpE_K, wpE_KL, xE_I, xE_R, wpE_J, xE_bin, wpE_ladd, wpE_i2l, xE_get, xE_ald0, xE_ald1, wpE_if, xE_max, xE_min, wpE_len, wpA_nil, wpA_snoc, xE_call, xE_callS, xC_C, xC_L, xC_Z, wpC_and, wpC_or, wpC_not, wpC_if, kcmp_0, kcmp_1, kcmp_2, kcmp_3, kcmp_4, kcmp_5, rR_inj, kgO_some, kgO_add, kgO_sub, kgO_mul, kgO_div, kgO_rem, kgO_and, kvI_inl, kvJ_inl, kgI_0, kgI_s, kgR_0, kgR_s, kst_nil, kst_0, kst_s, kNLl_nil, kNLl_i, kNLl_r, kNLl_n, ktag_i, ktag_r, List.length_cons, List.length_nil, List.take_succ_cons, List.take_zero, List.take_nil, List.nil_append, List.cons_append, decide_eq_true_eq, Bool.not_eq_true, Bool.not_eq_true', decide_eq_false_iff_not, ne_eq, Decidable.not_not, true_and, and_true, Nat.reduceAdd, Nat.reduceLeDiff, Nat.reduceEqDiff, Nat.le_refl, not_true_eq_false, not_false_eq_true, reduceIte, eq_self, Int.reduceNeg, Int.reduceEq, Int.reduceLT, Int.reduceLE, Nat.zero_le, Nat.one_ne_zero]
    repeat refine And.intro (by omega) ?_
    rw [hQ117]
    clear hQ117 Q117
    exact ⟨_, rfl, rfl, k1, ⟨by rw [k2, k1 _ _ (by decide) (by decide)]; exact Int.le_refl _, fun _ => k3⟩, rfl⟩
end SC
