/-! THE RING that an arc would close -/
theorem ds_at {E : Nat → Nat → Prop} {a : Nat} : ∀ {d b : Nat}, ds E a b d → ∀ k, k ≤ d → ∃ c, ds E a c k := by
  intro d
  induction d with
  | zero => intro b h k hk; have : k = 0 := by omega
            subst this; exact ⟨b, h⟩
  | succ d ih =>
    intro b h k hk
    by_cases e : k = d + 1
    · subst e; exact ⟨b, h⟩
    · obtain ⟨c, hc, -⟩ := h.pred
      exact ih hc k (by omega)
theorem ds_lt {E : Nat → Nat → Prop} {a b d n : Nat} (h : ds E a b d) (hn : ∀ v, rch E a v → v < n) : d < n := by
  have hx : ∀ k, ∃ c, k ≤ d → ds E a c k := by
    intro k
    by_cases hk : k ≤ d
    · obtain ⟨c, hc⟩ := ds_at h k hk
      exact ⟨c, fun _ => hc⟩
    · exact ⟨0, fun q => absurd q hk⟩
  have h1 := (cntP_row (P := fun _ => True) (n := n) (q := fun k => Classical.choose (hx k)) (t := d + 1) (fun i hi => ⟨hn _ (Classical.choose_spec (hx i) (by omega)).rch, trivial⟩) (fun i j hi hj e => by
    have a := Classical.choose_spec (hx i) (by omega)
    have b := Classical.choose_spec (hx j) (by omega)
    have e2 : Classical.choose (hx i) = Classical.choose (hx j) := e
    rw [e2] at a
    exact a.uniq b)).1
  have := @cntP_bound (fun _ => True) n
  omega
def bwE (O : Nat → Prop) (fs sn : Nat → Nat) (u v : Nat) : Prop := dE O fs sn v u
/-- an arc from v that leads one nearer to a -/
def nrr (O : Nat → Prop) (fs sn : Nat → Nat) (a v x : Nat) : Prop := O x ∧ fs x = v ∧ ∃ d, ds (bwE O fs sn) a (sn x) d ∧ ds (bwE O fs sn) a v (d + 1)
def isNx (O : Nat → Prop) (fs sn : Nat → Nat) (a v x : Nat) : Prop := nrr O fs sn a v x ∧ ∀ y, nrr O fs sn a v y → x ≤ y
def RingOf (O : Nat → Prop) (fs sn : Nat → Nat) (a b len : Nat) (rg : Nat → Nat) : Prop := ds (bwE O fs sn) a b len ∧ ∃ vs : Nat → Nat, vs 0 = b ∧ ∀ k, k < len → isNx O fs sn a (vs k) (rg k) ∧ vs (k + 1) = sn (rg k)
theorem RingOf.uniq {O : Nat → Prop} {fs sn : Nat → Nat} {a b l1 l2 : Nat} {r1 r2 : Nat → Nat} (h1 : RingOf O fs sn a b l1 r1) (h2 : RingOf O fs sn a b l2 r2) : l1 = l2 ∧ ∀ k, k < l1 → r1 k = r2 k := by
  obtain ⟨a1, v1, a2, a3⟩ := h1
  obtain ⟨b1, v2, b2, b3⟩ := h2
  have e := a1.uniq b1
  subst e
  have key : ∀ k, k ≤ l1 → v1 k = v2 k ∧ ∀ j, j < k → r1 j = r2 j := by
    intro k
    induction k with
    | zero => intro _; exact ⟨by rw [a2, b2], fun j hj => by omega⟩
    | succ k ih =>
      intro hk
      obtain ⟨i1, i2⟩ := ih (by omega)
      obtain ⟨c1, c2⟩ := a3 k (by omega)
      obtain ⟨d1, d2⟩ := b3 k (by omega)
      rw [i1] at c1
      have e : r1 k = r2 k := Nat.le_antisymm (c1.2 _ d1.1) (d1.2 _ c1.1)
      refine ⟨by rw [c2, d2, e], fun j hj => ?_⟩
      by_cases q : j = k
      · subst q; exact e
      · exact i2 j (by omega)
  exact ⟨rfl, fun k hk => (key (k + 1) (by omega)).2 k (by omega)⟩
theorem nrr_ex {O : Nat → Prop} {fs sn : Nat → Nat} {a v d : Nat} (h : ds (bwE O fs sn) a v (d + 1)) : ∃ x, nrr O fs sn a v x := by
  obtain ⟨c, hc, x, hx, h1, h2⟩ := h.pred
  exact ⟨x, hx, h1, d, by rw [h2]; exact hc, h⟩
section RG
variable {σ : kS} {n c ar : Nat} {li fs sn od : Nat → Nat} {lo : Nat → Int}
/-- behind[] tells how far nodes are from a -/
def bhd (s : kS) (O : Nat → Prop) (fs sn : Nat → Nat) (a : Nat) : Prop := (∀ v d, ds (bwE O fs sn) a v d → s 37 v = (d : Int)) ∧ (∀ v, v < 300 → ¬ rch (bwE O fs sn) a v → s 37 v = -1)
theorem nextOnRing_ok {a v d : Nat} (hG : gOk n c ar li fs sn) (hW : Wb σ n c ar li fs sn) (hlo : ∀ x, σ 33 x = lo x) (hB : bhd σ (fun y => th c li y ∧ lo y = 0) fs sn a) (hv : v < n) (hd : ds (bwE (fun y => th c li y ∧ lo y = 0) fs sn) a v (d + 1)) :
    wpF F_Row_nextOnRing [.inr (.inl 7), .inl (v : Int), .inl (d : Int)] σ (fun r s => s = σ ∧ ∃ x : Nat, r = some (.inl (x : Int)) ∧ isNx (fun y => th c li y ∧ lo y = 0) fs sn a v x) := by
  have hn3 := hG.1
  have hc9 := hG.2.1
  obtain ⟨O, hO⟩ : ∃ O : Nat → Prop, O = fun y => th c li y ∧ lo y = 0 := ⟨_, rfl⟩
  rw [← hO] at hB hd ⊢
  obtain ⟨w1, w2, w3, w4, w5, w6, w7, Fo, So, Fi, Si, w8, w9, w10, w11⟩ := id hW
  have sv := w8.2.2.2 v (by omega)
  have sv1 := w8.2.2.2 (v + 1) (by omega)
  have sle := fan_le w9 (show v + 1 ≤ n from hv)
  have smo := w9.2.2.1 v hv
  have t1 : ((v : Int) + 1).toNat = v + 1 := by omega
  have far : ∀ x, th c li x → (σ 37 (sn x) = (d : Int) ↔ ds (bwE O fs sn) a (sn x) d) := by
    intro x hx
    constructor
    · intro e
      by_cases q : rch (bwE O fs sn) a (sn x)
      · obtain ⟨d', hd'⟩ := q.ds
        have := hB.1 _ _ hd'
        have e2 : d' = d := by omega
        rw [← e2]; exact hd'
      · have := hB.2 _ (by have := (th_lt hG hx).2.2.2; omega) q
        omega
    · exact hB.1 _ _
  have nr : ∀ x, th c li x → fs x = v → (nrr O fs sn a v x ↔ (lo x = 0 ∧ ds (bwE O fs sn) a (sn x) d)) := by
    intro x hx hf
    constructor
    · rintro ⟨q1, -, d', q3, q4⟩
      rw [hO] at q1
      have := q4.uniq hd
      have e : d' = d := by omega
      exact ⟨q1.2, by rw [← e]; exact q3⟩
    · rintro ⟨q1, q2⟩
      exact ⟨by rw [hO]; exact ⟨hx, q1⟩, hf, d, q2, hd⟩
  unfold F_Row_nextOnRing
  rw [wpF_kF]
  refine ⟨rfl, rfl, ?_⟩
  unfold s_Row_nextOnRing
  simp only [List.map_cons, List.map_nil]
  refine wpS_seq' (fun Q101 hQ101 => ?_)
  simp only [wpS_skip, wpS_break, wpS_cont, wpS_retV, wpS_throw, wpS_seq, wpS_if, wpS_trunc, yS_let, yS_inc, kgK_i, kgK_r, kok_nil, kok_i0, kok_is, kok_r0, kok_rs, kok_n0, kok_ns, xS_put, xS_putOp, xS_ast0, xS_ast1, xS_astOp, wpS_E, wpS_call, wpS_callS, wpS_ret, kThen_N, kThen_B, kThen_C, kThen_R, kThen_T, kNext_N, kNext_C, kNext_B, kNext_R, wpE_K, wpE_KL, xE_I, xE_R, wpE_J, xE_bin, wpE_ladd, wpE_i2l, xE_get, xE_ald0, xE_ald1, wpE_if, xE_max, xE_min, wpE_len, wpA_nil, wpA_snoc, xE_call, xE_callS, xC_C, xC_L, xC_Z, wpC_and, wpC_or, wpC_not, wpC_if, kcmp_0, kcmp_1, kcmp_2, kcmp_3, kcmp_4, kcmp_5, rR_inj, kgO_some, kgO_add, kgO_sub, kgO_mul, kgO_div, kgO_rem, kgO_and, kvI_inl, kvJ_inl, kgI_0, kgI_s, kgR_0, kgR_s, kst_nil, kst_0, kst_s, kNLl_nil, kNLl_i, kNLl_r, kNLl_n, ktag_i, ktag_r, List.length_cons, List.length_nil, List.take_succ_cons, List.take_zero, List.take_nil, List.nil_append, List.cons_append, decide_eq_true_eq, Bool.not_eq_true, Bool.not_eq_true', decide_eq_false_iff_not, ne_eq, Decidable.not_not, true_and, and_true, Nat.reduceAdd, Nat.reduceLeDiff, Nat.reduceEqDiff, Nat.le_refl, not_true_eq_false, not_false_eq_true, reduceIte, eq_self, Int.reduceNeg, Int.reduceEq, Int.reduceLT, Int.reduceLE, Nat.zero_le, Nat.one_ne_zero, ev_row, ev_web]
  repeat refine And.intro (by omega) ?_
  rw [hQ101]
  clear hQ101 Q101
  refine kThen_N.mpr ?_
  refine wpS_seq' (fun Q1 hQ1 => ?_)
  unfold l_Row_nextOnRing_1
  refine wpS_fp (fun i s => s = σ ∧ ∀ j, So v ≤ j → j < i → ¬ nrr O fs sn a v (Fo j)) (So v) (So (v + 1)) rfl rfl ?_ ?_ ?_ ?_ ?_ ?_
  · simp only [wpS_skip, wpS_break, wpS_cont, wpS_retV, wpS_throw, wpS_seq, wpS_if, wpS_trunc, yS_let, yS_inc, kgK_i, kgK_r, kok_nil, kok_i0, kok_is, kok_r0, kok_rs, kok_n0, kok_ns, xS_put, xS_putOp, xS_ast0, xS_ast1, xS_astOp, wpS_E, wpS_call, wpS_callS, wpS_ret, kThen_N, kThen_B, kThen_C, kThen_R, kThen_T, kNext_N, kNext_C, kNext_B, kNext_R, wpE_K, wpE_KL, xE_I, xE_R, wpE_J, xE_bin, wpE_ladd, wpE_i2l, xE_get, xE_ald0, xE_ald1, wpE_if, xE_max, xE_min, wpE_len, wpA_nil, wpA_snoc, xE_call, xE_callS, xC_C, xC_L, xC_Z, wpC_and, wpC_or, wpC_not, wpC_if, kcmp_0, kcmp_1, kcmp_2, kcmp_3, kcmp_4, kcmp_5, rR_inj, kgO_some, kgO_add, kgO_sub, kgO_mul, kgO_div, kgO_rem, kgO_and, kvI_inl, kvJ_inl, kgI_0, kgI_s, kgR_0, kgR_s, kst_nil, kst_0, kst_s, kNLl_nil, kNLl_i, kNLl_r, kNLl_n, ktag_i, ktag_r, List.length_cons, List.length_nil, List.take_succ_cons, List.take_zero, List.take_nil, List.nil_append, List.cons_append, decide_eq_true_eq, Bool.not_eq_true, Bool.not_eq_true', decide_eq_false_iff_not, ne_eq, Decidable.not_not, true_and, and_true, Nat.reduceAdd, Nat.reduceLeDiff, Nat.reduceEqDiff, Nat.le_refl, not_true_eq_false, not_false_eq_true, reduceIte, eq_self, Int.reduceNeg, Int.reduceEq, Int.reduceLT, Int.reduceLE, Nat.zero_le, Nat.one_ne_zero, ev_fout, ev_fout_arr, Int.toNat_natCast, sv]
    omega
  · omega
  · exact ⟨rfl, fun j h1 h2 => by omega⟩
  · rintro i s h0 h1 ⟨rfl, -⟩
    simp only [wpS_skip, wpS_break, wpS_cont, wpS_retV, wpS_throw, wpS_seq, wpS_if, wpS_trunc, yS_let, yS_inc, kgK_i, kgK_r, kok_nil, kok_i0, kok_is, kok_r0, kok_rs, kok_n0, kok_ns, xS_put, xS_putOp, xS_ast0, xS_ast1, xS_astOp, wpS_E, wpS_call, wpS_callS, wpS_ret, kThen_N, kThen_B, kThen_C, kThen_R, kThen_T, kNext_N, kNext_C, kNext_B, kNext_R, wpE_K, wpE_KL, xE_I, xE_R, wpE_J, xE_bin, wpE_ladd, wpE_i2l, xE_get, xE_ald0, xE_ald1, wpE_if, xE_max, xE_min, wpE_len, wpA_nil, wpA_snoc, xE_call, xE_callS, xC_C, xC_L, xC_Z, wpC_and, wpC_or, wpC_not, wpC_if, kcmp_0, kcmp_1, kcmp_2, kcmp_3, kcmp_4, kcmp_5, rR_inj, kgO_some, kgO_add, kgO_sub, kgO_mul, kgO_div, kgO_rem, kgO_and, kvI_inl, kvJ_inl, kgI_0, kgI_s, kgR_0, kgR_s, kst_nil, kst_0, kst_s, kNLl_nil, kNLl_i, kNLl_r, kNLl_n, ktag_i, ktag_r, List.length_cons, List.length_nil, List.take_succ_cons, List.take_zero, List.take_nil, List.nil_append, List.cons_append, decide_eq_true_eq, Bool.not_eq_true, Bool.not_eq_true', decide_eq_false_iff_not, ne_eq, Decidable.not_not, true_and, and_true, Nat.reduceAdd, Nat.reduceLeDiff, Nat.reduceEqDiff, Nat.le_refl, not_true_eq_false, not_false_eq_true, reduceIte, eq_self, Int.reduceNeg, Int.reduceEq, Int.reduceLT, Int.reduceLE, Nat.zero_le, Nat.one_ne_zero, ev_fout, ev_fout_arr, Int.toNat_natCast, t1, sv1]
    omega
  · rintro i s h0 h1 ⟨rfl, S2⟩
    have hic : i < c := by omega
    obtain ⟨x, hx⟩ : ∃ x, x = Fo i := ⟨_, rfl⟩
    have hxt : th c li x := by rw [hx]; exact (w9.2.2.2.1 i hic).1
    have hxf : fs x = v := by rw [hx]; exact (fan_at w9 hic hv).mpr ⟨h0, h1⟩
    obtain ⟨x1, x2, x3, x4⟩ := th_lt hG hxt
    have e19 : s 19 i = x := by rw [w8.2.2.1 i hic, hx]
    have e16 := w5 x
    have e33 := hlo x
    rw [wpS_trunc]
    refine wpS_seq' (fun Q102 hQ102 => ?_)
    simp only [wpS_skip, wpS_break, wpS_cont, wpS_retV, wpS_throw, wpS_seq, wpS_if, wpS_trunc, yS_let, yS_inc, kgK_i, kgK_r, kok_nil, kok_i0, kok_is, kok_r0, kok_rs, kok_n0, kok_ns, xS_put, xS_putOp, xS_ast0, xS_ast1, xS_astOp, wpS_E, wpS_call, wpS_callS, wpS_ret, kThen_N, kThen_B, kThen_C, kThen_R, kThen_T, kNext_N, kNext_C, kNext_B, kNext_R, wpE_K, wpE_KL, xE_I, xE_R, wpE_J, xE_bin, wpE_ladd, wpE_i2l, xE_get, xE_ald0, xE_ald1, wpE_if, xE_max, xE_min, wpE_len, wpA_nil, wpA_snoc, xE_call, xE_callS, xC_C, xC_L, xC_Z, wpC_and, wpC_or, wpC_not, wpC_if, kcmp_0, kcmp_1, kcmp_2, kcmp_3, kcmp_4, kcmp_5, rR_inj, kgO_some, kgO_add, kgO_sub, kgO_mul, kgO_div, kgO_rem, kgO_and, kvI_inl, kvJ_inl, kgI_0, kgI_s, kgR_0, kgR_s, kst_nil, kst_0, kst_s, kNLl_nil, kNLl_i, kNLl_r, kNLl_n, ktag_i, ktag_r, List.length_cons, List.length_nil, List.take_succ_cons, List.take_zero, List.take_nil, List.nil_append, List.cons_append, decide_eq_true_eq, Bool.not_eq_true, Bool.not_eq_true', decide_eq_false_iff_not, ne_eq, Decidable.not_not, true_and, and_true, Nat.reduceAdd, Nat.reduceLeDiff, Nat.reduceEqDiff, Nat.le_refl, not_true_eq_false, not_false_eq_true, reduceIte, eq_self, Int.reduceNeg, Int.reduceEq, Int.reduceLT, Int.reduceLE, Nat.zero_le, Nat.one_ne_zero, ev_fout, ev_fout_arr, Int.toNat_natCast, e19]
    repeat refine And.intro (by omega) ?_
    rw [hQ102]
    clear hQ102 Q102
    refine kThen_N.mpr ?_
    refine wpS_gen (fun Q3 hQ3 => ?_)
    have no : ¬ nrr O fs sn a v x → Q3 rN [some (.inr (.inl 7)), some (.inl (v : Int)), some (.inl (d : Int)), some (.inr (.inl 2)), some (.inl (i : Int)), some (.inl (x : Int))] s := by
      intro hn
      rw [hQ3]
      refine kStep_N rfl ⟨rfl, rfl, fun j j1 j2 => ?_⟩
      by_cases e : j = i
      · subst e; rw [← hx]; exact hn
      · exact S2 j j1 (by omega)
    have yes : nrr O fs sn a v x → Q3 (rR (some (.inl (x : Int)))) [some (.inr (.inl 7)), some (.inl (v : Int)), some (.inl (d : Int)), some (.inr (.inl 2)), some (.inl (i : Int)), some (.inl (x : Int))] s := by
      intro hy
      rw [hQ3]
      refine kStep_R ?_
      rw [hQ1]
      refine kThen_R.mpr ⟨_, rfl, rfl, rfl, x, rfl, hy, fun y hy2 => ?_⟩
      have hyt : th c li y := by have := hy2.1; rw [hO] at this; exact this.1
      obtain ⟨k, k1, rfl⟩ := hyt
      obtain ⟨j, j1, j2⟩ := w9.2.2.2.2.2 k k1
      have hj := (fan_at w9 j1 hv).mp (by rw [j2]; exact hy2.2.1)
      rcases Nat.lt_trichotomy j i with w | w | w
      · exact absurd (by rw [j2]; exact hy2) (S2 j hj.1 w)
      · rw [hx, ← j2, w]; exact Nat.le_refl _
      · have := w9.2.2.2.2.1 i j w j1 (by rw [← hx, hxf, j2]; exact hy2.2.1.symm)
        omega
    have hnr := nr x hxt hxf
    rw [← far x hxt] at hnr
    simp only [wpS_skip, wpS_break, wpS_cont, wpS_retV, wpS_throw, wpS_seq, wpS_if, wpS_trunc, yS_let, yS_inc, kgK_i, kgK_r, kok_nil, kok_i0, kok_is, kok_r0, kok_rs, kok_n0, kok_ns, xS_put, xS_putOp, xS_ast0, xS_ast1, xS_astOp, wpS_E, wpS_call, wpS_callS, wpS_ret, kThen_N, kThen_B, kThen_C, kThen_R, kThen_T, kNext_N, kNext_C, kNext_B, kNext_R, wpE_K, wpE_KL, xE_I, xE_R, wpE_J, xE_bin, wpE_ladd, wpE_i2l, xE_get, xE_ald0, xE_ald1, wpE_if, xE_max, xE_min, wpE_len, wpA_nil, wpA_snoc, xE_call, xE_callS, xC_C, xC_L, xC_Z, wpC_and, wpC_or, wpC_not, wpC_if, kcmp_0, kcmp_1, kcmp_2, kcmp_3, kcmp_4, kcmp_5, rR_inj, kgO_some, kgO_add, kgO_sub, kgO_mul, kgO_div, kgO_rem, kgO_and, kvI_inl, kvJ_inl, kgI_0, kgI_s, kgR_0, kgR_s, kst_nil, kst_0, kst_s, kNLl_nil, kNLl_i, kNLl_r, kNLl_n, ktag_i, ktag_r, List.length_cons, List.length_nil, List.take_succ_cons, List.take_zero, List.take_nil, List.nil_append, List.cons_append, decide_eq_true_eq, Bool.not_eq_true, Bool.not_eq_true', decide_eq_false_iff_not, ne_eq, Decidable.not_not, true_and, and_true, Nat.reduceAdd, Nat.reduceLeDiff, Nat.reduceEqDiff, Nat.le_refl, not_true_eq_false, not_false_eq_true, reduceIte, eq_self, Int.reduceNeg, Int.reduceEq, Int.reduceLT, Int.reduceLE, Nat.zero_le, Nat.one_ne_zero, ev_row, ev_row_arr, ev_web, ev_web_arr, Int.toNat_natCast, e33, e16]
    refine ⟨by omega, ?_⟩
    by_cases a1 : lo x = 0
    · simp only [a1, decide_true, decide_false, Bool.false_eq_true, if_true, if_false, true_and, and_true, not_true_eq_false, not_false_eq_true]
      repeat refine And.intro (by omega) ?_
      by_cases a2 : s 37 (sn x) = (d : Int)
      · simp only [a2, decide_true, decide_false, Bool.false_eq_true, if_true, if_false, true_and, and_true, not_true_eq_false, not_false_eq_true]
        exact yes (hnr.mpr ⟨a1, a2⟩)
      · simp only [a2, decide_true, decide_false, Bool.false_eq_true, if_true, if_false, true_and, and_true, not_true_eq_false, not_false_eq_true]
        exact no (fun q => a2 (hnr.mp q).2)
    · simp only [a1, decide_true, decide_false, Bool.false_eq_true, if_true, if_false, true_and, and_true, not_true_eq_false, not_false_eq_true]
      exact no (fun q => a1 (hnr.mp q).1)
  · rintro s ⟨rfl, S2⟩
    exfalso
    obtain ⟨y, hy2⟩ := nrr_ex hd
    have hyt : th c li y := by have := hy2.1; rw [hO] at this; exact this.1
    obtain ⟨k, k1, rfl⟩ := hyt
    obtain ⟨j, j1, j2⟩ := w9.2.2.2.2.2 k k1
    have hj := (fan_at w9 j1 hv).mp (by rw [j2]; exact hy2.2.1)
    exact S2 j hj.1 hj.2 (by rw [j2]; exact hy2)
/-- the ring as the class holds it -/
def rgC (s : kS) (len : Nat) (rg : Nat → Nat) : Prop := s 7 9 = (len : Int) ∧ ∀ k, k < len → s 40 k = (rg k : Int)
theorem tellRing_ok {a b : Nat} (hG : gOk n c ar li fs sn) (hW : Wb σ n c ar li fs sn) (hlo : ∀ x, σ 33 x = lo x) (hR : Rw σ n od) (ha : a < n) (hb : b < n) (hOr : rsp (fun y => th c li y ∧ lo y = 0) fs sn (ivO n od)) :
    wpF F_Row_tellRing [.inr (.inl 7), .inl (a : Int), .inl (b : Int)] σ (fun r s => (∀ o k, o ≠ 37 → o ≠ 39 → o ≠ 40 → (o ≠ 7 ∨ k ≠ 9) → s o k = σ o k) ∧
      ((a = b ∧ r = some (.inl 1) ∧ rgC s 0 (fun _ => 0)) ∨ (a ≠ b ∧ ¬ rch (dE (fun y => th c li y ∧ lo y = 0) fs sn) b a ∧ r = some (.inl 0) ∧ s 7 9 = σ 7 9 ∧ ∀ k, s 40 k = σ 40 k) ∨
       (a ≠ b ∧ rch (dE (fun y => th c li y ∧ lo y = 0) fs sn) b a ∧ r = some (.inl 1) ∧ ∃ len rg, RingOf (fun y => th c li y ∧ lo y = 0) fs sn a b len rg ∧ rgC s len rg))) := by
  have hn3 := hG.1
  obtain ⟨w1, w2, w3, w4, w5, -⟩ := id hW
  unfold F_Row_tellRing
  rw [wpF_kF]
  refine ⟨rfl, rfl, ?_⟩
  unfold s_Row_tellRing
  simp only [List.map_cons, List.map_nil]
  by_cases hab : a = b
  · have c1 : (a : Int) = (b : Int) := by omega
    refine wpS_seq' (fun Q103 hQ103 => ?_)
    simp only [wpS_skip, wpS_break, wpS_cont, wpS_retV, wpS_throw, wpS_seq, wpS_if, wpS_trunc, yS_let, yS_inc, kgK_i, kgK_r, kok_nil, kok_i0, kok_is, kok_r0, kok_rs, kok_n0, kok_ns, xS_put, xS_putOp, xS_ast0, xS_ast1, xS_astOp, wpS_E, wpS_call, wpS_callS, wpS_ret, kThen_N, kThen_B, kThen_C, kThen_R, kThen_T, kNext_N, kNext_C, kNext_B, kNext_R, wpE_K, wpE_KL, xE_I, xE_R, wpE_J, xE_bin, wpE_ladd, wpE_i2l, xE_get, xE_ald0, xE_ald1, wpE_if, xE_max, xE_min, wpE_len, wpA_nil, wpA_snoc, xE_call, xE_callS, xC_C, xC_L, xC_Z, wpC_and, wpC_or, wpC_not, wpC_if, kcmp_0, kcmp_1, kcmp_2, kcmp_3, kcmp_4, kcmp_5, rR_inj, kgO_some, kgO_add, kgO_sub, kgO_mul, kgO_div, kgO_rem, kgO_and, kvI_inl, kvJ_inl, kgI_0, kgI_s, kgR_0, kgR_s, kst_nil, kst_0, kst_s, kNLl_nil, kNLl_i, kNLl_r, kNLl_n, ktag_i, ktag_r, List.length_cons, List.length_nil, List.take_succ_cons, List.take_zero, List.take_nil, List.nil_append, List.cons_append, decide_eq_true_eq, Bool.not_eq_true, Bool.not_eq_true', decide_eq_false_iff_not, ne_eq, Decidable.not_not, true_and, and_true, Nat.reduceAdd, Nat.reduceLeDiff, Nat.reduceEqDiff, Nat.le_refl, not_true_eq_false, not_false_eq_true, reduceIte, eq_self, Int.reduceNeg, Int.reduceEq, Int.reduceLT, Int.reduceLE, Nat.zero_le, Nat.one_ne_zero, ev_row, c1, decide_true, decide_false, Bool.false_eq_true, if_true, if_false, true_and, and_true, not_true_eq_false, not_false_eq_true]
    rw [hQ103]
    refine kThen_R.mpr ⟨_, rfl, rfl, fun o k o1 o2 o3 o4 => ?_, Or.inl ⟨hab, rfl, by simp [kup], fun k hk => by omega⟩⟩
    unfold kup
    rw [if_neg (fun q => o4.elim (fun w => w q.1) (fun w => w q.2))]
  · have c1 : ¬ (a : Int) = (b : Int) := by omega
    refine wpS_seq' (fun Q104 hQ104 => ?_)
    simp only [wpS_skip, wpS_break, wpS_cont, wpS_retV, wpS_throw, wpS_seq, wpS_if, wpS_trunc, yS_let, yS_inc, kgK_i, kgK_r, kok_nil, kok_i0, kok_is, kok_r0, kok_rs, kok_n0, kok_ns, xS_put, xS_putOp, xS_ast0, xS_ast1, xS_astOp, wpS_E, wpS_call, wpS_callS, wpS_ret, kThen_N, kThen_B, kThen_C, kThen_R, kThen_T, kNext_N, kNext_C, kNext_B, kNext_R, wpE_K, wpE_KL, xE_I, xE_R, wpE_J, xE_bin, wpE_ladd, wpE_i2l, xE_get, xE_ald0, xE_ald1, wpE_if, xE_max, xE_min, wpE_len, wpA_nil, wpA_snoc, xE_call, xE_callS, xC_C, xC_L, xC_Z, wpC_and, wpC_or, wpC_not, wpC_if, kcmp_0, kcmp_1, kcmp_2, kcmp_3, kcmp_4, kcmp_5, rR_inj, kgO_some, kgO_add, kgO_sub, kgO_mul, kgO_div, kgO_rem, kgO_and, kvI_inl, kvJ_inl, kgI_0, kgI_s, kgR_0, kgR_s, kst_nil, kst_0, kst_s, kNLl_nil, kNLl_i, kNLl_r, kNLl_n, ktag_i, ktag_r, List.length_cons, List.length_nil, List.take_succ_cons, List.take_zero, List.take_nil, List.nil_append, List.cons_append, decide_eq_true_eq, Bool.not_eq_true, Bool.not_eq_true', decide_eq_false_iff_not, ne_eq, Decidable.not_not, true_and, and_true, Nat.reduceAdd, Nat.reduceLeDiff, Nat.reduceEqDiff, Nat.le_refl, not_true_eq_false, not_false_eq_true, reduceIte, eq_self, Int.reduceNeg, Int.reduceEq, Int.reduceLT, Int.reduceLE, Nat.zero_le, Nat.one_ne_zero, ev_row, c1, decide_true, decide_false, Bool.false_eq_true, if_true, if_false, true_and, and_true, not_true_eq_false, not_false_eq_true]
    rw [hQ104]
    clear hQ104
    refine kThen_N.mpr ?_
    refine wpS_seq' (fun Q2 hQ2 => ?_)
    simp only [wpS_skip, wpS_break, wpS_cont, wpS_retV, wpS_throw, wpS_seq, wpS_if, wpS_trunc, yS_let, yS_inc, kgK_i, kgK_r, kok_nil, kok_i0, kok_is, kok_r0, kok_rs, kok_n0, kok_ns, xS_put, xS_putOp, xS_ast0, xS_ast1, xS_astOp, wpS_E, wpS_call, wpS_callS, wpS_ret, kThen_N, kThen_B, kThen_C, kThen_R, kThen_T, kNext_N, kNext_C, kNext_B, kNext_R, wpE_K, wpE_KL, xE_I, xE_R, wpE_J, xE_bin, wpE_ladd, wpE_i2l, xE_get, xE_ald0, xE_ald1, wpE_if, xE_max, xE_min, wpE_len, wpA_nil, wpA_snoc, xE_call, xE_callS, xC_C, xC_L, xC_Z, wpC_and, wpC_or, wpC_not, wpC_if, kcmp_0, kcmp_1, kcmp_2, kcmp_3, kcmp_4, kcmp_5, rR_inj, kgO_some, kgO_add, kgO_sub, kgO_mul, kgO_div, kgO_rem, kgO_and, kvI_inl, kvJ_inl, kgI_0, kgI_s, kgR_0, kgR_s, kst_nil, kst_0, kst_s, kNLl_nil, kNLl_i, kNLl_r, kNLl_n, ktag_i, ktag_r, List.length_cons, List.length_nil, List.take_succ_cons, List.take_zero, List.take_nil, List.nil_append, List.cons_append, decide_eq_true_eq, Bool.not_eq_true, Bool.not_eq_true', decide_eq_false_iff_not, ne_eq, Decidable.not_not, true_and, and_true, Nat.reduceAdd, Nat.reduceLeDiff, Nat.reduceEqDiff, Nat.le_refl, not_true_eq_false, not_false_eq_true, reduceIte, eq_self, Int.reduceNeg, Int.reduceEq, Int.reduceLT, Int.reduceLE, Nat.zero_le, Nat.one_ne_zero, ev_row]
    refine (reaches_ok hG hW hlo hR ha hb hOr).mono ?_
    rintro r s1 ⟨k1, ⟨k2, rfl, k3, k4⟩ | ⟨k2, rfl⟩⟩
    · rw [kgO_some]
      simp only [wpS_skip, wpS_break, wpS_cont, wpS_retV, wpS_throw, wpS_seq, wpS_if, wpS_trunc, yS_let, yS_inc, kgK_i, kgK_r, kok_nil, kok_i0, kok_is, kok_r0, kok_rs, kok_n0, kok_ns, xS_put, xS_putOp, xS_ast0, xS_ast1, xS_astOp, wpS_E, wpS_call, wpS_callS, wpS_ret, kThen_N, kThen_B, kThen_C, kThen_R, kThen_T, kNext_N, kNext_C, kNext_B, kNext_R, wpE_K, wpE_KL, xE_I, xE_R, wpE_J, xE_bin, wpE_ladd, wpE_i2l, xE_get, xE_ald0, xE_ald1, wpE_if, xE_max, xE_min, wpE_len, wpA_nil, wpA_snoc, xE_call, xE_callS, xC_C, xC_L, xC_Z, wpC_and, wpC_or, wpC_not, wpC_if, kcmp_0, kcmp_1, kcmp_2, kcmp_3, kcmp_4, kcmp_5, rR_inj, kgO_some, kgO_add, kgO_sub, kgO_mul, kgO_div, kgO_rem, kgO_and, kvI_inl, kvJ_inl, kgI_0, kgI_s, kgR_0, kgR_s, kst_nil, kst_0, kst_s, kNLl_nil, kNLl_i, kNLl_r, kNLl_n, ktag_i, ktag_r, List.length_cons, List.length_nil, List.take_succ_cons, List.take_zero, List.take_nil, List.nil_append, List.cons_append, decide_eq_true_eq, Bool.not_eq_true, Bool.not_eq_true', decide_eq_false_iff_not, ne_eq, Decidable.not_not, true_and, and_true, Nat.reduceAdd, Nat.reduceLeDiff, Nat.reduceEqDiff, Nat.le_refl, not_true_eq_false, not_false_eq_true, reduceIte, eq_self, Int.reduceNeg, Int.reduceEq, Int.reduceLT, Int.reduceLE, Nat.zero_le, Nat.one_ne_zero, decide_true, decide_false, Bool.false_eq_true, if_true, if_false, true_and, and_true, not_true_eq_false, not_false_eq_true]
      rw [hQ2]
      refine kThen_N.mpr ?_
      obtain ⟨O, hO⟩ : ∃ O : Nat → Prop, O = fun y => th c li y ∧ lo y = 0 := ⟨_, rfl⟩
      rw [← hO] at k2 k3 k4 ⊢
      have hback : rch (bwE O fs sn) a b := k2.flip
      obtain ⟨len, hlen⟩ := hback.ds
      have hOn : ∀ v, rch (bwE O fs sn) a v → v < n := by
        intro v hr
        refine rch.closed (S := fun v => v < n) ?_ ha hr
        rintro p q - ⟨y, hy, rfl, rfl⟩
        rw [hO] at hy
        exact (th_lt hG hy.1).2.2.1
      have hln := ds_lt hlen hOn
      refine wpS_seq' (fun Q105 hQ105 => ?_)
      simp only [wpS_skip, wpS_break, wpS_cont, wpS_retV, wpS_throw, wpS_seq, wpS_if, wpS_trunc, yS_let, yS_inc, kgK_i, kgK_r, kok_nil, kok_i0, kok_is, kok_r0, kok_rs, kok_n0, kok_ns, xS_put, xS_putOp, xS_ast0, xS_ast1, xS_astOp, wpS_E, wpS_call, wpS_callS, wpS_ret, kThen_N, kThen_B, kThen_C, kThen_R, kThen_T, kNext_N, kNext_C, kNext_B, kNext_R, wpE_K, wpE_KL, xE_I, xE_R, wpE_J, xE_bin, wpE_ladd, wpE_i2l, xE_get, xE_ald0, xE_ald1, wpE_if, xE_max, xE_min, wpE_len, wpA_nil, wpA_snoc, xE_call, xE_callS, xC_C, xC_L, xC_Z, wpC_and, wpC_or, wpC_not, wpC_if, kcmp_0, kcmp_1, kcmp_2, kcmp_3, kcmp_4, kcmp_5, rR_inj, kgO_some, kgO_add, kgO_sub, kgO_mul, kgO_div, kgO_rem, kgO_and, kvI_inl, kvJ_inl, kgI_0, kgI_s, kgR_0, kgR_s, kst_nil, kst_0, kst_s, kNLl_nil, kNLl_i, kNLl_r, kNLl_n, ktag_i, ktag_r, List.length_cons, List.length_nil, List.take_succ_cons, List.take_zero, List.take_nil, List.nil_append, List.cons_append, decide_eq_true_eq, Bool.not_eq_true, Bool.not_eq_true', decide_eq_false_iff_not, ne_eq, Decidable.not_not, true_and, and_true, Nat.reduceAdd, Nat.reduceLeDiff, Nat.reduceEqDiff, Nat.le_refl, not_true_eq_false, not_false_eq_true, reduceIte, eq_self, Int.reduceNeg, Int.reduceEq, Int.reduceLT, Int.reduceLE, Nat.zero_le, Nat.one_ne_zero]
      repeat refine And.intro (by omega) ?_
      rw [hQ105]
      clear hQ105 Q105
      refine kThen_N.mpr ?_
      refine wpS_seq' (fun Q106 hQ106 => ?_)
      simp only [wpS_skip, wpS_break, wpS_cont, wpS_retV, wpS_throw, wpS_seq, wpS_if, wpS_trunc, yS_let, yS_inc, kgK_i, kgK_r, kok_nil, kok_i0, kok_is, kok_r0, kok_rs, kok_n0, kok_ns, xS_put, xS_putOp, xS_ast0, xS_ast1, xS_astOp, wpS_E, wpS_call, wpS_callS, wpS_ret, kThen_N, kThen_B, kThen_C, kThen_R, kThen_T, kNext_N, kNext_C, kNext_B, kNext_R, wpE_K, wpE_KL, xE_I, xE_R, wpE_J, xE_bin, wpE_ladd, wpE_i2l, xE_get, xE_ald0, xE_ald1, wpE_if, xE_max, xE_min, wpE_len, wpA_nil, wpA_snoc, xE_call, xE_callS, xC_C, xC_L, xC_Z, wpC_and, wpC_or, wpC_not, wpC_if, kcmp_0, kcmp_1, kcmp_2, kcmp_3, kcmp_4, kcmp_5, rR_inj, kgO_some, kgO_add, kgO_sub, kgO_mul, kgO_div, kgO_rem, kgO_and, kvI_inl, kvJ_inl, kgI_0, kgI_s, kgR_0, kgR_s, kst_nil, kst_0, kst_s, kNLl_nil, kNLl_i, kNLl_r, kNLl_n, ktag_i, ktag_r, List.length_cons, List.length_nil, List.take_succ_cons, List.take_zero, List.take_nil, List.nil_append, List.cons_append, decide_eq_true_eq, Bool.not_eq_true, Bool.not_eq_true', decide_eq_false_iff_not, ne_eq, Decidable.not_not, true_and, and_true, Nat.reduceAdd, Nat.reduceLeDiff, Nat.reduceEqDiff, Nat.le_refl, not_true_eq_false, not_false_eq_true, reduceIte, eq_self, Int.reduceNeg, Int.reduceEq, Int.reduceLT, Int.reduceLE, Nat.zero_le, Nat.one_ne_zero, ev_row]
      repeat refine And.intro (by omega) ?_
      rw [hQ106]
      clear hQ106 Q106
      refine kThen_N.mpr ?_
      obtain ⟨s2, hs2⟩ : ∃ s2, s2 = kup s1 7 9 0 := ⟨_, rfl⟩
      rw [← hs2]
      have m1 : ∀ o k, (o ≠ 7 ∨ k ≠ 9) → s2 o k = s1 o k := by intro o k h; rw [hs2]; unfold kup; rw [if_neg (fun q => h.elim (fun w => w q.1) (fun w => w q.2))]
      have m2 : s2 7 9 = 0 := by rw [hs2]; simp [kup]
      have e37 : s2 37 b = len := by rw [m1 _ _ (by omega)]; exact k3 b len hlen
      refine wpS_seq' (fun Q3 hQ3 => ?_)
      unfold l_Row_tellRing_1
      refine wpS_fortG (fun m P s => ∃ (v : Nat) (rg vs : Nat → Nat), P = [some (.inr (.inl 7)), some (.inl (a : Int)), some (.inl (b : Int)), some (.inl (v : Int))] ∧ (∀ o k, o ≠ 40 → (o ≠ 7 ∨ k ≠ 9) → s o k = s1 o k) ∧ rgC s m rg ∧ ds (bwE O fs sn) a v (len - m) ∧ vs 0 = b ∧ vs m = v ∧ ∀ k, k < m → isNx O fs sn a (vs k) (rg k) ∧ vs (k + 1) = sn (rg k)) (fun m => (len : Int) - m) len rfl rfl ?_ ?_ ?_ ?_
      · simp only [wpS_skip, wpS_break, wpS_cont, wpS_retV, wpS_throw, wpS_seq, wpS_if, wpS_trunc, yS_let, yS_inc, kgK_i, kgK_r, kok_nil, kok_i0, kok_is, kok_r0, kok_rs, kok_n0, kok_ns, xS_put, xS_putOp, xS_ast0, xS_ast1, xS_astOp, wpS_E, wpS_call, wpS_callS, wpS_ret, kThen_N, kThen_B, kThen_C, kThen_R, kThen_T, kNext_N, kNext_C, kNext_B, kNext_R, wpE_K, wpE_KL, xE_I, xE_R, wpE_J, xE_bin, wpE_ladd, wpE_i2l, xE_get, xE_ald0, xE_ald1, wpE_if, xE_max, xE_min, wpE_len, wpA_nil, wpA_snoc, xE_call, xE_callS, xC_C, xC_L, xC_Z, wpC_and, wpC_or, wpC_not, wpC_if, kcmp_0, kcmp_1, kcmp_2, kcmp_3, kcmp_4, kcmp_5, rR_inj, kgO_some, kgO_add, kgO_sub, kgO_mul, kgO_div, kgO_rem, kgO_and, kvI_inl, kvJ_inl, kgI_0, kgI_s, kgR_0, kgR_s, kst_nil, kst_0, kst_s, kNLl_nil, kNLl_i, kNLl_r, kNLl_n, ktag_i, ktag_r, List.length_cons, List.length_nil, List.take_succ_cons, List.take_zero, List.take_nil, List.nil_append, List.cons_append, decide_eq_true_eq, Bool.not_eq_true, Bool.not_eq_true', decide_eq_false_iff_not, ne_eq, Decidable.not_not, true_and, and_true, Nat.reduceAdd, Nat.reduceLeDiff, Nat.reduceEqDiff, Nat.le_refl, not_true_eq_false, not_false_eq_true, reduceIte, eq_self, Int.reduceNeg, Int.reduceEq, Int.reduceLT, Int.reduceLE, Nat.zero_le, Nat.one_ne_zero, ev_row, ev_row_arr, Int.toNat_natCast, e37]
        refine ⟨by omega, ?_⟩
        simp
      · exact ⟨b, fun _ => 0, fun _ => b, rfl, fun o k o1 o2 => m1 o k o2, ⟨m2, fun k hk => by omega⟩, hlen, rfl, rfl, fun k hk => by omega⟩
      · rintro m P s ⟨v, rg, vs, rfl, -⟩; exact ⟨rfl, rfl⟩
      · rintro m P s hm ⟨v, rg, vs, rfl, S1, ⟨S2, S3⟩, S4, S5, S6, S7⟩
        rcases Nat.lt_or_ge m len with hlt | hlt
        · have c2 : (0 : Int) < (len : Int) - m := by omega
          refine wpC_gen (fun Q4 hQ4 => ?_)
          simp only [wpS_skip, wpS_break, wpS_cont, wpS_retV, wpS_throw, wpS_seq, wpS_if, wpS_trunc, yS_let, yS_inc, kgK_i, kgK_r, kok_nil, kok_i0, kok_is, kok_r0, kok_rs, kok_n0, kok_ns, xS_put, xS_putOp, xS_ast0, xS_ast1, xS_astOp, wpS_E, wpS_call, wpS_callS, wpS_ret, kThen_N, kThen_B, kThen_C, kThen_R, kThen_T, kNext_N, kNext_C, kNext_B, kNext_R, wpE_K, wpE_KL, xE_I, xE_R, wpE_J, xE_bin, wpE_ladd, wpE_i2l, xE_get, xE_ald0, xE_ald1, wpE_if, xE_max, xE_min, wpE_len, wpA_nil, wpA_snoc, xE_call, xE_callS, xC_C, xC_L, xC_Z, wpC_and, wpC_or, wpC_not, wpC_if, kcmp_0, kcmp_1, kcmp_2, kcmp_3, kcmp_4, kcmp_5, rR_inj, kgO_some, kgO_add, kgO_sub, kgO_mul, kgO_div, kgO_rem, kgO_and, kvI_inl, kvJ_inl, kgI_0, kgI_s, kgR_0, kgR_s, kst_nil, kst_0, kst_s, kNLl_nil, kNLl_i, kNLl_r, kNLl_n, ktag_i, ktag_r, List.length_cons, List.length_nil, List.take_succ_cons, List.take_zero, List.take_nil, List.nil_append, List.cons_append, decide_eq_true_eq, Bool.not_eq_true, Bool.not_eq_true', decide_eq_false_iff_not, ne_eq, Decidable.not_not, true_and, and_true, Nat.reduceAdd, Nat.reduceLeDiff, Nat.reduceEqDiff, Nat.le_refl, not_true_eq_false, not_false_eq_true, reduceIte, eq_self, Int.reduceNeg, Int.reduceEq, Int.reduceLT, Int.reduceLE, Nat.zero_le, Nat.one_ne_zero, c2, decide_true, decide_false, Bool.false_eq_true, if_true, if_false, true_and, and_true, not_true_eq_false, not_false_eq_true]
          rw [hQ4]
          refine ⟨rfl, Or.inl ⟨by simp, hlt, by omega, by omega, by omega, ?_⟩⟩
          obtain ⟨d, hd⟩ : ∃ d, len - m = d + 1 := ⟨len - m - 1, by omega⟩
          rw [hd] at S4
          have hdz : (len : Int) - m - 1 = (d : Int) := by omega
          have hvn := hOn v S4.rch
          rw [wpS_trunc]
          refine wpS_seq' (fun Q107 hQ107 => ?_)
          simp only [wpS_skip, wpS_break, wpS_cont, wpS_retV, wpS_throw, wpS_seq, wpS_if, wpS_trunc, yS_let, yS_inc, kgK_i, kgK_r, kok_nil, kok_i0, kok_is, kok_r0, kok_rs, kok_n0, kok_ns, xS_put, xS_putOp, xS_ast0, xS_ast1, xS_astOp, wpS_E, wpS_call, wpS_callS, wpS_ret, kThen_N, kThen_B, kThen_C, kThen_R, kThen_T, kNext_N, kNext_C, kNext_B, kNext_R, wpE_K, wpE_KL, xE_I, xE_R, wpE_J, xE_bin, wpE_ladd, wpE_i2l, xE_get, xE_ald0, xE_ald1, wpE_if, xE_max, xE_min, wpE_len, wpA_nil, wpA_snoc, xE_call, xE_callS, xC_C, xC_L, xC_Z, wpC_and, wpC_or, wpC_not, wpC_if, kcmp_0, kcmp_1, kcmp_2, kcmp_3, kcmp_4, kcmp_5, rR_inj, kgO_some, kgO_add, kgO_sub, kgO_mul, kgO_div, kgO_rem, kgO_and, kvI_inl, kvJ_inl, kgI_0, kgI_s, kgR_0, kgR_s, kst_nil, kst_0, kst_s, kNLl_nil, kNLl_i, kNLl_r, kNLl_n, ktag_i, ktag_r, List.length_cons, List.length_nil, List.take_succ_cons, List.take_zero, List.take_nil, List.nil_append, List.cons_append, decide_eq_true_eq, Bool.not_eq_true, Bool.not_eq_true', decide_eq_false_iff_not, ne_eq, Decidable.not_not, true_and, and_true, Nat.reduceAdd, Nat.reduceLeDiff, Nat.reduceEqDiff, Nat.le_refl, not_true_eq_false, not_false_eq_true, reduceIte, eq_self, Int.reduceNeg, Int.reduceEq, Int.reduceLT, Int.reduceLE, Nat.zero_le, Nat.one_ne_zero, ev_row, hdz]
          refine ⟨by omega, ?_⟩
          have hWs := hW.agree (s' := s) (fun o k ho => by unfold isWb at ho; rw [S1 o k (by omega) (by omega), k1 o k (by omega) (by omega)])
          have hlos : ∀ x, s 33 x = lo x := fun x => by rw [S1 _ _ (by decide) (by omega), k1 _ _ (by decide) (by decide)]; exact hlo x
          have hBs : bhd s O fs sn a := ⟨fun v d hd => by rw [S1 _ _ (by decide) (by omega)]; exact k3 v d hd, fun v hv hr => by rw [S1 _ _ (by decide) (by omega)]; exact k4 v hv hr⟩
          rw [hO] at hBs S4
          refine (nextOnRing_ok hG hWs hlos hBs hvn S4).mono ?_
          rintro r s' ⟨hs, x, rfl, hx⟩
          subst s'
          rw [← hO] at hx S4
          rw [kgO_some]
          simp only [wpS_skip, wpS_break, wpS_cont, wpS_retV, wpS_throw, wpS_seq, wpS_if, wpS_trunc, yS_let, yS_inc, kgK_i, kgK_r, kok_nil, kok_i0, kok_is, kok_r0, kok_rs, kok_n0, kok_ns, xS_put, xS_putOp, xS_ast0, xS_ast1, xS_astOp, wpS_E, wpS_call, wpS_callS, wpS_ret, kThen_N, kThen_B, kThen_C, kThen_R, kThen_T, kNext_N, kNext_C, kNext_B, kNext_R, wpE_K, wpE_KL, xE_I, xE_R, wpE_J, xE_bin, wpE_ladd, wpE_i2l, xE_get, xE_ald0, xE_ald1, wpE_if, xE_max, xE_min, wpE_len, wpA_nil, wpA_snoc, xE_call, xE_callS, xC_C, xC_L, xC_Z, wpC_and, wpC_or, wpC_not, wpC_if, kcmp_0, kcmp_1, kcmp_2, kcmp_3, kcmp_4, kcmp_5, rR_inj, kgO_some, kgO_add, kgO_sub, kgO_mul, kgO_div, kgO_rem, kgO_and, kvI_inl, kvJ_inl, kgI_0, kgI_s, kgR_0, kgR_s, kst_nil, kst_0, kst_s, kNLl_nil, kNLl_i, kNLl_r, kNLl_n, ktag_i, ktag_r, List.length_cons, List.length_nil, List.take_succ_cons, List.take_zero, List.take_nil, List.nil_append, List.cons_append, decide_eq_true_eq, Bool.not_eq_true, Bool.not_eq_true', decide_eq_false_iff_not, ne_eq, Decidable.not_not, true_and, and_true, Nat.reduceAdd, Nat.reduceLeDiff, Nat.reduceEqDiff, Nat.le_refl, not_true_eq_false, not_false_eq_true, reduceIte, eq_self, Int.reduceNeg, Int.reduceEq, Int.reduceLT, Int.reduceLE, Nat.zero_le, Nat.one_ne_zero]
          rw [hQ107]
          clear hQ107
          refine kThen_N.mpr ?_
          have hxt : th c li x := by have := hx.1.1; rw [hO] at this; exact this.1
          obtain ⟨x1, x2, x3, x4⟩ := th_lt hG hxt
          have hxne : ¬ (x : Int) = -1 := by omega
          refine wpS_seq' (fun Q108 hQ108 => ?_)
          simp only [wpS_skip, wpS_break, wpS_cont, wpS_retV, wpS_throw, wpS_seq, wpS_if, wpS_trunc, yS_let, yS_inc, kgK_i, kgK_r, kok_nil, kok_i0, kok_is, kok_r0, kok_rs, kok_n0, kok_ns, xS_put, xS_putOp, xS_ast0, xS_ast1, xS_astOp, wpS_E, wpS_call, wpS_callS, wpS_ret, kThen_N, kThen_B, kThen_C, kThen_R, kThen_T, kNext_N, kNext_C, kNext_B, kNext_R, wpE_K, wpE_KL, xE_I, xE_R, wpE_J, xE_bin, wpE_ladd, wpE_i2l, xE_get, xE_ald0, xE_ald1, wpE_if, xE_max, xE_min, wpE_len, wpA_nil, wpA_snoc, xE_call, xE_callS, xC_C, xC_L, xC_Z, wpC_and, wpC_or, wpC_not, wpC_if, kcmp_0, kcmp_1, kcmp_2, kcmp_3, kcmp_4, kcmp_5, rR_inj, kgO_some, kgO_add, kgO_sub, kgO_mul, kgO_div, kgO_rem, kgO_and, kvI_inl, kvJ_inl, kgI_0, kgI_s, kgR_0, kgR_s, kst_nil, kst_0, kst_s, kNLl_nil, kNLl_i, kNLl_r, kNLl_n, ktag_i, ktag_r, List.length_cons, List.length_nil, List.take_succ_cons, List.take_zero, List.take_nil, List.nil_append, List.cons_append, decide_eq_true_eq, Bool.not_eq_true, Bool.not_eq_true', decide_eq_false_iff_not, ne_eq, Decidable.not_not, true_and, and_true, Nat.reduceAdd, Nat.reduceLeDiff, Nat.reduceEqDiff, Nat.le_refl, not_true_eq_false, not_false_eq_true, reduceIte, eq_self, Int.reduceNeg, Int.reduceEq, Int.reduceLT, Int.reduceLE, Nat.zero_le, Nat.one_ne_zero, hxne, decide_true, decide_false, Bool.false_eq_true, if_true, if_false, true_and, and_true, not_true_eq_false, not_false_eq_true]
          repeat refine And.intro (by omega) ?_
          rw [hQ108]
          clear hQ108 Q108
          refine kThen_N.mpr ?_
          refine wpS_seq' (fun Q109 hQ109 => ?_)
          simp only [wpS_skip, wpS_break, wpS_cont, wpS_retV, wpS_throw, wpS_seq, wpS_if, wpS_trunc, yS_let, yS_inc, kgK_i, kgK_r, kok_nil, kok_i0, kok_is, kok_r0, kok_rs, kok_n0, kok_ns, xS_put, xS_putOp, xS_ast0, xS_ast1, xS_astOp, wpS_E, wpS_call, wpS_callS, wpS_ret, kThen_N, kThen_B, kThen_C, kThen_R, kThen_T, kNext_N, kNext_C, kNext_B, kNext_R, wpE_K, wpE_KL, xE_I, xE_R, wpE_J, xE_bin, wpE_ladd, wpE_i2l, xE_get, xE_ald0, xE_ald1, wpE_if, xE_max, xE_min, wpE_len, wpA_nil, wpA_snoc, xE_call, xE_callS, xC_C, xC_L, xC_Z, wpC_and, wpC_or, wpC_not, wpC_if, kcmp_0, kcmp_1, kcmp_2, kcmp_3, kcmp_4, kcmp_5, rR_inj, kgO_some, kgO_add, kgO_sub, kgO_mul, kgO_div, kgO_rem, kgO_and, kvI_inl, kvJ_inl, kgI_0, kgI_s, kgR_0, kgR_s, kst_nil, kst_0, kst_s, kNLl_nil, kNLl_i, kNLl_r, kNLl_n, ktag_i, ktag_r, List.length_cons, List.length_nil, List.take_succ_cons, List.take_zero, List.take_nil, List.nil_append, List.cons_append, decide_eq_true_eq, Bool.not_eq_true, Bool.not_eq_true', decide_eq_false_iff_not, ne_eq, Decidable.not_not, true_and, and_true, Nat.reduceAdd, Nat.reduceLeDiff, Nat.reduceEqDiff, Nat.le_refl, not_true_eq_false, not_false_eq_true, reduceIte, eq_self, Int.reduceNeg, Int.reduceEq, Int.reduceLT, Int.reduceLE, Nat.zero_le, Nat.one_ne_zero, ev_row, ev_row_arr, S2, Int.toNat_natCast]
          repeat refine And.intro (by omega) ?_
          rw [hQ109]
          clear hQ109 Q109
          refine kThen_N.mpr ?_
          have g79 : kup s 40 m (x : Int) 7 9 = m := by rw [kup_ne (by decide)]; exact S2
          refine wpS_seq' (fun Q110 hQ110 => ?_)
          simp only [wpS_skip, wpS_break, wpS_cont, wpS_retV, wpS_throw, wpS_seq, wpS_if, wpS_trunc, yS_let, yS_inc, kgK_i, kgK_r, kok_nil, kok_i0, kok_is, kok_r0, kok_rs, kok_n0, kok_ns, xS_put, xS_putOp, xS_ast0, xS_ast1, xS_astOp, wpS_E, wpS_call, wpS_callS, wpS_ret, kThen_N, kThen_B, kThen_C, kThen_R, kThen_T, kNext_N, kNext_C, kNext_B, kNext_R, wpE_K, wpE_KL, xE_I, xE_R, wpE_J, xE_bin, wpE_ladd, wpE_i2l, xE_get, xE_ald0, xE_ald1, wpE_if, xE_max, xE_min, wpE_len, wpA_nil, wpA_snoc, xE_call, xE_callS, xC_C, xC_L, xC_Z, wpC_and, wpC_or, wpC_not, wpC_if, kcmp_0, kcmp_1, kcmp_2, kcmp_3, kcmp_4, kcmp_5, rR_inj, kgO_some, kgO_add, kgO_sub, kgO_mul, kgO_div, kgO_rem, kgO_and, kvI_inl, kvJ_inl, kgI_0, kgI_s, kgR_0, kgR_s, kst_nil, kst_0, kst_s, kNLl_nil, kNLl_i, kNLl_r, kNLl_n, ktag_i, ktag_r, List.length_cons, List.length_nil, List.take_succ_cons, List.take_zero, List.take_nil, List.nil_append, List.cons_append, decide_eq_true_eq, Bool.not_eq_true, Bool.not_eq_true', decide_eq_false_iff_not, ne_eq, Decidable.not_not, true_and, and_true, Nat.reduceAdd, Nat.reduceLeDiff, Nat.reduceEqDiff, Nat.le_refl, not_true_eq_false, not_false_eq_true, reduceIte, eq_self, Int.reduceNeg, Int.reduceEq, Int.reduceLT, Int.reduceLE, Nat.zero_le, Nat.one_ne_zero, ev_row, g79]
          repeat refine And.intro (by omega) ?_
          rw [hQ110]
          clear hQ110 Q110
          refine kThen_N.mpr ?_
          obtain ⟨s5, hs5⟩ : ∃ s5, s5 = kup (kup s 40 m (x : Int)) 7 9 ((m : Int) + 1) := ⟨_, rfl⟩
          rw [← hs5]
          have n1 : ∀ o k, o ≠ 40 → (o ≠ 7 ∨ k ≠ 9) → s5 o k = s o k := by
            intro o k o1 o2
            rw [hs5]
            unfold kup
            rw [if_neg (fun q => o2.elim (fun w => w q.1) (fun w => w q.2)), if_neg (fun q => o1 q.1)]
          have n2 : s5 7 9 = (m : Int) + 1 := by rw [hs5]; simp [kup]
          have n3 : ∀ k, s5 40 k = if k = m then (x : Int) else s 40 k := by intro k; rw [hs5]; simp [kup]
          have e16 : s5 16 x = sn x := by rw [n1 _ _ (by decide) (by omega), S1 _ _ (by decide) (by omega), k1 _ _ (by decide) (by decide)]; exact w5 x
          refine wpS_gen (fun Q111 hQ111 => ?_)
          simp only [wpS_skip, wpS_break, wpS_cont, wpS_retV, wpS_throw, wpS_seq, wpS_if, wpS_trunc, yS_let, yS_inc, kgK_i, kgK_r, kok_nil, kok_i0, kok_is, kok_r0, kok_rs, kok_n0, kok_ns, xS_put, xS_putOp, xS_ast0, xS_ast1, xS_astOp, wpS_E, wpS_call, wpS_callS, wpS_ret, kThen_N, kThen_B, kThen_C, kThen_R, kThen_T, kNext_N, kNext_C, kNext_B, kNext_R, wpE_K, wpE_KL, xE_I, xE_R, wpE_J, xE_bin, wpE_ladd, wpE_i2l, xE_get, xE_ald0, xE_ald1, wpE_if, xE_max, xE_min, wpE_len, wpA_nil, wpA_snoc, xE_call, xE_callS, xC_C, xC_L, xC_Z, wpC_and, wpC_or, wpC_not, wpC_if, kcmp_0, kcmp_1, kcmp_2, kcmp_3, kcmp_4, kcmp_5, rR_inj, kgO_some, kgO_add, kgO_sub, kgO_mul, kgO_div, kgO_rem, kgO_and, kvI_inl, kvJ_inl, kgI_0, kgI_s, kgR_0, kgR_s, kst_nil, kst_0, kst_s, kNLl_nil, kNLl_i, kNLl_r, kNLl_n, ktag_i, ktag_r, List.length_cons, List.length_nil, List.take_succ_cons, List.take_zero, List.take_nil, List.nil_append, List.cons_append, decide_eq_true_eq, Bool.not_eq_true, Bool.not_eq_true', decide_eq_false_iff_not, ne_eq, Decidable.not_not, true_and, and_true, Nat.reduceAdd, Nat.reduceLeDiff, Nat.reduceEqDiff, Nat.le_refl, not_true_eq_false, not_false_eq_true, reduceIte, eq_self, Int.reduceNeg, Int.reduceEq, Int.reduceLT, Int.reduceLE, Nat.zero_le, Nat.one_ne_zero, ev_row, ev_web, ev_web_arr, Int.toNat_natCast, e16]
          repeat refine And.intro (by omega) ?_
          rw [hQ111]
          clear hQ111 Q111
          obtain ⟨d', hd1, hd2⟩ := hx.1.2.2
          have ed : d' = d := by have := hd2.uniq S4; omega
          refine kStep_N rfl ⟨sn x, fun k => if k = m then x else rg k, fun k => if k = m + 1 then sn x else vs k, rfl, fun o k o1 o2 => by rw [n1 o k o1 o2]; exact S1 o k o1 o2, ⟨by rw [n2]; rfl, fun k hk => ?_⟩, ?_, ?_, by simp, fun k hk => ?_⟩
          · rw [n3]
            dsimp only
            split
            · rfl
            · exact S3 k (by omega)
          · rw [show len - (m + 1) = d by omega, ← ed]; exact hd1
          · dsimp only; rw [if_neg (by omega)]; exact S5
          · dsimp only
            by_cases e : k = m
            · subst e
              rw [if_pos rfl, if_neg (by omega), if_pos rfl, S6]
              exact ⟨hx, rfl⟩
            · rw [if_neg e, if_neg (by omega), if_neg (by omega)]
              exact S7 k (by omega)
        · have em : m = len := by omega
          subst em
          have c2 : ¬ (0 : Int) < (m : Int) - m := by omega
          refine wpC_gen (fun Q4 hQ4 => ?_)
          simp only [wpS_skip, wpS_break, wpS_cont, wpS_retV, wpS_throw, wpS_seq, wpS_if, wpS_trunc, yS_let, yS_inc, kgK_i, kgK_r, kok_nil, kok_i0, kok_is, kok_r0, kok_rs, kok_n0, kok_ns, xS_put, xS_putOp, xS_ast0, xS_ast1, xS_astOp, wpS_E, wpS_call, wpS_callS, wpS_ret, kThen_N, kThen_B, kThen_C, kThen_R, kThen_T, kNext_N, kNext_C, kNext_B, kNext_R, wpE_K, wpE_KL, xE_I, xE_R, wpE_J, xE_bin, wpE_ladd, wpE_i2l, xE_get, xE_ald0, xE_ald1, wpE_if, xE_max, xE_min, wpE_len, wpA_nil, wpA_snoc, xE_call, xE_callS, xC_C, xC_L, xC_Z, wpC_and, wpC_or, wpC_not, wpC_if, kcmp_0, kcmp_1, kcmp_2, kcmp_3, kcmp_4, kcmp_5, rR_inj, kgO_some, kgO_add, kgO_sub, kgO_mul, kgO_div, kgO_rem, kgO_and, kvI_inl, kvJ_inl, kgI_0, kgI_s, kgR_0, kgR_s, kst_nil, kst_0, kst_s, kNLl_nil, kNLl_i, kNLl_r, kNLl_n, ktag_i, ktag_r, List.length_cons, List.length_nil, List.take_succ_cons, List.take_zero, List.take_nil, List.nil_append, List.cons_append, decide_eq_true_eq, Bool.not_eq_true, Bool.not_eq_true', decide_eq_false_iff_not, ne_eq, Decidable.not_not, true_and, and_true, Nat.reduceAdd, Nat.reduceLeDiff, Nat.reduceEqDiff, Nat.le_refl, not_true_eq_false, not_false_eq_true, reduceIte, eq_self, Int.reduceNeg, Int.reduceEq, Int.reduceLT, Int.reduceLE, Nat.zero_le, Nat.one_ne_zero, c2, decide_true, decide_false, Bool.false_eq_true, if_true, if_false, true_and, and_true, not_true_eq_false, not_false_eq_true]
          rw [hQ4]
          refine ⟨rfl, Or.inr ⟨by simp, ?_⟩⟩
          rw [hQ3]
          refine kThen_N.mpr ?_
          refine wpS_gen (fun Q112 hQ112 => ?_)
          simp only [wpS_skip, wpS_break, wpS_cont, wpS_retV, wpS_throw, wpS_seq, wpS_if, wpS_trunc, yS_let, yS_inc, kgK_i, kgK_r, kok_nil, kok_i0, kok_is, kok_r0, kok_rs, kok_n0, kok_ns, xS_put, xS_putOp, xS_ast0, xS_ast1, xS_astOp, wpS_E, wpS_call, wpS_callS, wpS_ret, kThen_N, kThen_B, kThen_C, kThen_R, kThen_T, kNext_N, kNext_C, kNext_B, kNext_R, wpE_K, wpE_KL, xE_I, xE_R, wpE_J, xE_bin, wpE_ladd, wpE_i2l, xE_get, xE_ald0, xE_ald1, wpE_if, xE_max, xE_min, wpE_len, wpA_nil, wpA_snoc, xE_call, xE_callS, xC_C, xC_L, xC_Z, wpC_and, wpC_or, wpC_not, wpC_if, kcmp_0, kcmp_1, kcmp_2, kcmp_3, kcmp_4, kcmp_5, rR_inj, kgO_some, kgO_add, kgO_sub, kgO_mul, kgO_div, kgO_rem, kgO_and, kvI_inl, kvJ_inl, kgI_0, kgI_s, kgR_0, kgR_s, kst_nil, kst_0, kst_s, kNLl_nil, kNLl_i, kNLl_r, kNLl_n, ktag_i, ktag_r, List.length_cons, List.length_nil, List.take_succ_cons, List.take_zero, List.take_nil, List.nil_append, List.cons_append, decide_eq_true_eq, Bool.not_eq_true, Bool.not_eq_true', decide_eq_false_iff_not, ne_eq, Decidable.not_not, true_and, and_true, Nat.reduceAdd, Nat.reduceLeDiff, Nat.reduceEqDiff, Nat.le_refl, not_true_eq_false, not_false_eq_true, reduceIte, eq_self, Int.reduceNeg, Int.reduceEq, Int.reduceLT, Int.reduceLE, Nat.zero_le, Nat.one_ne_zero]
          repeat refine And.intro (by omega) ?_
          rw [hQ112]
          clear hQ112 Q112
          refine ⟨_, rfl, rfl, fun o k o1 o2 o3 o4 => by rw [S1 o k o3 o4, k1 o k o1 o2], Or.inr (Or.inr ⟨hab, k2, rfl, m, rg, ⟨hlen, vs, S5, S7⟩, S2, S3⟩)⟩
    · rw [kgO_some]
      simp only [wpS_skip, wpS_break, wpS_cont, wpS_retV, wpS_throw, wpS_seq, wpS_if, wpS_trunc, yS_let, yS_inc, kgK_i, kgK_r, kok_nil, kok_i0, kok_is, kok_r0, kok_rs, kok_n0, kok_ns, xS_put, xS_putOp, xS_ast0, xS_ast1, xS_astOp, wpS_E, wpS_call, wpS_callS, wpS_ret, kThen_N, kThen_B, kThen_C, kThen_R, kThen_T, kNext_N, kNext_C, kNext_B, kNext_R, wpE_K, wpE_KL, xE_I, xE_R, wpE_J, xE_bin, wpE_ladd, wpE_i2l, xE_get, xE_ald0, xE_ald1, wpE_if, xE_max, xE_min, wpE_len, wpA_nil, wpA_snoc, xE_call, xE_callS, xC_C, xC_L, xC_Z, wpC_and, wpC_or, wpC_not, wpC_if, kcmp_0, kcmp_1, kcmp_2, kcmp_3, kcmp_4, kcmp_5, rR_inj, kgO_some, kgO_add, kgO_sub, kgO_mul, kgO_div, kgO_rem, kgO_and, kvI_inl, kvJ_inl, kgI_0, kgI_s, kgR_0, kgR_s, kst_nil, kst_0, kst_s, kNLl_nil, kNLl_i, kNLl_r, kNLl_n, ktag_i, ktag_r, List.length_cons, List.length_nil, List.take_succ_cons, List.take_zero, List.take_nil, List.nil_append, List.cons_append, decide_eq_true_eq, Bool.not_eq_true, Bool.not_eq_true', decide_eq_false_iff_not, ne_eq, Decidable.not_not, true_and, and_true, Nat.reduceAdd, Nat.reduceLeDiff, Nat.reduceEqDiff, Nat.le_refl, not_true_eq_false, not_false_eq_true, reduceIte, eq_self, Int.reduceNeg, Int.reduceEq, Int.reduceLT, Int.reduceLE, Nat.zero_le, Nat.one_ne_zero, decide_true, decide_false, Bool.false_eq_true, if_true, if_false, true_and, and_true, not_true_eq_false, not_false_eq_true]
      rw [hQ2]
      refine kThen_R.mpr ⟨_, rfl, rfl, fun o k o1 o2 _ _ => k1 o k o1 o2, Or.inr (Or.inl ⟨hab, k2, rfl, k1 _ _ (by decide) (by decide), fun k => k1 _ _ (by decide) (by decide)⟩)⟩
end RG
