/-! THE CLASS'S TREES as they are kept -/
def Ht (s : kS) (n : Nat) (rt dp : Nat → Nat) (pa up : Nat → Int) : Prop := ∀ v, v < n → s 25 v = (rt v : Int) ∧ s 26 v = pa v ∧ s 27 v = up v ∧ s 28 v = (dp v : Int)
/-- levels, tree arcs, and what hangs -/
def Trs (s : kS) (n c : Nat) (li fs sn lv : Nat → Nat) (tr : Nat → Int) (rt dp : Nat → Nat) (pa up : Nat → Int) : Prop :=
  Tb s lv tr ∧ (∀ x, tr x = 0 ∨ tr x = 1) ∧ Hd n (th c li) fs sn lv tr ∧ Ht s n rt dp pa up ∧ FO n (fun x => th c li x ∧ tr x ≠ 0) fs sn rt dp pa up
def isTr (o : Nat) : Prop := 23 ≤ o ∧ o ≤ 28
theorem Trs.agree {s s' : kS} {n c : Nat} {li fs sn lv : Nat → Nat} {tr : Nat → Int} {rt dp : Nat → Nat} {pa up : Nat → Int} (h : Trs s n c li fs sn lv tr rt dp pa up) (hs : ∀ o k, isTr o → s' o k = s o k) : Trs s' n c li fs sn lv tr rt dp pa up := by
  obtain ⟨h1, h2, h3, h4, h5⟩ := h
  refine ⟨⟨fun x => ?_, fun x => ?_⟩, h2, h3, fun v hv => ⟨?_, ?_, ?_, ?_⟩, h5⟩
  · rw [hs _ _ (by unfold isTr; omega)]; exact h1.1 x
  · rw [hs _ _ (by unfold isTr; omega)]; exact h1.2 x
  · rw [hs _ _ (by unfold isTr; omega)]; exact (h4 v hv).1
  · rw [hs _ _ (by unfold isTr; omega)]; exact (h4 v hv).2.1
  · rw [hs _ _ (by unfold isTr; omega)]; exact (h4 v hv).2.2.1
  · rw [hs _ _ (by unfold isTr; omega)]; exact (h4 v hv).2.2.2
theorem Trs.arc_rt {s : kS} {n c : Nat} {li fs sn lv : Nat → Nat} {tr : Nat → Int} {rt dp : Nat → Nat} {pa up : Nat → Int} (h : Trs s n c li fs sn lv tr rt dp pa up) {x : Nat} (hx : th c li x) : rt (fs x) = rt (sn x) := by
  obtain ⟨h1, h2, h3, h4, h5⟩ := h
  exact h5.1.rch_rt (sd_all (h3.2.1 x hx))
/-- parts by all arcs are those by tree arcs -/
theorem Trs.part_iff {s : kS} {n c : Nat} {li fs sn lv : Nat → Nat} {tr : Nat → Int} {rt dp : Nat → Nat} {pa up : Nat → Int} (h : Trs s n c li fs sn lv tr rt dp pa up) {u v : Nat} (hu : u < n) (hv : v < n) : rch (uE (th c li) fs sn) u v ↔ rt u = rt v := by
  constructor
  · intro hr
    refine rch.closed (S := fun w => rt u = rt w) ?_ rfl hr
    rintro a b ha ⟨x, hx, ⟨rfl, rfl⟩ | ⟨rfl, rfl⟩⟩
    · exact ha.trans (h.arc_rt hx)
    · exact ha.trans (h.arc_rt hx).symm
  · intro e
    exact ((h.2.2.2.2.1.rch_iff hu hv).mpr e).mono (fun _ _ => uE.mono (fun x hx => hx.1))
theorem LF.dp_lt {n : Nat} {A : Nat → Prop} {fs sn rt dp : Nat → Nat} {pa up : Nat → Int} (h : LF n A fs sn rt dp pa up) {v : Nat} (hv : v < n) : dp v < n := by
  have h1 := (cntP_row (P := fun _ => True) (n := n) (q := fun k => clb pa k v) (t := dp v + 1) (fun i hi => ⟨(h.climb hv (by omega)).1, trivial⟩) (fun i j hi hj e => by
    have a := (h.climb hv (show i ≤ dp v by omega)).2.1
    have b := (h.climb hv (show j ≤ dp v by omega)).2.1
    rw [e] at a
    omega)).1
  have := @cntP_bound (fun _ => True) n
  omega
theorem LF.congr {n : Nat} {A : Nat → Prop} {fs sn rt dp rt' dp' : Nat → Nat} {pa up pa' up' : Nat → Int} (h : LF n A fs sn rt dp pa up) (e : ∀ v, v < n → rt' v = rt v ∧ dp' v = dp v ∧ pa' v = pa v ∧ up' v = up v) : LF n A fs sn rt' dp' pa' up' := by
  refine ⟨fun v hv => ?_, fun x hx => ?_⟩
  · obtain ⟨e1, e2, e3, e4⟩ := e v hv
    obtain ⟨h1, h2, h3⟩ := h.1 v hv
    have hr : rt v < n := by omega
    rw [e1, e2, e3, e4]
    refine ⟨h1, by rw [(e _ hr).1]; exact h2, ?_⟩
    rcases h3 with q | ⟨q0, x, p, q1, q2, q3, q4, q5, q6, q7⟩
    · exact Or.inl q
    · exact Or.inr ⟨q0, x, p, q1, q2, q3, q4, by rw [(e p q4).1]; exact q5, by rw [(e p q4).2.1]; exact q6, q7⟩
  · obtain ⟨h1, h2, h3⟩ := h.2 x hx
    exact ⟨h1, h2, by rw [(e _ h1).1, (e _ h2).1]; exact h3⟩
section T2
variable {σ : kS} {n c ar : Nat} {li fs sn lv : Nat → Nat} {tr : Nat → Int} {rt dp : Nat → Nat} {pa up : Nat → Int}
theorem nodeAdded_ok (hG : gOk n c ar li fs sn) (hn : n < 300) (hW : Wb σ (n + 1) c ar li fs sn) (hT : Trs σ n c li fs sn lv tr rt dp pa up) :
    wpF F_Trees_nodeAdded [.inr (.inl 4), .inl (n : Int)] σ (fun r s => r = none ∧ (∀ o k, ¬ isTr o → o ≠ 29 → s o k = σ o k) ∧
      Trs s (n + 1) c li fs sn lv tr (fun v => if v = n then n else rt v) (fun v => if v = n then 0 else dp v) (fun v => if v = n then -1 else pa v) (fun v => if v = n then -1 else up v)) := by
  obtain ⟨t1, t2, t3, t4, t5⟩ := hT
  have hG' : gOk (n + 1) c ar li fs sn := ⟨by omega, hG.2.1, hG.2.2.1, fun k hk => by have := hG.2.2.2.1 k hk; omega, hG.2.2.2.2⟩
  unfold F_Trees_nodeAdded
  rw [wpF_kF]
  refine ⟨rfl, rfl, ?_⟩
  unfold s_Trees_nodeAdded
  simp only [List.map_cons, List.map_nil]
  refine wpS_seq' (fun Q0 hQ0 => ?_)
  simp only [wpS_skip, wpS_break, wpS_cont, wpS_retV, wpS_throw, wpS_seq, wpS_if, wpS_trunc, yS_let, yS_inc, kgK_i, kgK_r, kok_nil, kok_i0, kok_is, kok_r0, kok_rs, kok_n0, kok_ns, xS_put, xS_putOp, xS_ast0, xS_ast1, xS_astOp, wpS_E, wpS_call, wpS_callS, wpS_ret, kThen_N, kThen_B, kThen_C, kThen_R, kThen_T, kNext_N, kNext_C, kNext_B, kNext_R, wpE_K, wpE_KL, xE_I, xE_R, wpE_J, xE_bin, wpE_ladd, wpE_i2l, xE_get, xE_ald0, xE_ald1, wpE_if, xE_max, xE_min, wpE_len, wpA_nil, wpA_snoc, xE_call, xE_callS, xC_C, xC_L, xC_Z, wpC_and, wpC_or, wpC_not, wpC_if, kcmp_0, kcmp_1, kcmp_2, kcmp_3, kcmp_4, kcmp_5, rR_inj, kgO_some, kgO_add, kgO_sub, kgO_mul, kgO_div, kgO_rem, kgO_and, kvI_inl, kvJ_inl, kgI_0, kgI_s, kgR_0, kgR_s, kst_nil, kst_0, kst_s, kNLl_nil, kNLl_i, kNLl_r, kNLl_n, ktag_i, ktag_r, List.length_cons, List.length_nil, List.take_succ_cons, List.take_zero, List.take_nil, List.nil_append, List.cons_append, decide_eq_true_eq, Bool.not_eq_true, Bool.not_eq_true', decide_eq_false_iff_not, ne_eq, Decidable.not_not, true_and, and_true, Nat.reduceAdd, Nat.reduceLeDiff, Nat.reduceEqDiff, Nat.le_refl, not_true_eq_false, not_false_eq_true, reduceIte, eq_self, Int.reduceNeg, Int.reduceEq, Int.reduceLT, Int.reduceLE, Nat.zero_le, Nat.one_ne_zero, ev_trees]
  refine (hang_ok hG' hW t1 (by omega) (by omega)).mono ?_
  rintro r s ⟨rfl, h1, h2, h3, h4, h5⟩
  refine ⟨rfl, ?_⟩
  rw [hQ0]
  refine kThen_N.mpr (wpS_retV.mpr ⟨none, rfl, rfl, rfl, fun o k o1 o2 => h1 o k (by unfold isTr at o1; omega) (by unfold isTr at o1; omega) (by unfold isTr at o1; omega) (by unfold isTr at o1; omega) o2, ?_⟩)
  have hV : ∀ v, rch (fun u v => uE (fun x => th c li x ∧ tr x ≠ 0) fs sn u v ∧ σ 25 v ≠ (n : Int)) n v ↔ v = n := by
    intro v
    constructor
    · intro hr
      refine rch.closed (S := fun v => v = n) ?_ rfl hr
      rintro a b rfl ⟨⟨x, ⟨hx, -⟩, hx2⟩, -⟩
      have := th_lt hG hx
      omega
    · rintro rfl; exact rch.rfl' _
  have u1 := fun v (hv : v < n) => h5 v (by rw [hV]; omega)
  have u2 := (h3 n ((hV n).mpr rfl)).1
  refine ⟨⟨fun x => by rw [h1 _ _ (by decide) (by decide) (by decide) (by decide) (by decide)]; exact t1.1 x, fun x => by rw [h1 _ _ (by decide) (by decide) (by decide) (by decide) (by decide)]; exact t1.2 x⟩, t2, ?_, fun v hv => ?_, ?_⟩
  · obtain ⟨a1, a2, a3⟩ := t3
    refine ⟨a1, a2, fun i x hx hA => ?_⟩
    have hx4 := th_lt hG hx
    have hno : ¬ sd (th c li) fs sn lv tr i (fs x) n := by
      intro hr
      have : n < n := rch.closed (S := fun v => v < n) (by
        rintro a b - ⟨y, ⟨y1, -⟩, ⟨-, rfl⟩ | ⟨-, rfl⟩⟩
        · exact (th_lt hG y1).2.2.2
        · exact (th_lt hG y1).2.2.1) hx4.2.2.1 hr
      omega
    rw [cntP_succ_neg hno]
    exact Nat.le_trans (a3 i x hx hA) (Nat.div_le_div_right (by omega))
  · by_cases e : v = n
    · subst e
      simp only [if_true]
      exact ⟨u2, h2.1, h2.2.1, by rw [h2.2.2]; rfl⟩
    · simp only [if_neg e]
      obtain ⟨a1, a2, a3, a4⟩ := u1 v (by omega)
      rw [a1, a2, a3, a4]
      exact t4 v (by omega)
  · have hL : LF (n + 1) (fun x => th c li x ∧ tr x ≠ 0) fs sn (fun v => if v = n then n else rt v) (fun v => if v = n then 0 else dp v) (fun v => if v = n then -1 else pa v) (fun v => if v = n then -1 else up v) := by
      refine ⟨fun v hv => ?_, fun x hx => ?_⟩
      · by_cases e : v = n
        · subst e
          simp
        · simp only [if_neg e]
          obtain ⟨a1, a2, a3⟩ := t5.1.1 v (by omega)
          rw [if_neg (by omega)]
          refine ⟨a1, a2, a3.imp id ?_⟩
          rintro ⟨q0, x, p, q1, q2, q3, q4, q5, q6, q7⟩
          exact ⟨q0, x, p, q1, q2, q3, by omega, by rw [if_neg (by omega)]; exact q5, by rw [if_neg (by omega)]; exact q6, q7⟩
      · obtain ⟨a1, a2, a3⟩ := t5.1.2 x hx
        exact ⟨by omega, by omega, by dsimp only; rw [if_neg (by omega), if_neg (by omega)]; exact a3⟩
    exact hL.fo t5.ac
theorem together_ok {a b : Nat} (hT : Ht σ n rt dp pa up) (hn : n ≤ 300) (ha : a < n) (hb : b < n) : wpF F_Trees_together [.inr (.inl 4), .inl (a : Int), .inl (b : Int)] σ (fun r s => s = σ ∧ r = some (.inl (if rt a = rt b then 1 else 0))) := by
  unfold F_Trees_together
  rw [wpF_kF]
  refine ⟨rfl, rfl, ?_⟩
  unfold s_Trees_together
  simp only [List.map_cons, List.map_nil]
  refine wpS_gen (fun Q1 hQ1 => ?_)
  simp only [wpS_skip, wpS_break, wpS_cont, wpS_retV, wpS_throw, wpS_seq, wpS_if, wpS_trunc, yS_let, yS_inc, kgK_i, kgK_r, kok_nil, kok_i0, kok_is, kok_r0, kok_rs, kok_n0, kok_ns, xS_put, xS_putOp, xS_ast0, xS_ast1, xS_astOp, wpS_E, wpS_call, wpS_callS, wpS_ret, kThen_N, kThen_B, kThen_C, kThen_R, kThen_T, kNext_N, kNext_C, kNext_B, kNext_R, wpE_K, wpE_KL, xE_I, xE_R, wpE_J, xE_bin, wpE_ladd, wpE_i2l, xE_get, xE_ald0, xE_ald1, wpE_if, xE_max, xE_min, wpE_len, wpA_nil, wpA_snoc, xE_call, xE_callS, xC_C, xC_L, xC_Z, wpC_and, wpC_or, wpC_not, wpC_if, kcmp_0, kcmp_1, kcmp_2, kcmp_3, kcmp_4, kcmp_5, rR_inj, kgO_some, kgO_add, kgO_sub, kgO_mul, kgO_div, kgO_rem, kgO_and, kvI_inl, kvJ_inl, kgI_0, kgI_s, kgR_0, kgR_s, kst_nil, kst_0, kst_s, kNLl_nil, kNLl_i, kNLl_r, kNLl_n, ktag_i, ktag_r, List.length_cons, List.length_nil, List.take_succ_cons, List.take_zero, List.take_nil, List.nil_append, List.cons_append, decide_eq_true_eq, Bool.not_eq_true, Bool.not_eq_true', decide_eq_false_iff_not, ne_eq, Decidable.not_not, true_and, and_true, Nat.reduceAdd, Nat.reduceLeDiff, Nat.reduceEqDiff, Nat.le_refl, not_true_eq_false, not_false_eq_true, reduceIte, eq_self, Int.reduceNeg, Int.reduceEq, Int.reduceLT, Int.reduceLE, Nat.zero_le, Nat.one_ne_zero, ev_trees, ev_trees_arr, Int.toNat_natCast, (hT a ha).1, (hT b hb).1]
  repeat refine And.intro (by omega) ?_
  by_cases e : rt a = rt b
  · have e2 : (rt a : Int) = rt b := by omega
    simp only [e2, decide_true, decide_false, Bool.false_eq_true, if_true, if_false, true_and, and_true, not_true_eq_false, not_false_eq_true]
    rw [hQ1]
    exact ⟨_, rfl, rfl, rfl, by rw [if_pos e]⟩
  · have e2 : ¬ (rt a : Int) = rt b := by omega
    simp only [e2, decide_true, decide_false, Bool.false_eq_true, if_true, if_false, true_and, and_true, not_true_eq_false, not_false_eq_true]
    rw [hQ1]
    exact ⟨_, rfl, rfl, rfl, by rw [if_neg e]⟩
end T2
