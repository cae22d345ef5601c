/-! THE CLASS'S TREES: an arc comes -/
section T3
variable {σ : kS} {n c ar : Nat} {li fs sn lv : Nat → Nat} {tr : Nat → Int} {rt dp : Nat → Nat} {pa up : Nat → Int}
/-- levels with a new arc of level 0 that is a tree arc just if it joins -/
theorem Hd.add {W W' : Nat → Prop} {lv' : Nat → Nat} {tr' : Nat → Int} {z : Nat} (h : Hd n W fs sn lv tr) (hz : ¬ W z) (hW : ∀ x, W' x ↔ W x ∨ x = z) (hlv : ∀ x, lv' x = if x = z then 0 else lv x) (htr : ∀ x, x ≠ z → tr' x = tr x)
    (htz : tr' z ≠ 0 ↔ ¬ rch (uE (fun x => W x ∧ tr x ≠ 0) fs sn) (fs z) (sn z)) : Hd n W' fs sn lv' tr' := by
  obtain ⟨h1, h2, h3⟩ := h
  have e1 : ∀ (i : Nat) x, W x → (tA lv' tr' (i : Int) x ↔ tA lv tr (i : Int) x) := by
    intro i x hx
    have hne : x ≠ z := fun e => hz (e ▸ hx)
    unfold tA
    rw [hlv, if_neg hne, htr x hne]
  have upm : ∀ i u v, sd W fs sn lv tr i u v → sd W' fs sn lv' tr' i u v := fun i u v q => q.mono (fun x a b => ⟨(hW x).mpr (Or.inl a), (e1 i x a).mpr b⟩)
  have dnm : ∀ i u v, i ≠ 0 → sd W' fs sn lv' tr' i u v → sd W fs sn lv tr i u v := fun i u v hi q => q.mono (fun x a b => by
    rcases (hW x).mp a with w | rfl
    · exact ⟨w, (e1 i x w).mp b⟩
    · exfalso
      have := b.2
      rw [hlv, if_pos rfl] at this
      omega)
  have s0 : ∀ u v, rch (uE (fun x => W x ∧ tr x ≠ 0) fs sn) u v → sd W fs sn lv tr 0 u v := fun u v q => rch.mono (fun _ _ => uE.mono (fun x hx => ⟨hx.1, hx.2, by omega⟩)) q
  refine ⟨?_, fun x hx => ?_, fun i x hx hA => ?_⟩
  · by_cases hj : rch (uE (fun x => W x ∧ tr x ≠ 0) fs sn) (fs z) (sn z)
    · refine h1.mono (fun x hx => ?_)
      by_cases e : x = z
      · subst e; exact absurd hj (htz.mp hx.2)
      · exact ⟨((hW x).mp hx.1).elim id (fun q => absurd q e), by rw [← htr x e]; exact hx.2⟩
    · refine (Ac.add h1 hj).mono (fun x hx => ?_)
      by_cases e : x = z
      · exact Or.inr e
      · exact Or.inl ⟨((hW x).mp hx.1).elim id (fun q => absurd q e), by rw [← htr x e]; exact hx.2⟩
  · rcases (hW x).mp hx with w | rfl
    · have hne : x ≠ z := fun e => hz (e ▸ w)
      rw [hlv, if_neg hne]
      exact upm _ _ _ (h2 x w)
    · rw [hlv, if_pos rfl]
      by_cases ht : tr' x ≠ 0
      · exact sd.arc hx ⟨ht, by omega⟩
      · have : rch (uE (fun x => W x ∧ tr x ≠ 0) fs sn) (fs x) (sn x) := Classical.byContradiction fun q => ht (htz.mpr q)
        exact upm _ _ _ (s0 _ _ this)
  · by_cases hi : i = 0
    · subst hi
      refine Nat.le_trans cntP_bound ?_
      simp
    · have w : W x := by
        rcases (hW x).mp hx with w | rfl
        · exact w
        · exfalso
          have := hA.2
          rw [hlv, if_pos rfl] at this
          omega
      exact Nat.le_trans (cntP_le (fun v _ hv => dnm i _ _ hi hv)) (h3 i x w ((e1 i x w).mp hA))
/-- what hangs newly under an arc that joins two parts -/
theorem LF.join {A A' : Nat → Prop} {z fr upr : Nat} {rt' dp' : Nat → Nat} {pa' up' : Nat → Int} (h : LF n A fs sn rt dp pa up) (hA : ∀ x, A' x ↔ A x ∨ x = z) (hfr : fr < n) (hup : upr < n) (hlt : rt upr < rt fr) (hz : (fs z = fr ∧ sn z = upr) ∨ (sn z = fr ∧ fs z = upr))
    (g1 : ∀ v, v < n → rt v ≠ rt fr → rt' v = rt v ∧ dp' v = dp v ∧ pa' v = pa v ∧ up' v = up v)
    (g2 : ∀ v, v < n → rt v = rt fr → rt' v = rt upr)
    (g3 : pa' fr = upr ∧ up' fr = z ∧ dp' fr = dp upr + 1)
    (g4 : ∀ v, v < n → rt v = rt fr → v ≠ fr → ∃ p x : Nat, p < n ∧ rt p = rt fr ∧ A' x ∧ up' v = x ∧ pa' v = p ∧ dp' v = dp' p + 1 ∧ ((fs x = v ∧ sn x = p) ∨ (sn x = v ∧ fs x = p))) : LF n A' fs sn rt' dp' pa' up' := by
  have hru : rt upr < n := h.root_lt hup
  have e0 : rt (rt upr) = rt upr := (h.1 upr hup).2.1
  have eu : rt' upr = rt upr ∧ dp' upr = dp upr := ⟨(g1 upr hup (by omega)).1, (g1 upr hup (by omega)).2.1⟩
  have er : rt' (rt upr) = rt upr := by rw [(g1 (rt upr) hru (by omega)).1, e0]
  refine ⟨fun v hv => ?_, fun x hx => ?_⟩
  · obtain ⟨h1, h2, h3⟩ := h.1 v hv
    by_cases e : rt v = rt fr
    · rw [g2 v hv e]
      refine ⟨by omega, er, Or.inr ⟨by omega, ?_⟩⟩
      by_cases ev : v = fr
      · subst ev
        exact ⟨z, upr, (hA z).mpr (Or.inr rfl), g3.2.1, g3.1, hup, eu.1, by rw [g3.2.2, eu.2], hz⟩
      · obtain ⟨p, x, p1, p2, p3, p4, p5, p6, p7⟩ := g4 v hv e ev
        exact ⟨x, p, p3, p4, p5, p1, g2 p p1 p2, p6, p7⟩
    · obtain ⟨q1, q2, q3, q4⟩ := g1 v hv e
      rw [q1, q2, q3, q4]
      have hrv := h.root_lt hv
      refine ⟨h1, by rw [(g1 (rt v) hrv (by rw [h2]; exact e)).1]; exact h2, h3.imp id ?_⟩
      rintro ⟨q0, x, p, p1, p2, p3, p4, p5, p6, p7⟩
      have ep : rt p ≠ rt fr := by rw [p5]; exact e
      exact ⟨q0, x, p, (hA x).mpr (Or.inl p1), p2, p3, p4, by rw [(g1 p p4 ep).1]; exact p5, by rw [(g1 p p4 ep).2.1]; exact p6, p7⟩
  · have key : ∀ y, A y → rt' (fs y) = rt' (sn y) := by
      intro y hy
      obtain ⟨y1, y2, y3⟩ := h.2 y hy
      by_cases e : rt (fs y) = rt fr
      · rw [g2 _ y1 e, g2 _ y2 (by rw [← y3]; exact e)]
      · rw [(g1 _ y1 e).1, (g1 _ y2 (by rw [← y3]; exact e)).1]; exact y3
    rcases (hA x).mp hx with w | rfl
    · obtain ⟨y1, y2, y3⟩ := h.2 x w
      exact ⟨y1, y2, key x w⟩
    · have ef : rt' fr = rt upr := g2 fr hfr rfl
      rcases hz with ⟨q1, q2⟩ | ⟨q1, q2⟩
      · exact ⟨by omega, by omega, by rw [q1, q2, ef, eu.1]⟩
      · exact ⟨by omega, by omega, by rw [q1, q2, ef, eu.1]⟩
theorem arcAdded_ok {x : Nat} {W : Nat → Prop} (hG : gOk n c ar li fs sn) (hW : Wb σ n c ar li fs sn) (hth : ∀ y, th c li y ↔ W y ∨ y = x) (hx : ¬ W x) (hTb : Tb σ lv tr) (ht01 : ∀ y, tr y = 0 ∨ tr y = 1) (hH : Hd n W fs sn lv tr) (hHt : Ht σ n rt dp pa up) (hF : FO n (fun y => W y ∧ tr y ≠ 0) fs sn rt dp pa up) :
    wpF F_Trees_arcAdded [.inr (.inl 4), .inl (x : Int)] σ (fun r s => r = none ∧ (∀ o k, ¬ isTr o → o ≠ 29 → s o k = σ o k) ∧
      ∃ rt' dp' pa' up', Trs s n c li fs sn (fun y => if y = x then 0 else lv y) (fun y => if y = x then (if rt (fs x) = rt (sn x) then 0 else 1) else tr y) rt' dp' pa' up') := by
  have hn3 := hG.1
  obtain ⟨x1, x2, x3, x4⟩ := th_lt hG ((hth x).mpr (Or.inr rfl))
  obtain ⟨w1, w2, w3, w4, w5, -⟩ := id hW
  have e15 := w4 x
  have e16 := w5 x
  obtain ⟨tv, htv⟩ : ∃ tv : Int, tv = if rt (fs x) = rt (sn x) then 0 else 1 := ⟨_, rfl⟩
  obtain ⟨tr', htr'⟩ : ∃ tr' : Nat → Int, tr' = fun y => if y = x then tv else tr y := ⟨_, rfl⟩
  rw [← htv, ← htr']
  unfold F_Trees_arcAdded
  rw [wpF_kF]
  refine ⟨rfl, rfl, ?_⟩
  unfold s_Trees_arcAdded
  simp only [List.map_cons, List.map_nil]
  refine wpS_seq' (fun Q0 hQ0 => ?_)
  refine wpS_seq' (fun Q101 hQ101 => ?_)
  simp only [wpS_skip, wpS_break, wpS_cont, wpS_retV, wpS_throw, wpS_seq, wpS_if, wpS_trunc, yS_let, yS_inc, kgK_i, kgK_r, kok_nil, kok_i0, kok_is, kok_r0, kok_rs, kok_n0, kok_ns, xS_put, xS_putOp, xS_ast0, xS_ast1, xS_astOp, wpS_E, wpS_call, wpS_callS, wpS_ret, kThen_N, kThen_B, kThen_C, kThen_R, kThen_T, kNext_N, kNext_C, kNext_B, kNext_R, wpE_K, wpE_KL, xE_I, xE_R, wpE_J, xE_bin, wpE_ladd, wpE_i2l, xE_get, xE_ald0, xE_ald1, wpE_if, xE_max, xE_min, wpE_len, wpA_nil, wpA_snoc, xE_call, xE_callS, xC_C, xC_L, xC_Z, wpC_and, wpC_or, wpC_not, wpC_if, kcmp_0, kcmp_1, kcmp_2, kcmp_3, kcmp_4, kcmp_5, rR_inj, kgO_some, kgO_add, kgO_sub, kgO_mul, kgO_div, kgO_rem, kgO_and, kvI_inl, kvJ_inl, kgI_0, kgI_s, kgR_0, kgR_s, kst_nil, kst_0, kst_s, kNLl_nil, kNLl_i, kNLl_r, kNLl_n, ktag_i, ktag_r, List.length_cons, List.length_nil, List.take_succ_cons, List.take_zero, List.take_nil, List.nil_append, List.cons_append, decide_eq_true_eq, Bool.not_eq_true, Bool.not_eq_true', decide_eq_false_iff_not, ne_eq, Decidable.not_not, true_and, and_true, Nat.reduceAdd, Nat.reduceLeDiff, Nat.reduceEqDiff, Nat.le_refl, not_true_eq_false, not_false_eq_true, reduceIte, eq_self, Int.reduceNeg, Int.reduceEq, Int.reduceLT, Int.reduceLE, Nat.zero_le, Nat.one_ne_zero, ev_trees, ev_trees_arr, ev_web, ev_web_arr, Int.toNat_natCast, e15]
  repeat refine And.intro (by omega) ?_
  rw [hQ101]
  clear hQ101 Q101
  refine kThen_N.mpr ?_
  refine wpS_seq' (fun Q102 hQ102 => ?_)
  simp only [wpS_skip, wpS_break, wpS_cont, wpS_retV, wpS_throw, wpS_seq, wpS_if, wpS_trunc, yS_let, yS_inc, kgK_i, kgK_r, kok_nil, kok_i0, kok_is, kok_r0, kok_rs, kok_n0, kok_ns, xS_put, xS_putOp, xS_ast0, xS_ast1, xS_astOp, wpS_E, wpS_call, wpS_callS, wpS_ret, kThen_N, kThen_B, kThen_C, kThen_R, kThen_T, kNext_N, kNext_C, kNext_B, kNext_R, wpE_K, wpE_KL, xE_I, xE_R, wpE_J, xE_bin, wpE_ladd, wpE_i2l, xE_get, xE_ald0, xE_ald1, wpE_if, xE_max, xE_min, wpE_len, wpA_nil, wpA_snoc, xE_call, xE_callS, xC_C, xC_L, xC_Z, wpC_and, wpC_or, wpC_not, wpC_if, kcmp_0, kcmp_1, kcmp_2, kcmp_3, kcmp_4, kcmp_5, rR_inj, kgO_some, kgO_add, kgO_sub, kgO_mul, kgO_div, kgO_rem, kgO_and, kvI_inl, kvJ_inl, kgI_0, kgI_s, kgR_0, kgR_s, kst_nil, kst_0, kst_s, kNLl_nil, kNLl_i, kNLl_r, kNLl_n, ktag_i, ktag_r, List.length_cons, List.length_nil, List.take_succ_cons, List.take_zero, List.take_nil, List.nil_append, List.cons_append, decide_eq_true_eq, Bool.not_eq_true, Bool.not_eq_true', decide_eq_false_iff_not, ne_eq, Decidable.not_not, true_and, and_true, Nat.reduceAdd, Nat.reduceLeDiff, Nat.reduceEqDiff, Nat.le_refl, not_true_eq_false, not_false_eq_true, reduceIte, eq_self, Int.reduceNeg, Int.reduceEq, Int.reduceLT, Int.reduceLE, Nat.zero_le, Nat.one_ne_zero, ev_trees, ev_trees_arr, ev_web, ev_web_arr, Int.toNat_natCast, e16]
  repeat refine And.intro (by omega) ?_
  rw [hQ102]
  clear hQ102 Q102
  refine kThen_N.mpr ?_
  refine wpS_seq' (fun Q103 hQ103 => ?_)
  simp only [wpS_skip, wpS_break, wpS_cont, wpS_retV, wpS_throw, wpS_seq, wpS_if, wpS_trunc, yS_let, yS_inc, kgK_i, kgK_r, kok_nil, kok_i0, kok_is, kok_r0, kok_rs, kok_n0, kok_ns, xS_put, xS_putOp, xS_ast0, xS_ast1, xS_astOp, wpS_E, wpS_call, wpS_callS, wpS_ret, kThen_N, kThen_B, kThen_C, kThen_R, kThen_T, kNext_N, kNext_C, kNext_B, kNext_R, wpE_K, wpE_KL, xE_I, xE_R, wpE_J, xE_bin, wpE_ladd, wpE_i2l, xE_get, xE_ald0, xE_ald1, wpE_if, xE_max, xE_min, wpE_len, wpA_nil, wpA_snoc, xE_call, xE_callS, xC_C, xC_L, xC_Z, wpC_and, wpC_or, wpC_not, wpC_if, kcmp_0, kcmp_1, kcmp_2, kcmp_3, kcmp_4, kcmp_5, rR_inj, kgO_some, kgO_add, kgO_sub, kgO_mul, kgO_div, kgO_rem, kgO_and, kvI_inl, kvJ_inl, kgI_0, kgI_s, kgR_0, kgR_s, kst_nil, kst_0, kst_s, kNLl_nil, kNLl_i, kNLl_r, kNLl_n, ktag_i, ktag_r, List.length_cons, List.length_nil, List.take_succ_cons, List.take_zero, List.take_nil, List.nil_append, List.cons_append, decide_eq_true_eq, Bool.not_eq_true, Bool.not_eq_true', decide_eq_false_iff_not, ne_eq, Decidable.not_not, true_and, and_true, Nat.reduceAdd, Nat.reduceLeDiff, Nat.reduceEqDiff, Nat.le_refl, not_true_eq_false, not_false_eq_true, reduceIte, eq_self, Int.reduceNeg, Int.reduceEq, Int.reduceLT, Int.reduceLE, Nat.zero_le, Nat.one_ne_zero, ev_trees, ev_trees_arr, Int.toNat_natCast]
  repeat refine And.intro (by omega) ?_
  rw [hQ103]
  clear hQ103 Q103
  refine kThen_N.mpr ?_
  obtain ⟨s1, hs1⟩ : ∃ s1, s1 = kup σ 23 x 0 := ⟨_, rfl⟩
  rw [← hs1]
  have k1 : ∀ o k, o ≠ 23 → s1 o k = σ o k := by intro o k ho; rw [hs1, kup_ne ho]
  have k2 : ∀ y, s1 23 y = ((if y = x then 0 else lv y : Nat) : Int) := by
    intro y; rw [hs1, kup_eq]; split
    · rfl
    · exact hTb.1 y
  clear hs1
  have hHt1 : Ht s1 n rt dp pa up := fun v hv => by rw [k1 _ _ (by decide), k1 _ _ (by decide), k1 _ _ (by decide), k1 _ _ (by decide)]; exact hHt v hv
  have joined : ∀ u v, u < n → v < n → (rch (uE (fun y => W y ∧ tr y ≠ 0) fs sn) u v ↔ rt u = rt v) := fun u v hu hv => hF.1.rch_iff hu hv
  have hH' : Hd n (th c li) fs sn (fun y => if y = x then 0 else lv y) tr' := by
    refine Hd.add hH hx hth (fun y => rfl) (fun y hy => by rw [htr']; simp [hy]) ?_
    rw [joined _ _ x3 x4, htr', htv]
    by_cases e : rt (fs x) = rt (sn x) <;> simp [e]
  have t01 : ∀ y, tr' y = 0 ∨ tr' y = 1 := by
    intro y; rw [htr', htv]; dsimp only
    split
    · split
      · exact Or.inl rfl
      · exact Or.inr rfl
    · exact ht01 y
  refine wpS_seq' (fun Q1 hQ1 => ?_)
  simp only [wpS_skip, wpS_break, wpS_cont, wpS_retV, wpS_throw, wpS_seq, wpS_if, wpS_trunc, yS_let, yS_inc, kgK_i, kgK_r, kok_nil, kok_i0, kok_is, kok_r0, kok_rs, kok_n0, kok_ns, xS_put, xS_putOp, xS_ast0, xS_ast1, xS_astOp, wpS_E, wpS_call, wpS_callS, wpS_ret, kThen_N, kThen_B, kThen_C, kThen_R, kThen_T, kNext_N, kNext_C, kNext_B, kNext_R, wpE_K, wpE_KL, xE_I, xE_R, wpE_J, xE_bin, wpE_ladd, wpE_i2l, xE_get, xE_ald0, xE_ald1, wpE_if, xE_max, xE_min, wpE_len, wpA_nil, wpA_snoc, xE_call, xE_callS, xC_C, xC_L, xC_Z, wpC_and, wpC_or, wpC_not, wpC_if, kcmp_0, kcmp_1, kcmp_2, kcmp_3, kcmp_4, kcmp_5, rR_inj, kgO_some, kgO_add, kgO_sub, kgO_mul, kgO_div, kgO_rem, kgO_and, kvI_inl, kvJ_inl, kgI_0, kgI_s, kgR_0, kgR_s, kst_nil, kst_0, kst_s, kNLl_nil, kNLl_i, kNLl_r, kNLl_n, ktag_i, ktag_r, List.length_cons, List.length_nil, List.take_succ_cons, List.take_zero, List.take_nil, List.nil_append, List.cons_append, decide_eq_true_eq, Bool.not_eq_true, Bool.not_eq_true', decide_eq_false_iff_not, ne_eq, Decidable.not_not, true_and, and_true, Nat.reduceAdd, Nat.reduceLeDiff, Nat.reduceEqDiff, Nat.le_refl, not_true_eq_false, not_false_eq_true, reduceIte, eq_self, Int.reduceNeg, Int.reduceEq, Int.reduceLT, Int.reduceLE, Nat.zero_le, Nat.one_ne_zero, ev_trees, ev_trees_arr, Int.toNat_natCast]
  refine (together_ok hHt1 hn3 x3 x4).mono ?_
  rintro r s' ⟨hs, rfl⟩
  subst s'
  rw [kgO_some, kvI_inl]
  have key : Q1 rN [some (.inr (.inl 4)), some (.inl (x : Int)), some (.inl (fs x : Int)), some (.inl (sn x : Int))] (kup s1 24 x tv) := by
    rw [hQ1]
    refine kThen_N.mpr ?_
    obtain ⟨s2, hs2⟩ : ∃ s2, s2 = kup s1 24 x tv := ⟨_, rfl⟩
    rw [← hs2]
    have m1 : ∀ o k, o ≠ 24 → s2 o k = s1 o k := by intro o k ho; rw [hs2, kup_ne ho]
    have m2 : ∀ y, s2 24 y = tr' y := by
      intro y; rw [hs2, kup_eq, htr']; dsimp only; split
      · rfl
      · rw [k1 _ _ (by decide)]; exact hTb.2 y
    clear hs2
    have hTb2 : Tb s2 (fun y => if y = x then 0 else lv y) tr' := ⟨fun y => by rw [m1 _ _ (by decide)]; exact k2 y, m2⟩
    have hHt2 : Ht s2 n rt dp pa up := fun v hv => by rw [m1 _ _ (by decide), m1 _ _ (by decide), m1 _ _ (by decide), m1 _ _ (by decide)]; exact hHt1 v hv
    have hW2 := hW.agree (s' := s2) (fun o k ho => by rw [m1 o k (by unfold isWb at ho; omega), k1 o k (by unfold isWb at ho; omega)])
    have e24 : s2 24 x = tv := by rw [m2, htr']; simp
    refine wpS_gen (fun Q2 hQ2 => ?_)
    by_cases e : rt (fs x) = rt (sn x)
    · -- no tree arc
      have hv0 : tv = 0 := by rw [htv, if_pos e]
      rw [hv0] at e24
      simp only [wpS_skip, wpS_break, wpS_cont, wpS_retV, wpS_throw, wpS_seq, wpS_if, wpS_trunc, yS_let, yS_inc, kgK_i, kgK_r, kok_nil, kok_i0, kok_is, kok_r0, kok_rs, kok_n0, kok_ns, xS_put, xS_putOp, xS_ast0, xS_ast1, xS_astOp, wpS_E, wpS_call, wpS_callS, wpS_ret, kThen_N, kThen_B, kThen_C, kThen_R, kThen_T, kNext_N, kNext_C, kNext_B, kNext_R, wpE_K, wpE_KL, xE_I, xE_R, wpE_J, xE_bin, wpE_ladd, wpE_i2l, xE_get, xE_ald0, xE_ald1, wpE_if, xE_max, xE_min, wpE_len, wpA_nil, wpA_snoc, xE_call, xE_callS, xC_C, xC_L, xC_Z, wpC_and, wpC_or, wpC_not, wpC_if, kcmp_0, kcmp_1, kcmp_2, kcmp_3, kcmp_4, kcmp_5, rR_inj, kgO_some, kgO_add, kgO_sub, kgO_mul, kgO_div, kgO_rem, kgO_and, kvI_inl, kvJ_inl, kgI_0, kgI_s, kgR_0, kgR_s, kst_nil, kst_0, kst_s, kNLl_nil, kNLl_i, kNLl_r, kNLl_n, ktag_i, ktag_r, List.length_cons, List.length_nil, List.take_succ_cons, List.take_zero, List.take_nil, List.nil_append, List.cons_append, decide_eq_true_eq, Bool.not_eq_true, Bool.not_eq_true', decide_eq_false_iff_not, ne_eq, Decidable.not_not, true_and, and_true, Nat.reduceAdd, Nat.reduceLeDiff, Nat.reduceEqDiff, Nat.le_refl, not_true_eq_false, not_false_eq_true, reduceIte, eq_self, Int.reduceNeg, Int.reduceEq, Int.reduceLT, Int.reduceLE, Nat.zero_le, Nat.one_ne_zero, ev_trees, ev_trees_arr, Int.toNat_natCast, e24, decide_true, decide_false, Bool.false_eq_true, if_true, if_false, true_and, and_true, not_true_eq_false, not_false_eq_true]
      refine ⟨by omega, ?_⟩
      rw [hQ2, hQ0]
      refine kThen_N.mpr (wpS_retV.mpr ⟨none, rfl, rfl, rfl, fun o k o1 o2 => by rw [m1 o k (by unfold isTr at o1; omega), k1 o k (by unfold isTr at o1; omega)], rt, dp, pa, up, hTb2, t01, hH', hHt2, ?_⟩)
      have hAA : ∀ y, (th c li y ∧ tr' y ≠ 0) ↔ (W y ∧ tr y ≠ 0) := by
        intro y
        rw [hth, htr']
        by_cases q : y = x
        · subst q
          simp [hv0, hx]
        · simp [q]
      have hAe : (fun y => th c li y ∧ tr' y ≠ 0) = (fun y => W y ∧ tr y ≠ 0) := funext fun y => propext (hAA y)
      rw [hAe]
      exact hF
    · have hv1 : tv = 1 := by rw [htv, if_neg e]
      rw [hv1] at e24
      have hAA : ∀ y, (th c li y ∧ tr' y ≠ 0) ↔ ((W y ∧ tr y ≠ 0) ∨ y = x) := by
        intro y
        rw [hth, htr']
        by_cases q : y = x
        · subst q
          simp [hv1]
        · simp [q]
      -- the two ends
      have hang : ∀ (fr upr : Nat), fr < n → upr < n → rt upr < rt fr → ((fs x = fr ∧ sn x = upr) ∨ (sn x = fr ∧ fs x = upr)) →
          wpF F_Trees_hang [.inr (.inl 4), .inl (fr : Int), .inl (upr : Int), .inl (x : Int), .inl (rt upr : Int), .inl ((dp upr : Int) + 1)] s2 (fun r s => r = none ∧ (∀ o k, ¬ isTr o → o ≠ 29 → s o k = σ o k) ∧ ∃ rt' dp' pa' up', Trs s n c li fs sn (fun y => if y = x then 0 else lv y) tr' rt' dp' pa' up') := by
        intro fr upr hfr hup hlt hz
        have hdl := hF.1.dp_lt hup
        refine (hang_ok hG hW2 hTb2 hfr (by omega)).mono ?_
        rintro r s ⟨rfl, a1, a2, a3, a4, a5⟩
        have hV : ∀ v, v < n → (rch (fun u v => uE (fun x => th c li x ∧ tr' x ≠ 0) fs sn u v ∧ s2 25 v ≠ (rt upr : Int)) fr v ↔ rt v = rt fr) := by
          intro v hv
          constructor
          · intro hr
            have : v < n ∧ rt v = rt fr := by
              refine rch.closed (S := fun v => v < n ∧ rt v = rt fr) ?_ ⟨hfr, rfl⟩ hr
              rintro a b ⟨ha1, ha2⟩ ⟨⟨y, hy, hy2⟩, hb⟩
              obtain ⟨-, -, y3, y4⟩ := th_lt hG hy.1
              have hbn : b < n := by rcases hy2 with ⟨-, rfl⟩ | ⟨-, rfl⟩ <;> assumption
              refine ⟨hbn, ?_⟩
              rw [(hHt2 b hbn).1] at hb
              rcases (hAA y).mp hy with w | rfl
              · have := (hF.1.2 y w).2.2
                rcases hy2 with ⟨rfl, rfl⟩ | ⟨rfl, rfl⟩
                · rw [← this]; exact ha2
                · rw [this]; exact ha2
              · exfalso
                have hbu : rt b ≠ rt upr := fun q => hb (by rw [q])
                have hau : rt a ≠ rt upr := by rw [ha2]; omega
                rcases hz with ⟨rfl, rfl⟩ | ⟨rfl, rfl⟩ <;> rcases hy2 with ⟨rfl, rfl⟩ | ⟨rfl, rfl⟩
                · exact hbu rfl
                · exact hau rfl
                · exact hau rfl
                · exact hbu rfl
            exact this.2
          · intro hv2
            refine rch.mono_in ((joined fr v hfr hv).mpr hv2.symm) ?_
            rintro a b ha ⟨y, hy, hy2⟩
            have hbr : rch (uE (fun y => W y ∧ tr y ≠ 0) fs sn) fr b := rch.snoc ha ⟨y, hy, hy2⟩
            obtain ⟨-, -, y3, y4⟩ := th_lt hG ((hth y).mpr (Or.inl hy.1))
            have hbn : b < n := by rcases hy2 with ⟨-, rfl⟩ | ⟨-, rfl⟩ <;> assumption
            refine ⟨⟨y, (hAA y).mpr (Or.inl hy), hy2⟩, ?_⟩
            rw [(hHt2 b hbn).1]
            have := (joined fr b hfr hbn).mp hbr
            omega
        refine ⟨rfl, fun o k o1 o2 => by rw [a1 o k (by unfold isTr at o1; omega) (by unfold isTr at o1; omega) (by unfold isTr at o1; omega) (by unfold isTr at o1; omega) o2, m1 o k (by unfold isTr at o1; omega), k1 o k (by unfold isTr at o1; omega)], fun v => if rt v = rt fr then rt upr else rt v, fun v => (s 28 v).toNat, fun v => s 26 v, fun v => s 27 v, ⟨fun y => by rw [a1 _ _ (by decide) (by decide) (by decide) (by decide) (by decide)]; exact hTb2.1 y, fun y => by rw [a1 _ _ (by decide) (by decide) (by decide) (by decide) (by decide)]; exact hTb2.2 y⟩, t01, hH', fun v hv => ?_, ?_⟩
        · by_cases q : rt v = rt fr
          · obtain ⟨b1, d, b2, b3⟩ := a3 v ((hV v hv).mpr q)
            refine ⟨by rw [b1]; simp [q], rfl, rfl, ?_⟩
            dsimp only
            rw [b3]; omega
          · obtain ⟨b1, b2, b3, b4⟩ := a5 v (fun h => q ((hV v hv).mp h))
            obtain ⟨g1, g2, g3, g4⟩ := hHt2 v hv
            refine ⟨by rw [b1, g1]; simp [q], rfl, rfl, ?_⟩
            dsimp only
            rw [b4, g4]; omega
        · refine LF.fo (LF.join hF.1 (z := x) (fr := fr) (upr := upr) hAA hfr hup hlt hz (fun v hv q => ?_) (fun v hv q => by simp [q]) ⟨a2.1, a2.2.1, by rw [a2.2.2]; omega⟩ (fun v hv q hne => ?_)) hH'.1
          · obtain ⟨b1, b2, b3, b4⟩ := a5 v (fun h => q ((hV v hv).mp h))
            obtain ⟨g1, g2, g3, g4⟩ := hHt2 v hv
            refine ⟨by simp [q], ?_, by rw [b2, g2], by rw [b3, g3]⟩
            rw [b4, g4]; omega
          · obtain ⟨p, y, p1, p2, p3, p4, p5, p6, p7⟩ := a4 v ((hV v hv).mpr q) hne
            obtain ⟨-, -, y3, y4⟩ := th_lt hG p2
            have hpn : p < n := by rcases p7 with ⟨-, rfl⟩ | ⟨-, rfl⟩ <;> assumption
            refine ⟨p, y, hpn, (hV p hpn).mp p1, ⟨p2, p3⟩, p4, p5, ?_, p7⟩
            obtain ⟨-, d, -, d3⟩ := a3 p p1
            rw [p6, d3]; omega
      have ra := hF.1.root_lt x3
      have rb := hF.1.root_lt x4
      have dl := hF.1.dp_lt x3
      have dl2 := hF.1.dp_lt x4
      obtain ⟨g1, g2, g3, g4⟩ := hHt2 (fs x) x3
      obtain ⟨h1, h2, h3, h4⟩ := hHt2 (sn x) x4
      by_cases hlt : rt (fs x) < rt (sn x)
      · have hlt2 : (rt (fs x) : Int) < rt (sn x) := by omega
        simp only [wpS_skip, wpS_break, wpS_cont, wpS_retV, wpS_throw, wpS_seq, wpS_if, wpS_trunc, yS_let, yS_inc, kgK_i, kgK_r, kok_nil, kok_i0, kok_is, kok_r0, kok_rs, kok_n0, kok_ns, xS_put, xS_putOp, xS_ast0, xS_ast1, xS_astOp, wpS_E, wpS_call, wpS_callS, wpS_ret, kThen_N, kThen_B, kThen_C, kThen_R, kThen_T, kNext_N, kNext_C, kNext_B, kNext_R, wpE_K, wpE_KL, xE_I, xE_R, wpE_J, xE_bin, wpE_ladd, wpE_i2l, xE_get, xE_ald0, xE_ald1, wpE_if, xE_max, xE_min, wpE_len, wpA_nil, wpA_snoc, xE_call, xE_callS, xC_C, xC_L, xC_Z, wpC_and, wpC_or, wpC_not, wpC_if, kcmp_0, kcmp_1, kcmp_2, kcmp_3, kcmp_4, kcmp_5, rR_inj, kgO_some, kgO_add, kgO_sub, kgO_mul, kgO_div, kgO_rem, kgO_and, kvI_inl, kvJ_inl, kgI_0, kgI_s, kgR_0, kgR_s, kst_nil, kst_0, kst_s, kNLl_nil, kNLl_i, kNLl_r, kNLl_n, ktag_i, ktag_r, List.length_cons, List.length_nil, List.take_succ_cons, List.take_zero, List.take_nil, List.nil_append, List.cons_append, decide_eq_true_eq, Bool.not_eq_true, Bool.not_eq_true', decide_eq_false_iff_not, ne_eq, Decidable.not_not, true_and, and_true, Nat.reduceAdd, Nat.reduceLeDiff, Nat.reduceEqDiff, Nat.le_refl, not_true_eq_false, not_false_eq_true, reduceIte, eq_self, Int.reduceNeg, Int.reduceEq, Int.reduceLT, Int.reduceLE, Nat.zero_le, Nat.one_ne_zero, ev_trees, ev_trees_arr, Int.toNat_natCast, e24, g1, h1, g4, h4, hlt2, decide_true, decide_false, Bool.false_eq_true, if_true, if_false, true_and, and_true, not_true_eq_false, not_false_eq_true]
        repeat refine And.intro (by omega) ?_
        refine (hang (sn x) (fs x) x4 x3 hlt (Or.inr ⟨rfl, rfl⟩)).mono ?_
        rintro r s ⟨rfl, h⟩
        refine ⟨rfl, ?_⟩
        rw [hQ2, hQ0]
        exact kThen_N.mpr (wpS_retV.mpr ⟨none, rfl, rfl, rfl, h⟩)
      · have hlt2 : ¬ (rt (fs x) : Int) < rt (sn x) := by omega
        simp only [wpS_skip, wpS_break, wpS_cont, wpS_retV, wpS_throw, wpS_seq, wpS_if, wpS_trunc, yS_let, yS_inc, kgK_i, kgK_r, kok_nil, kok_i0, kok_is, kok_r0, kok_rs, kok_n0, kok_ns, xS_put, xS_putOp, xS_ast0, xS_ast1, xS_astOp, wpS_E, wpS_call, wpS_callS, wpS_ret, kThen_N, kThen_B, kThen_C, kThen_R, kThen_T, kNext_N, kNext_C, kNext_B, kNext_R, wpE_K, wpE_KL, xE_I, xE_R, wpE_J, xE_bin, wpE_ladd, wpE_i2l, xE_get, xE_ald0, xE_ald1, wpE_if, xE_max, xE_min, wpE_len, wpA_nil, wpA_snoc, xE_call, xE_callS, xC_C, xC_L, xC_Z, wpC_and, wpC_or, wpC_not, wpC_if, kcmp_0, kcmp_1, kcmp_2, kcmp_3, kcmp_4, kcmp_5, rR_inj, kgO_some, kgO_add, kgO_sub, kgO_mul, kgO_div, kgO_rem, kgO_and, kvI_inl, kvJ_inl, kgI_0, kgI_s, kgR_0, kgR_s, kst_nil, kst_0, kst_s, kNLl_nil, kNLl_i, kNLl_r, kNLl_n, ktag_i, ktag_r, List.length_cons, List.length_nil, List.take_succ_cons, List.take_zero, List.take_nil, List.nil_append, List.cons_append, decide_eq_true_eq, Bool.not_eq_true, Bool.not_eq_true', decide_eq_false_iff_not, ne_eq, Decidable.not_not, true_and, and_true, Nat.reduceAdd, Nat.reduceLeDiff, Nat.reduceEqDiff, Nat.le_refl, not_true_eq_false, not_false_eq_true, reduceIte, eq_self, Int.reduceNeg, Int.reduceEq, Int.reduceLT, Int.reduceLE, Nat.zero_le, Nat.one_ne_zero, ev_trees, ev_trees_arr, Int.toNat_natCast, e24, g1, h1, g4, h4, hlt2, decide_true, decide_false, Bool.false_eq_true, if_true, if_false, true_and, and_true, not_true_eq_false, not_false_eq_true]
        repeat refine And.intro (by omega) ?_
        refine (hang (fs x) (sn x) x3 x4 (by omega) (Or.inl ⟨rfl, rfl⟩)).mono ?_
        rintro r s ⟨rfl, h⟩
        refine ⟨rfl, ?_⟩
        rw [hQ2, hQ0]
        exact kThen_N.mpr (wpS_retV.mpr ⟨none, rfl, rfl, rfl, h⟩)
  by_cases e : rt (fs x) = rt (sn x)
  · rw [if_pos e] at htv
    rw [htv] at key
    simp only [wpS_skip, wpS_break, wpS_cont, wpS_retV, wpS_throw, wpS_seq, wpS_if, wpS_trunc, yS_let, yS_inc, kgK_i, kgK_r, kok_nil, kok_i0, kok_is, kok_r0, kok_rs, kok_n0, kok_ns, xS_put, xS_putOp, xS_ast0, xS_ast1, xS_astOp, wpS_E, wpS_call, wpS_callS, wpS_ret, kThen_N, kThen_B, kThen_C, kThen_R, kThen_T, kNext_N, kNext_C, kNext_B, kNext_R, wpE_K, wpE_KL, xE_I, xE_R, wpE_J, xE_bin, wpE_ladd, wpE_i2l, xE_get, xE_ald0, xE_ald1, wpE_if, xE_max, xE_min, wpE_len, wpA_nil, wpA_snoc, xE_call, xE_callS, xC_C, xC_L, xC_Z, wpC_and, wpC_or, wpC_not, wpC_if, kcmp_0, kcmp_1, kcmp_2, kcmp_3, kcmp_4, kcmp_5, rR_inj, kgO_some, kgO_add, kgO_sub, kgO_mul, kgO_div, kgO_rem, kgO_and, kvI_inl, kvJ_inl, kgI_0, kgI_s, kgR_0, kgR_s, kst_nil, kst_0, kst_s, kNLl_nil, kNLl_i, kNLl_r, kNLl_n, ktag_i, ktag_r, List.length_cons, List.length_nil, List.take_succ_cons, List.take_zero, List.take_nil, List.nil_append, List.cons_append, decide_eq_true_eq, Bool.not_eq_true, Bool.not_eq_true', decide_eq_false_iff_not, ne_eq, Decidable.not_not, true_and, and_true, Nat.reduceAdd, Nat.reduceLeDiff, Nat.reduceEqDiff, Nat.le_refl, not_true_eq_false, not_false_eq_true, reduceIte, eq_self, Int.reduceNeg, Int.reduceEq, Int.reduceLT, Int.reduceLE, Nat.zero_le, Nat.one_ne_zero, e, decide_true, decide_false, Bool.false_eq_true, if_true, if_false, true_and, and_true, not_true_eq_false, not_false_eq_true]
    repeat refine And.intro (by omega) ?_
    simp only [true_or, true_and]
    exact key
  · rw [if_neg e] at htv
    rw [htv] at key
    simp only [wpS_skip, wpS_break, wpS_cont, wpS_retV, wpS_throw, wpS_seq, wpS_if, wpS_trunc, yS_let, yS_inc, kgK_i, kgK_r, kok_nil, kok_i0, kok_is, kok_r0, kok_rs, kok_n0, kok_ns, xS_put, xS_putOp, xS_ast0, xS_ast1, xS_astOp, wpS_E, wpS_call, wpS_callS, wpS_ret, kThen_N, kThen_B, kThen_C, kThen_R, kThen_T, kNext_N, kNext_C, kNext_B, kNext_R, wpE_K, wpE_KL, xE_I, xE_R, wpE_J, xE_bin, wpE_ladd, wpE_i2l, xE_get, xE_ald0, xE_ald1, wpE_if, xE_max, xE_min, wpE_len, wpA_nil, wpA_snoc, xE_call, xE_callS, xC_C, xC_L, xC_Z, wpC_and, wpC_or, wpC_not, wpC_if, kcmp_0, kcmp_1, kcmp_2, kcmp_3, kcmp_4, kcmp_5, rR_inj, kgO_some, kgO_add, kgO_sub, kgO_mul, kgO_div, kgO_rem, kgO_and, kvI_inl, kvJ_inl, kgI_0, kgI_s, kgR_0, kgR_s, kst_nil, kst_0, kst_s, kNLl_nil, kNLl_i, kNLl_r, kNLl_n, ktag_i, ktag_r, List.length_cons, List.length_nil, List.take_succ_cons, List.take_zero, List.take_nil, List.nil_append, List.cons_append, decide_eq_true_eq, Bool.not_eq_true, Bool.not_eq_true', decide_eq_false_iff_not, ne_eq, Decidable.not_not, true_and, and_true, Nat.reduceAdd, Nat.reduceLeDiff, Nat.reduceEqDiff, Nat.le_refl, not_true_eq_false, not_false_eq_true, reduceIte, eq_self, Int.reduceNeg, Int.reduceEq, Int.reduceLT, Int.reduceLE, Nat.zero_le, Nat.one_ne_zero, e, decide_true, decide_false, Bool.false_eq_true, if_true, if_false, true_and, and_true, not_true_eq_false, not_false_eq_true]
    repeat refine And.intro (by omega) ?_
    simp only [or_true, true_and]
    exact key
end T3
