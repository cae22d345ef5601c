/-! BRIDGES -/
section BR
variable {σ : kS} {n c ar : Nat} {li fs sn lv : Nat → Nat} {tr lo : Nat → Int} {rt dp : Nat → Nat} {pa up : Nat → Int}
theorem FO.climbBut {A : Nat → Prop} (h : FO n A fs sn rt dp pa up) {w x : Nat} (hw : w < n) (hx : up w = (x : Int)) : ∀ {k a : Nat}, a < n → k ≤ dp a → (∀ j, j < k → clb pa j a ≠ w) → rch (uE (fun y => A y ∧ y ≠ x) fs sn) a (clb pa k a) := by
  intro k
  induction k with
  | zero => intro a _ _ _; exact rch.rfl' _
  | succ k ih =>
    intro a ha hk hj
    have i1 := ih ha (by omega) (fun j q => hj j (by omega))
    have c1 := h.1.climb ha (show k ≤ dp a by omega)
    have hne := hj k (by omega)
    obtain ⟨y, hy⟩ : ∃ y, y = clb pa k a := ⟨_, rfl⟩
    rw [clb_succ]
    rw [← hy] at i1 c1 hne ⊢
    rcases (h.1.1 y c1.1).2.2 with q | ⟨-, z, p, q1, q2, q3, q4, q5, q6, q7⟩
    · omega
    · rw [q3]
      refine i1.snoc ⟨z, ⟨q1, fun e => hne ?_⟩, q7.imp (fun t => t) (fun t => t)⟩
      rcases (h.1.1 w hw).2.2 with r | ⟨-, z', p', r1, r2, r3, r4, r5, r6, r7⟩
      · omega
      · have e3 : z' = z := by omega
        subst e3
        rcases q7 with ⟨s1, s2⟩ | ⟨s1, s2⟩ <;> rcases r7 with ⟨t1, t2⟩ | ⟨t1, t2⟩
        · omega
        · exfalso
          have a1 : y = p' := by omega
          have a2 : w = p := by omega
          rw [a1] at q6; rw [a2] at r6; omega
        · exfalso
          have a1 : y = p' := by omega
          have a2 : w = p := by omega
          rw [a1] at q6; rw [a2] at r6; omega
        · omega
theorem FO.sameSide {A : Nat → Prop} (h : FO n A fs sn rt dp pa up) {w x a b : Nat} (hw : w < n) (hx : up w = (x : Int)) (ha : a < n) (hb : b < n) (hr : rt a = rt b) (hs : sub dp pa w a ↔ sub dp pa w b) : rch (uE (fun y => A y ∧ y ≠ x) fs sn) a b := by
  have dn : ∀ a, a < n → sub dp pa w a → rch (uE (fun y => A y ∧ y ≠ x) fs sn) a w := by
    intro a ha ⟨s1, s2⟩
    have := h.climbBut hw hx ha (show dp a - dp w ≤ dp a by omega) (fun j hj e => by
      have := (h.1.climb ha (show j ≤ dp a by omega)).2.1
      rw [e] at this; omega)
    rw [s2] at this
    exact this
  have upw : ∀ a, a < n → ¬ sub dp pa w a → rch (uE (fun y => A y ∧ y ≠ x) fs sn) a (rt a) := by
    intro a ha hn
    have := h.climbBut hw hx ha (Nat.le_refl (dp a)) (fun j hj e => hn (by rw [← e]; exact h.1.sub_climb ha (by omega)))
    rw [h.1.top ha] at this
    exact this
  by_cases e : sub dp pa w a
  · exact (dn a ha e).trans (uE.rsymm (dn b hb (hs.mp e)))
  · have t := upw b hb (fun q => e (hs.mpr q))
    rw [← hr] at t
    exact (upw a ha e).trans (uE.rsymm t)
theorem parted (hF : FO n (fun x => th c li x ∧ tr x ≠ 0) fs sn rt dp pa up) {w x a b : Nat} (hw : w < n) (hx : up w = (x : Int)) (hc : ¬ cov li fs sn dp tr pa c w) (hr : rch (uE (fun y => th c li y ∧ y ≠ x) fs sn) a b) : sub dp pa w a ↔ sub dp pa w b := by
  refine hF.cut hw hx (fun y hy => ⟨hy.2, ?_⟩) hr
  by_cases e : tr y = 0
  · refine Or.inr ?_
    obtain ⟨⟨k, k1, k2⟩, -⟩ := hy
    have : ¬ parts dp pa (fs y) (sn y) w := fun q => hc ⟨k, k1, by rw [k2]; exact e, by rw [k2]; exact q⟩
    unfold parts at this
    refine ⟨fun h => Classical.byContradiction fun q => this (Or.inl ⟨h, q⟩), fun h => Classical.byContradiction fun q => this (Or.inr ⟨h, q⟩)⟩
  · exact Or.inl ⟨hy.1, e⟩
theorem covered (hG : gOk n c ar li fs sn) (hF : FO n (fun x => th c li x ∧ tr x ≠ 0) fs sn rt dp pa up) (hH : ∀ x, th c li x → rt (fs x) = rt (sn x)) {w x a b : Nat} (hw : w < n) (hx : up w = (x : Int)) (htx : tr x ≠ 0) (hc : cov li fs sn dp tr pa c w) (ha : a < n) (hb : b < n) (hr : rt a = rt b) (hrw : rt a = rt w) : rch (uE (fun y => th c li y ∧ y ≠ x) fs sn) a b := by
  have mono : ∀ {u v}, rch (uE (fun y => (th c li y ∧ tr y ≠ 0) ∧ y ≠ x) fs sn) u v → rch (uE (fun y => th c li y ∧ y ≠ x) fs sn) u v := fun h => h.mono (fun _ _ => uE.mono (fun y hy => ⟨hy.1.1, hy.2⟩))
  by_cases e : sub dp pa w a ↔ sub dp pa w b
  · exact mono (hF.sameSide hw hx ha hb hr e)
  · obtain ⟨j, j1, j2, j3⟩ := hc
    obtain ⟨y, hy⟩ : ∃ y, y = li j := ⟨_, rfl⟩
    rw [← hy] at j2 j3
    have hyt : th c li y := ⟨j, j1, hy.symm⟩
    obtain ⟨-, -, y3, y4⟩ := th_lt hG hyt
    have hyx : y ≠ x := fun q => htx (by rw [← q]; exact j2)
    have hyr := hH y hyt
    have subrt : ∀ u, u < n → sub dp pa w u → rt u = rt w := fun u hu ⟨s1, s2⟩ => by
      have := (hF.1.climb hu (show dp u - dp w ≤ dp u by omega)).2.2
      rw [s2] at this; exact this.symm
    have hyw : rt (fs y) = rt w := by
      rcases j3 with ⟨q, -⟩ | ⟨q, -⟩
      · exact subrt _ y3 q
      · rw [hyr]; exact subrt _ y4 q
    have hE : rch (uE (fun y => th c li y ∧ y ≠ x) fs sn) (fs y) (sn y) := rch.one (uE.of (A := fun y => th c li y ∧ y ≠ x) ⟨hyt, hyx⟩)
    by_cases s1 : sub dp pa w a ↔ sub dp pa w (fs y)
    · have s2 : sub dp pa w (sn y) ↔ sub dp pa w b := by
        unfold parts at j3
        by_cases p1 : sub dp pa w a <;> by_cases p2 : sub dp pa w b <;> by_cases p3 : sub dp pa w (fs y) <;> by_cases p4 : sub dp pa w (sn y) <;> simp [p1, p2, p3, p4] at e s1 j3 ⊢
      exact ((mono (hF.sameSide hw hx ha y3 (by omega) s1)).trans hE).trans (mono (hF.sameSide hw hx y4 hb (by omega) s2))
    · have s2 : sub dp pa w a ↔ sub dp pa w (sn y) := by
        unfold parts at j3
        by_cases p1 : sub dp pa w a <;> by_cases p2 : sub dp pa w b <;> by_cases p3 : sub dp pa w (fs y) <;> by_cases p4 : sub dp pa w (sn y) <;> simp [p1, p2, p3, p4] at e s1 j3 ⊢
      have s3 : sub dp pa w (fs y) ↔ sub dp pa w b := by
        by_cases p1 : sub dp pa w a <;> by_cases p2 : sub dp pa w b <;> by_cases p3 : sub dp pa w (fs y) <;> simp [p1, p2, p3] at e s1 ⊢
      exact ((mono (hF.sameSide hw hx ha y4 (by omega) s2)).trans (uE.rsymm hE)).trans (mono (hF.sameSide hw hx y3 hb (by omega) s3))
theorem brg_iff (hG : gOk n c ar li fs sn) (hF : FO n (fun x => th c li x ∧ tr x ≠ 0) fs sn rt dp pa up) (hH : ∀ x, th c li x → rt (fs x) = rt (sn x)) {x : Nat} (hx : th c li x) : brg c li fs sn x ↔ ∃ w, w < n ∧ up w = (x : Int) ∧ ¬ cov li fs sn dp tr pa c w := by
  obtain ⟨-, -, x3, x4⟩ := th_lt hG hx
  constructor
  · rintro ⟨h1, h2⟩
    have htx : tr x ≠ 0 := by
      intro e
      refine h2 (((hF.1.rch_iff x3 x4).mpr (hH x hx)).mono (fun _ _ => uE.mono (fun y hy => ⟨hy.1, fun q => hy.2 (by rw [q]; exact e)⟩)))
    obtain ⟨w, w1, w2, w3⟩ := hF.2 x ⟨hx, htx⟩
    refine ⟨w, w1, w3, fun hc => h2 (covered hG hF hH w1 w3 htx hc x3 x4 (hH x hx) ?_)⟩
    rcases (hF.1.1 w w1).2.2 with q | ⟨-, y, p, q1, q2, q3, q4, q5, q6, q7⟩
    · omega
    · have : y = x := by omega
      subst this
      rcases q7 with ⟨t1, t2⟩ | ⟨t1, t2⟩
      · rw [t1]
      · rw [hH y hx, t1]
  · rintro ⟨w, w1, w3, hc⟩
    rcases (hF.1.1 w w1).2.2 with q | ⟨-, y, p, q1, q2, q3, q4, q5, q6, q7⟩
    · omega
    · have : y = x := by omega
      subst this
      have ns : ¬ sub dp pa w p := fun q => by have := q.1; omega
      have hd : fs y ≠ sn y := by
        intro e
        have : w = p := by omega
        rw [this] at q6; omega
      refine ⟨hd, fun hr => ?_⟩
      have := parted hF w1 w3 hc hr
      rcases q7 with ⟨t1, t2⟩ | ⟨t1, t2⟩
      · rw [t1, t2] at this; exact ns (this.mp (sub.refl w))
      · rw [t1, t2] at this; exact ns (this.mpr (sub.refl w))
end BR
