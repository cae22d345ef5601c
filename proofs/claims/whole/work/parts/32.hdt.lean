/-! LEVELS: what a tree arc that goes leaves, and the arc that comes for it -/
/-- all that a node reaches by tree arcs of level i and more -/
def sd (W : Nat → Prop) (fs sn lv : Nat → Nat) (tr : Nat → Int) (i v0 v : Nat) : Prop := rch (uE (fun x => W x ∧ tA lv tr (i : Int) x) fs sn) v0 v
def Hd (n : Nat) (W : Nat → Prop) (fs sn lv : Nat → Nat) (tr : Nat → Int) : Prop :=
  Ac (fun x => W x ∧ tr x ≠ 0) fs sn ∧ (∀ x, W x → sd W fs sn lv tr (lv x) (fs x) (sn x)) ∧ (∀ (i x : Nat), W x → tA lv tr (i : Int) x → cntP (sd W fs sn lv tr i (fs x)) n ≤ n / 2 ^ i)
/-- with an arc more: it was reached before, or by that arc -/
theorem rch_add {B : Nat → Prop} {fs sn : Nat → Nat} {z u v : Nat} (h : rch (uE (fun x => B x ∨ x = z) fs sn) u v) :
    rch (uE B fs sn) u v ∨ (rch (uE B fs sn) u (fs z) ∧ rch (uE B fs sn) (sn z) v) ∨ (rch (uE B fs sn) u (sn z) ∧ rch (uE B fs sn) (fs z) v) := by
  refine rch.closed (S := fun v => rch (uE B fs sn) u v ∨ (rch (uE B fs sn) u (fs z) ∧ rch (uE B fs sn) (sn z) v) ∨ (rch (uE B fs sn) u (sn z) ∧ rch (uE B fs sn) (fs z) v)) ?_ (Or.inl (rch.rfl' _)) h
  rintro a b ha ⟨y, hy, hy2⟩
  rcases hy with hy | rfl
  · have e : uE B fs sn a b := ⟨y, hy, hy2⟩
    rcases ha with k | ⟨k1, k2⟩ | ⟨k1, k2⟩
    · exact Or.inl (k.snoc e)
    · exact Or.inr (Or.inl ⟨k1, k2.snoc e⟩)
    · exact Or.inr (Or.inr ⟨k1, k2.snoc e⟩)
  · rcases hy2 with ⟨rfl, rfl⟩ | ⟨rfl, rfl⟩ <;> rcases ha with k | ⟨k1, k2⟩ | ⟨k1, k2⟩
    · exact Or.inr (Or.inl ⟨k, rch.rfl' _⟩)
    · exact Or.inr (Or.inl ⟨k1, rch.rfl' _⟩)
    · exact Or.inl k1
    · exact Or.inr (Or.inr ⟨k, rch.rfl' _⟩)
    · exact Or.inl k1
    · exact Or.inr (Or.inr ⟨k1, rch.rfl' _⟩)
section SD
variable {W : Nat → Prop} {fs sn lv : Nat → Nat} {tr : Nat → Int}
theorem sd.refl {i v : Nat} : sd W fs sn lv tr i v v := rch.rfl' v
theorem sd.symm {i u v : Nat} (h : sd W fs sn lv tr i u v) : sd W fs sn lv tr i v u := uE.rsymm h
theorem sd.trans {i u v w : Nat} (h : sd W fs sn lv tr i u v) (h2 : sd W fs sn lv tr i v w) : sd W fs sn lv tr i u w := rch.trans h h2
theorem sd.mono {W2 : Nat → Prop} {lv2 : Nat → Nat} {tr2 : Nat → Int} {i j u v : Nat} (h : sd W fs sn lv tr i u v) (hm : ∀ x, W x → tA lv tr (i : Int) x → W2 x ∧ tA lv2 tr2 (j : Int) x) : sd W2 fs sn lv2 tr2 j u v :=
  rch.mono (fun _ _ => uE.mono (fun x hx => hm x hx.1 hx.2)) h
theorem sd.down {i j u v : Nat} (h : sd W fs sn lv tr i u v) (hj : j ≤ i) : sd W fs sn lv tr j u v := h.mono (fun x h1 h2 => ⟨h1, h2.1, by have := h2.2; omega⟩)
theorem sd.arc {i x : Nat} (h1 : W x) (h2 : tA lv tr (i : Int) x) : sd W fs sn lv tr i (fs x) (sn x) := rch.one (uE.of ⟨h1, h2⟩)
end SD
/-- what holds between two stages: a0 and b0 are parted, arcs over that gap have no level above i -/
def Sg (n : Nat) (W : Nat → Prop) (fs sn lv : Nat → Nat) (tr : Nat → Int) (a0 b0 : Nat) (i : Nat) : Prop :=
  Ac (fun x => W x ∧ tr x ≠ 0) fs sn ∧ ¬ rch (uE (fun x => W x ∧ tr x ≠ 0) fs sn) a0 b0 ∧
  (∀ x, W x → sd W fs sn lv tr (lv x) (fs x) (sn x) ∨ (lv x < i ∧ ((sd W fs sn lv tr (lv x) a0 (fs x) ∧ sd W fs sn lv tr (lv x) b0 (sn x)) ∨ (sd W fs sn lv tr (lv x) b0 (fs x) ∧ sd W fs sn lv tr (lv x) a0 (sn x))))) ∧
  (∀ (j x : Nat), W x → tA lv tr (j : Int) x → cntP (sd W fs sn lv tr j (fs x)) n ≤ n / 2 ^ j) ∧
  (∀ j, j < i → cntP (sd W fs sn lv tr j a0) n + cntP (sd W fs sn lv tr j b0) n ≤ n / 2 ^ j)
theorem sd_all {W : Nat → Prop} {fs sn lv : Nat → Nat} {tr : Nat → Int} {i u v : Nat} (h : sd W fs sn lv tr i u v) : rch (uE (fun x => W x ∧ tr x ≠ 0) fs sn) u v := rch.mono (fun _ _ => uE.mono (fun _ hx => ⟨hx.1, hx.2.1⟩)) h
theorem Sg_start {n : Nat} {W W' : Nat → Prop} {fs sn lv : Nat → Nat} {tr : Nat → Int} {x0 : Nat} (h : Hd n W fs sn lv tr) (h0 : W x0) (ht : tr x0 ≠ 0) (hW : ∀ x, W' x ↔ W x ∧ x ≠ x0) :
    Sg n W' fs sn lv tr (fs x0) (sn x0) (lv x0 + 1) := by
  obtain ⟨h1, h2, h3⟩ := h
  have hcut : ¬ rch (uE (fun x => W' x ∧ tr x ≠ 0) fs sn) (fs x0) (sn x0) := fun q => h1 x0 ⟨h0, ht⟩ (q.mono (fun _ _ => uE.mono (fun x hx => ⟨⟨((hW x).mp hx.1).1, hx.2⟩, ((hW x).mp hx.1).2⟩)))
  -- with the arc that goes
  have add : ∀ (j u v : Nat), sd W fs sn lv tr j u v → sd W' fs sn lv tr j u v ∨ (j ≤ lv x0 ∧ ((sd W' fs sn lv tr j u (fs x0) ∧ sd W' fs sn lv tr j (sn x0) v) ∨ (sd W' fs sn lv tr j u (sn x0) ∧ sd W' fs sn lv tr j (fs x0) v))) := by
    intro j u v hr
    by_cases hj : j ≤ lv x0
    · have hr2 : rch (uE (fun x => (W' x ∧ tA lv tr (j : Int) x) ∨ x = x0) fs sn) u v := rch.mono (fun _ _ => uE.mono (fun x hx => by
        by_cases e : x = x0
        · exact Or.inr e
        · exact Or.inl ⟨(hW x).mpr ⟨hx.1, e⟩, hx.2⟩)) hr
      rcases rch_add hr2 with k | k
      · exact Or.inl k
      · exact Or.inr ⟨hj, k⟩
    · left
      exact hr.mono (fun x q1 q2 => ⟨(hW x).mpr ⟨q1, fun e => by have := q2.2; rw [e] at this; omega⟩, q2⟩)
  refine ⟨h1.mono (fun x hx => ⟨((hW x).mp hx.1).1, hx.2⟩), hcut, fun x hx => ?_, fun j x hx hA => ?_, fun j hj => ?_⟩
  · rcases add _ _ _ (h2 x ((hW x).mp hx).1) with k | ⟨k0, ⟨k1, k2⟩ | ⟨k1, k2⟩⟩
    · exact Or.inl k
    · exact Or.inr ⟨by omega, Or.inl ⟨k1.symm, k2⟩⟩
    · exact Or.inr ⟨by omega, Or.inr ⟨k1.symm, k2⟩⟩
  · refine Nat.le_trans (cntP_le (fun v _ hv => ?_)) (h3 j x ((hW x).mp hx).1 hA)
    exact sd.mono hv (fun y q1 q2 => ⟨((hW y).mp q1).1, q2⟩)
  · have hx0 : tA lv tr (j : Int) x0 := ⟨ht, by omega⟩
    refine Nat.le_trans ?_ (h3 j x0 h0 hx0)
    rw [← cntP_sum (fun v _ q => hcut ((sd_all q.1).trans (uE.rsymm (sd_all q.2))))]
    refine cntP_le (fun v _ hv => ?_)
    have up : ∀ u, sd W' fs sn lv tr j u v → sd W fs sn lv tr j u v := fun u q => q.mono (fun y q1 q2 => ⟨((hW y).mp q1).1, q2⟩)
    rcases hv with hv | hv
    · exact up _ hv
    · exact (sd.arc h0 hx0).trans (up _ hv)
/-- the lesser side and the other one -/
noncomputable def lesS (n : Nat) (W : Nat → Prop) (fs sn lv : Nat → Nat) (tr : Nat → Int) (a0 b0 i : Nat) : Nat := @ite _ (cntP (sd W fs sn lv tr i a0) n ≤ cntP (sd W fs sn lv tr i b0) n) (Classical.propDecidable _) a0 b0
noncomputable def othS (n : Nat) (W : Nat → Prop) (fs sn lv : Nat → Nat) (tr : Nat → Int) (a0 b0 i : Nat) : Nat := @ite _ (cntP (sd W fs sn lv tr i a0) n ≤ cntP (sd W fs sn lv tr i b0) n) (Classical.propDecidable _) b0 a0
/-- tree arcs of the lesser side rise -/
noncomputable def rse (W : Nat → Prop) (fs sn lv : Nat → Nat) (tr : Nat → Int) (L : Nat → Prop) (i x : Nat) : Nat := @ite _ (W x ∧ tr x ≠ 0 ∧ lv x = i ∧ L (fs x) ∧ L (sn x)) (Classical.propDecidable _) (lv x + 1) (lv x)
/-- an arc that is looked at for the gap; one that closes it -/
def cnd (fs sn lv : Nat → Nat) (tr : Nat → Int) (L : Nat → Prop) (i x : Nat) : Prop := tr x = 0 ∧ lv x = i ∧ (L (fs x) ∨ L (sn x))
def crs (fs sn : Nat → Nat) (R : Nat → Prop) (x : Nat) : Prop := R (fs x) ∨ R (sn x)
def hasK (c : Nat) (li fs sn lv : Nat → Nat) (tr : Nat → Int) (L R : Nat → Prop) (i k : Nat) : Prop := k < c ∧ cnd fs sn lv tr L i (li k) ∧ crs fs sn R (li k)
noncomputable def rs2 (c : Nat) (li fs sn lv : Nat → Nat) (tr : Nat → Int) (L R : Nat → Prop) (i K x : Nat) : Nat := @ite _ (∃ k, k < K ∧ k < c ∧ li k = x ∧ cnd fs sn lv tr L i x ∧ ∀ j, j ≤ k → ¬ hasK c li fs sn lv tr L R i j) (Classical.propDecidable _) (lv x + 1) (lv x)
noncomputable def tr2 (c : Nat) (li fs sn lv : Nat → Nat) (tr : Nat → Int) (L R : Nat → Prop) (i x : Nat) : Int := @ite _ (∃ k, hasK c li fs sn lv tr L R i k ∧ (∀ j, j < k → ¬ hasK c li fs sn lv tr L R i j) ∧ li k = x) (Classical.propDecidable _) 1 (tr x)
theorem sd_class {W : Nat → Prop} {fs sn lv : Nat → Nat} {tr : Nat → Int} {i l u v : Nat} (h : sd W fs sn lv tr i l u) : sd W fs sn lv tr i l v ↔ sd W fs sn lv tr i u v := ⟨fun q => h.symm.trans q, fun q => h.trans q⟩
theorem half_pow {n i m : Nat} (h : m + m ≤ n / 2 ^ i) : m ≤ n / 2 ^ (i + 1) := by
  rw [Nat.pow_succ, ← Nat.div_div_eq_div_mul]
  omega
theorem Sg_stage {n c i a0 b0 : Nat} {li fs sn lv : Nat → Nat} {tr : Nat → Int} {l0 r0 : Nat} {L R : Nat → Prop} {W : Nat → Prop} (hW : ∀ x, W x ↔ th c li x) (h : Sg n W fs sn lv tr a0 b0 (i + 1))
    (hl : (l0 = a0 ∧ r0 = b0) ∨ (l0 = b0 ∧ r0 = a0)) (hle : cntP (sd W fs sn lv tr i l0) n ≤ cntP (sd W fs sn lv tr i r0) n) (hL : L = sd W fs sn lv tr i l0) (hR : R = sd W fs sn lv tr i r0)
    {lw : Nat → Nat} (hlw : lw = rs2 c li fs sn (rse W fs sn lv tr L i) tr L R i c) :
    ((∀ k, ¬ hasK c li fs sn (rse W fs sn lv tr L i) tr L R i k) → Sg n W fs sn lw tr a0 b0 i) ∧
    (∀ k, hasK c li fs sn (rse W fs sn lv tr L i) tr L R i k → (∀ j, j < k → ¬ hasK c li fs sn (rse W fs sn lv tr L i) tr L R i j) → Hd n W fs sn lw (tr2 c li fs sn (rse W fs sn lv tr L i) tr L R i)) ∧ (∀ x, lw x ≤ lv x + 1) := by
  obtain ⟨g1, g2, g3, g4, g5⟩ := h
  obtain ⟨l1, hl1⟩ : ∃ l1, l1 = rse W fs sn lv tr L i := ⟨_, rfl⟩
  rw [← hl1] at hlw ⊢
  have hpart : ¬ rch (uE (fun x => W x ∧ tr x ≠ 0) fs sn) l0 r0 := by
    rcases hl with ⟨rfl, rfl⟩ | ⟨rfl, rfl⟩
    · exact g2
    · exact fun q => g2 (uE.rsymm q)
  have hLR : ∀ v, ¬ (L v ∧ R v) := by
    rintro v ⟨q1, q2⟩
    rw [hL] at q1; rw [hR] at q2
    exact hpart ((sd_all q1).trans (uE.rsymm (sd_all q2)))
  have hcl : ∀ u v, L u → (L v ↔ sd W fs sn lv tr i u v) := by
    intro u v hu
    rw [hL] at hu ⊢
    exact sd_class hu
  -- levels
  have r1 : ∀ x, (l1 x = lv x ∧ ¬ (W x ∧ tr x ≠ 0 ∧ lv x = i ∧ L (fs x) ∧ L (sn x))) ∨ (l1 x = lv x + 1 ∧ W x ∧ tr x ≠ 0 ∧ lv x = i ∧ L (fs x) ∧ L (sn x)) := by
    intro x
    rw [hl1]
    unfold rse
    split
    · rename_i q; exact Or.inr ⟨rfl, q⟩
    · rename_i q; exact Or.inl ⟨rfl, q⟩
  have r2 : ∀ x, (lw x = l1 x) ∨ (lw x = l1 x + 1 ∧ cnd fs sn l1 tr L i x ∧ ¬ crs fs sn R x) := by
    intro x
    rw [hlw]
    unfold rs2
    split
    · rename_i q
      obtain ⟨k, k0, k1, rfl, k3, k4⟩ := q
      exact Or.inr ⟨rfl, k3, fun q => k4 k (Nat.le_refl _) ⟨k1, k3, q⟩⟩
    · exact Or.inl rfl
  have t2 : ∀ (j : Nat) x, tA lw tr (j : Int) x ↔ tA l1 tr (j : Int) x := by
    intro j x
    unfold tA
    rcases r2 x with q | ⟨-, q, -⟩
    · rw [q]
    · constructor <;> intro p <;> exact absurd q.1 p.1
  have t1 : ∀ (j : Nat) x, j ≠ i + 1 → (tA l1 tr (j : Int) x ↔ tA lv tr (j : Int) x) := by
    intro j x hj
    unfold tA
    rcases r1 x with ⟨q, -⟩ | ⟨q, -, -, q2, -⟩
    · rw [q]
    · rw [q, q2]
      exact ⟨fun p => ⟨p.1, by have := p.2; omega⟩, fun p => ⟨p.1, by have := p.2; omega⟩⟩
  have t3 : ∀ x, tA lv tr ((i + 1 : Nat) : Int) x → tA l1 tr ((i + 1 : Nat) : Int) x := by
    intro x hx
    refine ⟨hx.1, ?_⟩
    have := hx.2
    rcases r1 x with ⟨q, -⟩ | ⟨q, -⟩ <;> omega
  have e2 : ∀ j u v, sd W fs sn lw tr j u v ↔ sd W fs sn l1 tr j u v := fun j u v => ⟨fun q => q.mono (fun x a b => ⟨a, (t2 j x).mp b⟩), fun q => q.mono (fun x a b => ⟨a, (t2 j x).mpr b⟩)⟩
  have e1 : ∀ j u v, j ≠ i + 1 → (sd W fs sn l1 tr j u v ↔ sd W fs sn lv tr j u v) := fun j u v hj => ⟨fun q => q.mono (fun x a b => ⟨a, (t1 j x hj).mp b⟩), fun q => q.mono (fun x a b => ⟨a, (t1 j x hj).mpr b⟩)⟩
  have e3 : ∀ j u v, j ≤ i → (sd W fs sn lw tr j u v ↔ sd W fs sn lv tr j u v) := fun j u v hj => (e2 j u v).trans (e1 j u v (by omega))
  have up : ∀ j u v, sd W fs sn lv tr j u v → sd W fs sn lw tr j u v := by
    intro j u v q
    rw [e2]
    by_cases hj : j = i + 1
    · subst hj
      exact q.mono (fun x a b => ⟨a, t3 x b⟩)
    · exact (e1 j u v hj).mpr q
  have c1 : ∀ u v, L u → sd W fs sn lv tr i u v → sd W fs sn lw tr (i + 1) u v := by
    intro u v hu hv
    rw [e2]
    refine rch.mono_in hv ?_
    rintro p q hp ⟨x, ⟨x1, x2⟩, x3⟩
    have lp : L p := (hcl u p hu).mpr hp
    have lq : L q := (hcl u q hu).mpr (rch.snoc hp ⟨x, ⟨x1, x2⟩, x3⟩)
    refine ⟨x, ⟨x1, x2.1, ?_⟩, x3⟩
    have := x2.2
    rcases r1 x with ⟨w, w2⟩ | ⟨w, -⟩
    · by_cases hlx : lv x = i
      · exact absurd ⟨x1, x2.1, hlx, by rcases x3 with ⟨rfl, rfl⟩ | ⟨rfl, rfl⟩ <;> exact ⟨by assumption, by assumption⟩⟩ w2
      · omega
    · omega
  have c3 : ∀ u v, L u → sd W fs sn l1 tr (i + 1) u v → L v := by
    intro u v hu hv
    rw [hcl u v hu, ← e1 i u v (by omega)]
    exact hv.down (by omega)
  have c2 : ∀ u v, ¬ L u → sd W fs sn l1 tr (i + 1) u v → sd W fs sn lv tr (i + 1) u v := by
    intro u v hu hv
    refine rch.closed (S := fun v => sd W fs sn lv tr (i + 1) u v) ?_ (rch.rfl' _) hv
    rintro p q hp ⟨x, ⟨x1, x2⟩, x3⟩
    refine rch.snoc hp ⟨x, ⟨x1, x2.1, ?_⟩, x3⟩
    have := x2.2
    rcases r1 x with ⟨w, -⟩ | ⟨w, -, -, -, w4, w5⟩
    · omega
    · exfalso
      have lp : L p := by rcases x3 with ⟨rfl, rfl⟩ | ⟨rfl, rfl⟩ <;> assumption
      exact hu ((hcl p u lp).mpr (hp.down (by omega)).symm)
  have hLn : cntP L n ≤ n / 2 ^ (i + 1) := by
    refine half_pow (Nat.le_trans ?_ (g5 i (by omega)))
    rcases hl with ⟨rfl, rfl⟩ | ⟨rfl, rfl⟩ <;> rw [hL] <;> omega
  -- the bounds of parts
  have s2 : ∀ (j x : Nat), W x → tA lw tr (j : Int) x → cntP (sd W fs sn lw tr j (fs x)) n ≤ n / 2 ^ j := by
    intro j x hx hA
    rw [t2] at hA
    by_cases hj : j = i + 1
    · subst hj
      by_cases hlx : L (fs x)
      · exact Nat.le_trans (cntP_le (fun v _ hv => c3 _ _ hlx ((e2 _ _ _).mp hv))) hLn
      · have hA2 : tA lv tr ((i + 1 : Nat) : Int) x := by
          refine ⟨hA.1, ?_⟩
          have := hA.2
          rcases r1 x with ⟨w, -⟩ | ⟨w, -, -, -, w4, -⟩
          · omega
          · exact absurd w4 hlx
        exact Nat.le_trans (cntP_le (fun v _ hv => c2 _ _ hlx ((e2 _ _ _).mp hv))) (g4 _ x hx hA2)
    · exact Nat.le_trans (cntP_le (fun v _ hv => (e1 _ _ _ hj).mp ((e2 _ _ _).mp hv))) (g4 j x hx ((t1 j x hj).mp hA))
  -- the arcs' ends
  have s1 : ∀ x, W x → sd W fs sn lw tr (lw x) (fs x) (sn x) ∨ (tr x = 0 ∧ lw x = lv x ∧ lv x < i + 1 ∧ ((sd W fs sn lw tr (lw x) a0 (fs x) ∧ sd W fs sn lw tr (lw x) b0 (sn x)) ∨ (sd W fs sn lw tr (lw x) b0 (fs x) ∧ sd W fs sn lw tr (lw x) a0 (sn x)))) := by
    intro x hx
    by_cases ht : tr x = 0
    · have hl1x : l1 x = lv x := by
        rcases r1 x with ⟨q, -⟩ | ⟨-, -, q, -⟩
        · exact q
        · exact absurd ht q
      rcases r2 x with q | ⟨q, q1, q2⟩
      · rcases g3 x hx with k | ⟨k0, k⟩
        · left; rw [q, hl1x]; exact up _ _ _ k
        · right
          rw [q, hl1x]
          exact ⟨ht, rfl, k0, k.imp (fun w => ⟨up _ _ _ w.1, up _ _ _ w.2⟩) (fun w => ⟨up _ _ _ w.1, up _ _ _ w.2⟩)⟩
      · left
        have hi : lv x = i := by rw [← hl1x]; exact q1.2.1
        rw [q, hl1x, hi]
        rcases g3 x hx with k | ⟨k0, k⟩
        · rw [hi] at k
          rcases q1.2.2 with w | w
          · exact c1 _ _ w k
          · exact (c1 _ _ w k.symm).symm
        · exfalso
          rw [hi] at k
          refine q2 ?_
          unfold crs
          rw [hR]
          rcases hl with ⟨rfl, rfl⟩ | ⟨rfl, rfl⟩ <;> rcases k with ⟨k1, k2⟩ | ⟨k1, k2⟩
          · exact Or.inr k2
          · exact Or.inl k1
          · exact Or.inl k1
          · exact Or.inr k2
    · left
      exact sd.arc hx ⟨ht, Int.le_refl _⟩
  refine ⟨fun hno => ⟨g1, g2, fun x hx => ?_, s2, fun j hj => ?_⟩, fun K hK hfirst => ?_, fun x => ?_⟩
  · rcases s1 x hx with k | ⟨k0, k1, k2, k3⟩
    · exact Or.inl k
    · refine Or.inr ⟨?_, k3⟩
      rcases Nat.lt_or_ge (lw x) i with q | q
      · exact q
      · exfalso
        have hi : lw x = i := by omega
        rw [hi] at k3
        have k3' : (sd W fs sn lv tr i a0 (fs x) ∧ sd W fs sn lv tr i b0 (sn x)) ∨ (sd W fs sn lv tr i b0 (fs x) ∧ sd W fs sn lv tr i a0 (sn x)) := k3.imp (fun w => ⟨(e3 _ _ _ (Nat.le_refl _)).mp w.1, (e3 _ _ _ (Nat.le_refl _)).mp w.2⟩) (fun w => ⟨(e3 _ _ _ (Nat.le_refl _)).mp w.1, (e3 _ _ _ (Nat.le_refl _)).mp w.2⟩)
        obtain ⟨k, hk, rfl⟩ := (hW x).mp hx
        refine hno k ⟨hk, ⟨k0, ?_, ?_⟩, ?_⟩
        · rcases r1 (li k) with ⟨q, -⟩ | ⟨-, -, q, -⟩
          · omega
          · exact absurd k0 q
        · rw [hL]
          rcases hl with ⟨rfl, rfl⟩ | ⟨rfl, rfl⟩ <;> rcases k3' with ⟨w1, w2⟩ | ⟨w1, w2⟩
          · exact Or.inl w1
          · exact Or.inr w2
          · exact Or.inr w2
          · exact Or.inl w1
        · unfold crs
          rw [hR]
          rcases hl with ⟨rfl, rfl⟩ | ⟨rfl, rfl⟩ <;> rcases k3' with ⟨w1, w2⟩ | ⟨w1, w2⟩
          · exact Or.inr w2
          · exact Or.inl w1
          · exact Or.inl w1
          · exact Or.inr w2
  · have := g5 j (by omega)
    rw [cntP_congr (fun v _ => e3 j a0 v (by omega)), cntP_congr (fun v _ => e3 j b0 v (by omega))]
    exact this
  · obtain ⟨hKc, hKn, hKx⟩ := hK
    obtain ⟨z, hz⟩ : ∃ z, z = li K := ⟨_, rfl⟩
    rw [← hz] at hKn hKx
    have hzW : W z := (hW z).mpr ⟨K, hKc, hz.symm⟩
    obtain ⟨t', ht'⟩ : ∃ t', t' = tr2 c li fs sn l1 tr L R i := ⟨_, rfl⟩
    rw [← ht']
    have tz : ∀ x, (x = z ∧ t' x = 1) ∨ (x ≠ z ∧ t' x = tr x) := by
      intro x
      rw [ht']
      unfold tr2
      split
      · rename_i q
        obtain ⟨k, k1, k2, k3⟩ := q
        have : k = K := by
          rcases Nat.lt_trichotomy k K with w | w | w
          · exact absurd k1 (hfirst k w)
          · exact w
          · exact absurd ⟨hKc, hz ▸ hKn, hz ▸ hKx⟩ (k2 K w)
        subst this
        exact Or.inl ⟨by rw [hz]; exact k3.symm, rfl⟩
      · rename_i q
        exact Or.inr ⟨fun e => q ⟨K, ⟨hKc, hz ▸ hKn, hz ▸ hKx⟩, hfirst, by rw [e, hz]⟩, rfl⟩
    have lz : lw z = i := by
      rcases r2 z with q | ⟨-, -, q⟩
      · rw [q]; exact hKn.2.1
      · exact absurd hKx q
    have zc : (L (fs z) ∧ R (sn z)) ∨ (R (fs z) ∧ L (sn z)) := by
      rcases hKn.2.2 with w | w <;> rcases hKx with y | y
      · exact absurd ⟨w, y⟩ (hLR _)
      · exact Or.inl ⟨w, y⟩
      · exact Or.inr ⟨y, w⟩
      · exact absurd ⟨w, y⟩ (hLR _)
    rw [hL, hR] at zc
    have zc2 : (sd W fs sn lv tr i a0 (fs z) ∧ sd W fs sn lv tr i b0 (sn z)) ∨ (sd W fs sn lv tr i b0 (fs z) ∧ sd W fs sn lv tr i a0 (sn z)) := by
      rcases hl with ⟨rfl, rfl⟩ | ⟨rfl, rfl⟩
      · exact zc
      · exact zc.symm
    have hcyc : ¬ rch (uE (fun x => W x ∧ tr x ≠ 0) fs sn) (fs z) (sn z) := by
      intro q
      rcases zc2 with ⟨w1, w2⟩ | ⟨w1, w2⟩
      · exact g2 ((sd_all w1).trans (q.trans (uE.rsymm (sd_all w2))))
      · exact g2 ((sd_all w2).trans ((uE.rsymm q).trans (uE.rsymm (sd_all w1))))
    -- tree arcs with the new one
    have u1 : ∀ (j : Nat) x, W x → (tA lw t' (j : Int) x ↔ tA lw tr (j : Int) x ∨ (x = z ∧ j ≤ i)) := by
      intro j x _
      unfold tA
      rcases tz x with ⟨rfl, q⟩ | ⟨q0, q⟩
      · rw [q, lz]
        constructor
        · intro p; exact Or.inr ⟨rfl, by have := p.2; omega⟩
        · rintro (p | p)
          · exact ⟨by decide, p.2⟩
          · exact ⟨by decide, by have := p.2; omega⟩
      · rw [q]
        exact ⟨Or.inl, fun p => p.elim id (fun w => absurd w.1 q0)⟩
    have u2 : ∀ j u v, sd W fs sn lw tr j u v → sd W fs sn lw t' j u v := fun j u v q => q.mono (fun x a b => ⟨a, (u1 j x a).mpr (Or.inl b)⟩)
    have u3 : ∀ j, j ≤ i → sd W fs sn lw t' j (fs z) (sn z) := fun j hj => sd.arc hzW ((u1 j z hzW).mpr (Or.inr ⟨rfl, hj⟩))
    -- ends of z at lower levels
    have zd : ∀ j, j ≤ i → (sd W fs sn lw tr j a0 (fs z) ∧ sd W fs sn lw tr j b0 (sn z)) ∨ (sd W fs sn lw tr j b0 (fs z) ∧ sd W fs sn lw tr j a0 (sn z)) := by
      intro j hj
      exact zc2.imp (fun w => ⟨(e3 _ _ _ hj).mpr (w.1.down hj), (e3 _ _ _ hj).mpr (w.2.down hj)⟩) (fun w => ⟨(e3 _ _ _ hj).mpr (w.1.down hj), (e3 _ _ _ hj).mpr (w.2.down hj)⟩)
    have ab : ∀ j, j ≤ i → sd W fs sn lw t' j a0 b0 := by
      intro j hj
      rcases zd j hj with ⟨w1, w2⟩ | ⟨w1, w2⟩
      · exact (u2 _ _ _ w1).trans ((u3 j hj).trans (u2 _ _ _ w2).symm)
      · exact (u2 _ _ _ w2).trans ((u3 j hj).symm.trans (u2 _ _ _ w1).symm)
    refine ⟨?_, fun x hx => ?_, fun j x hx hA => ?_⟩
    · refine (Ac.add g1 hcyc).mono (fun x hx => ?_)
      rcases tz x with ⟨q, -⟩ | ⟨-, q⟩
      · exact Or.inr q
      · exact Or.inl ⟨hx.1, by rw [← q]; exact hx.2⟩
    · rcases s1 x hx with k | ⟨k0, k1, k2, k3⟩
      · exact u2 _ _ _ k
      · have hj : lw x ≤ i := by omega
        rcases k3 with ⟨w1, w2⟩ | ⟨w1, w2⟩
        · exact (u2 _ _ _ w1).symm.trans ((ab _ hj).trans (u2 _ _ _ w2))
        · exact (u2 _ _ _ w1).symm.trans ((ab _ hj).symm.trans (u2 _ _ _ w2))
    · by_cases hj : j ≤ i
      · have hU : ∀ u v, (sd W fs sn lw tr j a0 u ∨ sd W fs sn lw tr j b0 u) → sd W fs sn lw t' j u v → (sd W fs sn lw tr j a0 v ∨ sd W fs sn lw tr j b0 v) := by
          intro u v hu hv
          refine rch.closed (S := fun v => sd W fs sn lw tr j a0 v ∨ sd W fs sn lw tr j b0 v) ?_ hu hv
          rintro p q hp ⟨y, ⟨y1, y2⟩, y3⟩
          rcases (u1 j y y1).mp y2 with w | ⟨rfl, -⟩
          · exact hp.imp (fun h => rch.snoc h ⟨y, ⟨y1, w⟩, y3⟩) (fun h => rch.snoc h ⟨y, ⟨y1, w⟩, y3⟩)
          · rcases zd j hj with ⟨w1, w2⟩ | ⟨w1, w2⟩ <;> rcases y3 with ⟨rfl, rfl⟩ | ⟨rfl, rfl⟩
            · exact Or.inr w2
            · exact Or.inl w1
            · exact Or.inl w2
            · exact Or.inr w1
        by_cases hu : sd W fs sn lw tr j a0 (fs x) ∨ sd W fs sn lw tr j b0 (fs x)
        · refine Nat.le_trans (cntP_le (fun v _ hv => hU _ v hu hv)) ?_
          rw [cntP_sum (fun v _ q => g2 ((sd_all (lv := lw) q.1).trans (uE.rsymm (sd_all q.2)))), cntP_congr (fun v _ => e3 j a0 v hj), cntP_congr (fun v _ => e3 j b0 v hj)]
          exact g5 j (by omega)
        · have hxz : x ≠ z := fun e => hu (by rw [e]; exact (zd j hj).imp (fun w => w.1) (fun w => w.1))
          have hA2 : tA lw tr (j : Int) x := ((u1 j x hx).mp hA).elim id (fun w => absurd w.1 hxz)
          refine Nat.le_trans (cntP_le (fun v _ hv => ?_)) (s2 j x hx hA2)
          refine rch.closed (S := fun v => sd W fs sn lw tr j (fs x) v) ?_ (rch.rfl' _) hv
          rintro p q hp ⟨y, ⟨y1, y2⟩, y3⟩
          rcases (u1 j y y1).mp y2 with w | ⟨rfl, -⟩
          · exact rch.snoc hp ⟨y, ⟨y1, w⟩, y3⟩
          · exfalso
            refine hu ?_
            have hpp : sd W fs sn lw tr j a0 p ∨ sd W fs sn lw tr j b0 p := by
              rcases zd j hj with ⟨w1, w2⟩ | ⟨w1, w2⟩ <;> rcases y3 with ⟨rfl, rfl⟩ | ⟨rfl, rfl⟩
              · exact Or.inl w1
              · exact Or.inr w2
              · exact Or.inr w1
              · exact Or.inl w2
            exact hpp.imp (fun w => w.trans (sd.symm hp)) (fun w => w.trans (sd.symm hp))
      · have hA2 : tA lw tr (j : Int) x := ((u1 j x hx).mp hA).elim id (fun w => absurd w.2 hj)
        refine Nat.le_trans (cntP_le (fun v _ hv => ?_)) (s2 j x hx hA2)
        exact hv.mono (fun y a b => ⟨a, ((u1 j y a).mp b).elim id (fun w => absurd w.2 hj)⟩)
  · rcases r2 x with q | ⟨q, q1, -⟩
    · rcases r1 x with ⟨w, -⟩ | ⟨w, -⟩ <;> omega
    · rcases r1 x with ⟨w, -⟩ | ⟨-, -, w, -⟩
      · omega
      · exact absurd q1.1 w
/-- all stages, from a level down -/
noncomputable def mnd (n c : Nat) (li fs sn : Nat → Nat) (a0 b0 : Nat) : Nat → (Nat → Nat) → (Nat → Int) → (Nat → Nat) × (Nat → Int)
  | 0, lv, tr => (lv, tr)
  | i + 1, lv, tr =>
    let W := th c li
    let L := sd W fs sn lv tr i (lesS n W fs sn lv tr a0 b0 i)
    let R := sd W fs sn lv tr i (othS n W fs sn lv tr a0 b0 i)
    let l1 := rse W fs sn lv tr L i
    let lw := rs2 c li fs sn l1 tr L R i c
    @ite _ (∃ k, hasK c li fs sn l1 tr L R i k) (Classical.propDecidable _) (lw, tr2 c li fs sn l1 tr L R i) (mnd n c li fs sn a0 b0 i lw tr)
theorem les_oth {n : Nat} {W : Nat → Prop} {fs sn lv : Nat → Nat} {tr : Nat → Int} {a0 b0 i : Nat} : ((lesS n W fs sn lv tr a0 b0 i = a0 ∧ othS n W fs sn lv tr a0 b0 i = b0) ∨ (lesS n W fs sn lv tr a0 b0 i = b0 ∧ othS n W fs sn lv tr a0 b0 i = a0)) ∧
    cntP (sd W fs sn lv tr i (lesS n W fs sn lv tr a0 b0 i)) n ≤ cntP (sd W fs sn lv tr i (othS n W fs sn lv tr a0 b0 i)) n := by
  unfold lesS othS
  by_cases h : cntP (sd W fs sn lv tr i a0) n ≤ cntP (sd W fs sn lv tr i b0) n
  · rw [if_pos h, if_pos h]; exact ⟨Or.inl ⟨rfl, rfl⟩, h⟩
  · rw [if_neg h, if_neg h]; exact ⟨Or.inr ⟨rfl, rfl⟩, by omega⟩
theorem mnd_ok {n c a0 b0 : Nat} {li fs sn : Nat → Nat} : ∀ {i : Nat} {lv : Nat → Nat} {tr : Nat → Int}, Sg n (th c li) fs sn lv tr a0 b0 i → Hd n (th c li) fs sn (mnd n c li fs sn a0 b0 i lv tr).1 (mnd n c li fs sn a0 b0 i lv tr).2 := by
  intro i
  induction i with
  | zero =>
    intro lv tr h
    obtain ⟨g1, g2, g3, g4, g5⟩ := h
    exact ⟨g1, fun x hx => (g3 x hx).elim id (fun q => by omega), g4⟩
  | succ i ih =>
    intro lv tr h
    obtain ⟨k1, k2, -⟩ := Sg_stage (fun _ => Iff.rfl) h les_oth.1 les_oth.2 rfl rfl rfl
    unfold mnd
    dsimp only
    split
    · rename_i hk
      obtain ⟨K, hK, hK2⟩ := nat_least hk
      exact k2 K hK (fun j hj q => by have := hK2 j q; omega)
    · rename_i hk
      exact ih (k1 (fun k q => hk ⟨k, q⟩))
