/-! THE ORDER CHANGES: marked places filled anew, first those of P1, then those of P2 -/
theorem cntP_reach {P : Nat → Prop} {m j : Nat} (h : j < cntP P m) : ∃ p, p < m ∧ P p ∧ cntP P p = j := by
  induction m with
  | zero => simp [cntP] at h
  | succ m ih =>
    by_cases hp : P m
    · rw [cntP_succ_pos hp] at h
      by_cases e : j = cntP P m
      · exact ⟨m, by omega, hp, e.symm⟩
      · obtain ⟨p, h1, h2, h3⟩ := ih (by omega)
        exact ⟨p, by omega, h2, h3⟩
    · rw [cntP_succ_neg hp] at h
      obtain ⟨p, h1, h2, h3⟩ := ih h
      exact ⟨p, by omega, h2, h3⟩
theorem cntP_mono {P : Nat → Prop} {a b : Nat} (h : a ≤ b) : cntP P a ≤ cntP P b := by
  induction b with
  | zero => have : a = 0 := by omega
            subst this; exact Nat.le_refl _
  | succ b ih =>
    by_cases e : a = b + 1
    · subst e; exact Nat.le_refl _
    · have := ih (by omega)
      by_cases hp : P b
      · rw [cntP_succ_pos hp]; omega
      · rw [cntP_succ_neg hp]; exact this
theorem cntP_lt {P : Nat → Prop} {a b : Nat} (h : a < b) (hp : P a) : cntP P a < cntP P b := by
  have := @cntP_mono P (a + 1) b h
  rw [cntP_succ_pos hp] at this
  omega
section RO
variable {n : Nat} {P1 P2 : Nat → Prop}
noncomputable def rkP (P1 P2 : Nat → Prop) (n p : Nat) : Nat := @ite _ (P1 p) (Classical.propDecidable _) (cntP P1 p) (cntP P1 n + cntP P2 p)
theorem rk_1 {p : Nat} (h : P1 p) : rkP P1 P2 n p = cntP P1 p := by unfold rkP; rw [if_pos h]
theorem rk_2 {p : Nat} (h : ¬ P1 p) : rkP P1 P2 n p = cntP P1 n + cntP P2 p := by unfold rkP; rw [if_neg h]
theorem rk_lt (hd : ∀ p, ¬ (P1 p ∧ P2 p)) {p : Nat} (hp : p < n) (h : P1 p ∨ P2 p) : rkP P1 P2 n p < cntP (fun p => P1 p ∨ P2 p) n := by
  rw [cntP_sum (fun k _ => hd k)]
  by_cases h1 : P1 p
  · rw [rk_1 h1]; have := cntP_lt hp h1; omega
  · rw [rk_2 h1]; have := cntP_lt hp (h.elim (fun q => absurd q h1) id); omega
theorem rk_inj {p q : Nat} (hp : p < n) (hq : q < n) (h : P1 p ∨ P2 p) (h' : P1 q ∨ P2 q) (e : rkP P1 P2 n p = rkP P1 P2 n q) : p = q := by
  have key : ∀ (P : Nat → Prop) p q, P p → P q → cntP P p = cntP P q → p = q := by
    intro P p q a b e
    rcases Nat.lt_trichotomy p q with r | r | r
    · have := cntP_lt r a; omega
    · exact r
    · have := cntP_lt r b; omega
  by_cases h1 : P1 p <;> by_cases h2 : P1 q
  · rw [rk_1 h1, rk_1 h2] at e; exact key _ _ _ h1 h2 e
  · rw [rk_1 h1, rk_2 h2] at e; have := cntP_lt hp h1; omega
  · rw [rk_2 h1, rk_1 h2] at e; have := cntP_lt hq h2; omega
  · rw [rk_2 h1, rk_2 h2] at e
    exact key _ _ _ (h.elim (fun q => absurd q h1) id) (h'.elim (fun q => absurd q h2) id) (by omega)
theorem rk_surj (hd : ∀ p, ¬ (P1 p ∧ P2 p)) {j : Nat} (hj : j < cntP (fun p => P1 p ∨ P2 p) n) : ∃ p, p < n ∧ (P1 p ∨ P2 p) ∧ rkP P1 P2 n p = j := by
  rw [cntP_sum (fun k _ => hd k)] at hj
  by_cases h : j < cntP P1 n
  · obtain ⟨p, p1, p2, p3⟩ := cntP_reach h
    exact ⟨p, p1, Or.inl p2, by rw [rk_1 p2, p3]⟩
  · obtain ⟨p, p1, p2, p3⟩ := cntP_reach (show j - cntP P1 n < cntP P2 n by omega)
    exact ⟨p, p1, Or.inr p2, by rw [rk_2 (fun q => hd p ⟨q, p2⟩), p3]; omega⟩
/-- the place from which comes what stands at place p' then -/
noncomputable def srcP (P1 P2 : Nat → Prop) (n p' : Nat) : Nat :=
  @dite _ ((P1 p' ∨ P2 p') ∧ ∃ p, p < n ∧ (P1 p ∨ P2 p) ∧ rkP P1 P2 n p = cntP (fun p => P1 p ∨ P2 p) p') (Classical.propDecidable _) (fun h => Classical.choose h.2) (fun _ => p')
theorem src_1 (hd : ∀ p, ¬ (P1 p ∧ P2 p)) {p' : Nat} (hp : p' < n) (h : P1 p' ∨ P2 p') : srcP P1 P2 n p' < n ∧ (P1 (srcP P1 P2 n p') ∨ P2 (srcP P1 P2 n p')) ∧ rkP P1 P2 n (srcP P1 P2 n p') = cntP (fun p => P1 p ∨ P2 p) p' := by
  have hx : (P1 p' ∨ P2 p') ∧ ∃ p, p < n ∧ (P1 p ∨ P2 p) ∧ rkP P1 P2 n p = cntP (fun p => P1 p ∨ P2 p) p' := ⟨h, rk_surj hd (cntP_lt (P := fun p => P1 p ∨ P2 p) hp h)⟩
  unfold srcP
  rw [dif_pos hx]
  exact Classical.choose_spec hx.2
theorem src_2 {p' : Nat} (h : ¬ (P1 p' ∨ P2 p')) : srcP P1 P2 n p' = p' := by
  unfold srcP
  rw [dif_neg (fun q => h q.1)]
theorem src_lt (hd : ∀ p, ¬ (P1 p ∧ P2 p)) {p' : Nat} (hp : p' < n) : srcP P1 P2 n p' < n := by
  by_cases h : P1 p' ∨ P2 p'
  · exact (src_1 hd hp h).1
  · rw [src_2 h]; exact hp
theorem src_inj (hd : ∀ p, ¬ (P1 p ∧ P2 p)) {p q : Nat} (hp : p < n) (hq : q < n) (e : srcP P1 P2 n p = srcP P1 P2 n q) : p = q := by
  by_cases h : P1 p ∨ P2 p <;> by_cases h' : P1 q ∨ P2 q
  · have a := src_1 hd hp h
    have b := src_1 hd hq h'
    rw [e] at a
    have e2 : cntP (fun p => P1 p ∨ P2 p) p = cntP (fun p => P1 p ∨ P2 p) q := by rw [← a.2.2, ← b.2.2]
    rcases Nat.lt_trichotomy p q with r | r | r
    · have := cntP_lt (P := fun p => P1 p ∨ P2 p) r h; omega
    · exact r
    · have := cntP_lt (P := fun p => P1 p ∨ P2 p) r h'; omega
  · have a := src_1 hd hp h
    rw [e, src_2 h'] at a
    exact absurd a.2.1 h'
  · have b := src_1 hd hq h'
    rw [← e, src_2 h] at b
    exact absurd b.2.1 h
  · rwa [src_2 h, src_2 h'] at e
/-- each place is the source of one -/
theorem src_surj (hd : ∀ p, ¬ (P1 p ∧ P2 p)) {p : Nat} (hp : p < n) : ∃ p', p' < n ∧ srcP P1 P2 n p' = p := by
  by_cases h : P1 p ∨ P2 p
  · obtain ⟨p', h1, h2, h3⟩ := cntP_reach (rk_lt hd hp h)
    obtain ⟨a1, a2, a3⟩ := src_1 hd h1 h2
    exact ⟨p', h1, rk_inj a1 hp a2 h (by rw [a3, h3])⟩
  · exact ⟨p, hp, src_2 h⟩
/-- what comes from P1 goes to the front -/
theorem src_le1 (hd : ∀ p, ¬ (P1 p ∧ P2 p)) {p' : Nat} (hp : p' < n) (h : P1 p' ∨ P2 p') (h1 : P1 (srcP P1 P2 n p')) : p' ≤ srcP P1 P2 n p' := by
  obtain ⟨a1, a2, a3⟩ := src_1 hd hp h
  rw [rk_1 h1] at a3
  rcases Nat.lt_or_ge (srcP P1 P2 n p') p' with r | r
  · exfalso
    have e1 := cntP_lt (P := fun p => P1 p ∨ P2 p) r a2
    have e2 : cntP P1 (srcP P1 P2 n p') ≤ cntP (fun p => P1 p ∨ P2 p) (srcP P1 P2 n p') := cntP_le (fun k _ q => Or.inl q)
    omega
  · exact r
theorem src_ge2 (hd : ∀ p, ¬ (P1 p ∧ P2 p)) {p' : Nat} (hp : p' < n) (h : P1 p' ∨ P2 p') (h1 : ¬ P1 (srcP P1 P2 n p')) : srcP P1 P2 n p' ≤ p' := by
  obtain ⟨a1, a2, a3⟩ := src_1 hd hp h
  rw [rk_2 h1] at a3
  rcases Nat.lt_or_ge p' (srcP P1 P2 n p') with r | r
  · exfalso
    have e1 := cntP_lt (P := fun p => P1 p ∨ P2 p) r h
    have e2 := @cntP_sum P1 P2 (srcP P1 P2 n p') (fun k _ => hd k)
    have e3 := @cntP_mono P1 _ _ (Nat.le_of_lt a1)
    omega
  · exact r
end RO
/-- the order and the places are one another's turn -/
def prm (n : Nat) (od pl : Nat → Nat) : Prop := (∀ p, p < n → od p < n ∧ pl (od p) = p) ∧ (∀ v, v < n → pl v < n ∧ od (pl v) = v)
/-- arcs lead from ahead to behind -/
def rsp (O : Nat → Prop) (fs sn pl : Nat → Nat) : Prop := ∀ x, O x → pl (fs x) < pl (sn x)
noncomputable def newOd (P1 P2 : Nat → Prop) (n : Nat) (od : Nat → Nat) (p : Nat) : Nat := od (srcP P1 P2 n p)
theorem newOd_prm {n : Nat} {P1 P2 : Nat → Prop} {od pl : Nat → Nat} (hd : ∀ p, ¬ (P1 p ∧ P2 p)) (h : prm n od pl) : ∃ pl', prm n (newOd P1 P2 n od) pl' ∧ ∀ v, v < n → srcP P1 P2 n (pl' v) = pl v := by
  have hx : ∀ v, ∃ p', v < n → p' < n ∧ srcP P1 P2 n p' = pl v := by
    intro v
    by_cases hv : v < n
    · obtain ⟨p', h1, h2⟩ := src_surj hd (h.2 v hv).1
      exact ⟨p', fun _ => ⟨h1, h2⟩⟩
    · exact ⟨0, fun q => absurd q hv⟩
  refine ⟨fun v => Classical.choose (hx v), ⟨fun p hp => ?_, fun v hv => ?_⟩, fun v hv => (Classical.choose_spec (hx v) hv).2⟩
  · have hs := src_lt hd hp
    have hv := (h.1 _ hs).1
    refine ⟨hv, ?_⟩
    have := Classical.choose_spec (hx (newOd P1 P2 n od p)) hv
    refine src_inj hd this.1 hp ?_
    rw [this.2]
    exact (h.1 _ hs).2
  · have := Classical.choose_spec (hx v) hv
    refine ⟨this.1, ?_⟩
    show od (srcP P1 P2 n _) = v
    rw [this.2]
    exact (h.2 v hv).2
/-- the new order keeps all arcs right, and the one from a to b too -/
theorem newOd_rsp {n a b : Nat} {O : Nat → Prop} {fs sn od pl pl' : Nat → Nat} {P1 P2 : Nat → Prop} (h : prm n od pl) (hr : rsp O fs sn pl) (hO : ∀ x, O x → fs x < n ∧ sn x < n) (ha : a < n) (hb : b < n) (hlow : pl b < pl a)
    (hno : ¬ rch (dE O fs sn) b a)
    (h1 : ∀ p, p < n → (P1 p ↔ (rch (dE O fs sn) (od p) a ∧ pl b ≤ p ∧ p ≤ pl a))) (h2 : ∀ p, p < n → (P2 p ↔ (rch (dE O fs sn) b (od p) ∧ pl b ≤ p ∧ p ≤ pl a)))
    (hd : ∀ p, ¬ (P1 p ∧ P2 p)) (h' : prm n (newOd P1 P2 n od) pl') (hs : ∀ v, v < n → srcP P1 P2 n (pl' v) = pl v) :
    rsp O fs sn pl' ∧ pl' a < pl' b := by
  have m1 : ∀ v, v < n → (P1 (pl v) ↔ (rch (dE O fs sn) v a ∧ pl b ≤ pl v ∧ pl v ≤ pl a)) := fun v hv => by rw [h1 _ (h.2 v hv).1, (h.2 v hv).2]
  have m2 : ∀ v, v < n → (P2 (pl v) ↔ (rch (dE O fs sn) b v ∧ pl b ≤ pl v ∧ pl v ≤ pl a)) := fun v hv => by rw [h2 _ (h.2 v hv).1, (h.2 v hv).2]
  have mono : ∀ u v, u < n → rch (dE O fs sn) u v → pl u ≤ pl v := by
    intro u v hu hr2
    have : pl u ≤ pl v ∧ v < n := by
      refine rch.closed (S := fun v => pl u ≤ pl v ∧ v < n) ?_ ⟨Nat.le_refl _, hu⟩ hr2
      rintro p q ⟨hp, -⟩ ⟨x, hx, rfl, rfl⟩
      have := hr x hx
      exact ⟨by omega, (hO x hx).2⟩
    exact this.1
  -- a node that is not marked stays; one that is marked stays in the window
  have mk : ∀ v, v < n → ((P1 (pl v) ∨ P2 (pl v)) ↔ (P1 (pl' v) ∨ P2 (pl' v))) := by
    intro v hv
    have hp' := (h'.2 v hv).1
    have e := hs v hv
    by_cases q : P1 (pl' v) ∨ P2 (pl' v)
    · have := (src_1 hd hp' q).2.1
      rw [e] at this
      exact ⟨fun _ => q, fun _ => this⟩
    · rw [src_2 q] at e
      rw [e]
  have un : ∀ v, v < n → ¬ (P1 (pl v) ∨ P2 (pl v)) → pl' v = pl v := by
    intro v hv q
    have e := hs v hv
    rw [src_2 (fun w => q ((mk v hv).mpr w))] at e
    exact e
  have win : ∀ v, v < n → (P1 (pl v) ∨ P2 (pl v)) → pl b ≤ pl' v ∧ pl' v ≤ pl a := by
    intro v hv q
    have hp' := (h'.2 v hv).1
    rcases (mk v hv).mp q with w | w
    · exact ((h1 _ hp').mp w).2
    · exact ((h2 _ hp').mp w).2
  have rkv : ∀ v, v < n → (P1 (pl v) ∨ P2 (pl v)) → rkP P1 P2 n (pl v) = cntP (fun p => P1 p ∨ P2 p) (pl' v) := by
    intro v hv q
    have := (src_1 hd (h'.2 v hv).1 ((mk v hv).mp q)).2.2
    rw [hs v hv] at this
    exact this
  have byrk : ∀ u v, u < n → v < n → (P1 (pl u) ∨ P2 (pl u)) → (P1 (pl v) ∨ P2 (pl v)) → rkP P1 P2 n (pl u) < rkP P1 P2 n (pl v) → pl' u < pl' v := by
    intro u v hu hv qu qv hlt
    rw [rkv u hu qu, rkv v hv qv] at hlt
    rcases Nat.lt_or_ge (pl' u) (pl' v) with r | r
    · exact r
    · have := @cntP_mono (fun p => P1 p ∨ P2 p) _ _ r
      omega
  have le1 : ∀ v, v < n → P1 (pl v) → pl' v ≤ pl v := by
    intro v hv q
    have := src_le1 hd (h'.2 v hv).1 ((mk v hv).mp (Or.inl q)) (by rw [hs v hv]; exact q)
    rw [hs v hv] at this; exact this
  have ge2 : ∀ v, v < n → P2 (pl v) → pl v ≤ pl' v := by
    intro v hv q
    have := src_ge2 hd (h'.2 v hv).1 ((mk v hv).mp (Or.inr q)) (by rw [hs v hv]; exact fun w => hd _ ⟨w, q⟩)
    rw [hs v hv] at this; exact this
  refine ⟨fun x hx => ?_, ?_⟩
  · obtain ⟨hu, hv⟩ := hO x hx
    have hlt := hr x hx
    have hE : dE O fs sn (fs x) (sn x) := ⟨x, hx, rfl, rfl⟩
    by_cases u1 : P1 (pl (fs x)) <;> by_cases v1 : P1 (pl (sn x))
    · refine byrk _ _ hu hv (Or.inl u1) (Or.inl v1) ?_
      rw [rk_1 u1, rk_1 v1]
      exact cntP_lt hlt u1
    · by_cases v2 : P2 (pl (sn x))
      · refine byrk _ _ hu hv (Or.inl u1) (Or.inr v2) ?_
        rw [rk_1 u1, rk_2 v1]
        have := cntP_lt (h.2 _ hu).1 u1
        omega
      · rw [un _ hv (fun q => q.elim v1 v2)]
        have := le1 _ hu u1
        omega
    · by_cases u2 : P2 (pl (fs x))
      · exfalso
        have a1 := ((m2 _ hu).mp u2).1
        have a2 := ((m1 _ hv).mp v1).1
        exact hno ((a1.snoc hE).trans a2)
      · rw [un _ hu (fun q => q.elim u1 u2)]
        have a2 := (m1 _ hv).mp v1
        have a3 : ¬ (pl b ≤ pl (fs x)) := fun q => u1 ((m1 _ hu).mpr ⟨rch.cons hE a2.1, q, by have := mono _ _ hu (rch.cons hE a2.1); omega⟩)
        have := (win _ hv (Or.inl v1)).1
        omega
    · by_cases u2 : P2 (pl (fs x)) <;> by_cases v2 : P2 (pl (sn x))
      · refine byrk _ _ hu hv (Or.inr u2) (Or.inr v2) ?_
        rw [rk_2 u1, rk_2 v1]
        have := cntP_lt hlt u2
        omega
      · rw [un _ hv (fun q => q.elim v1 v2)]
        have a2 := (m2 _ hu).mp u2
        have a3 : ¬ (pl (sn x) ≤ pl a) := fun q => v2 ((m2 _ hv).mpr ⟨a2.1.snoc hE, by omega, q⟩)
        have := (win _ hu (Or.inr u2)).2
        omega
      · rw [un _ hu (fun q => q.elim u1 u2)]
        have := ge2 _ hv v2
        omega
      · rw [un _ hu (fun q => q.elim u1 u2), un _ hv (fun q => q.elim v1 v2)]
        exact hlt
  · have a1 : P1 (pl a) := (m1 a ha).mpr ⟨rch.rfl' a, by omega, Nat.le_refl _⟩
    have b2 : P2 (pl b) := (m2 b hb).mpr ⟨rch.rfl' b, Nat.le_refl _, by omega⟩
    refine byrk _ _ ha hb (Or.inl a1) (Or.inr b2) ?_
    rw [rk_1 a1, rk_2 (fun q => hd _ ⟨q, b2⟩)]
    have := cntP_lt (h.2 _ ha).1 a1
    omega
