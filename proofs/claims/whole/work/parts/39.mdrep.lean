/-! THE REFERENCE'S STATE, and what its walk says, in the common words -/
def RM (s : kS) (n c ar : Nat) (li fs sn lv : Nat → Nat) (tr lo : Nat → Int) : Prop :=
  s 14 1 = (n : Int) ∧ s 14 10 = (c : Int) ∧ s 14 3 = (ar : Int) ∧ (∀ k, k < c → s 77 k = (li k : Int)) ∧ (∀ x, s 71 x = (fs x : Int)) ∧ (∀ x, s 72 x = (sn x : Int)) ∧ (∀ x, s 73 x = (lv x : Int)) ∧ (∀ x, s 74 x = tr x) ∧ (∀ x, s 75 x = lo x) ∧
  (∀ x, x < ar → (s 76 x = 0 ∨ s 76 x = 1) ∧ (s 76 x = 1 ↔ th c li x))
/-- what is only of use within a call -/
def mSc (o k : Nat) : Prop := (85 ≤ o ∧ o ≤ 109) ∨ (o = 14 ∧ 23 ≤ k)
def sK (σ s : kS) : Prop := ∀ o k, ¬ mSc o k → s o k = σ o k
theorem sK.refl (σ : kS) : sK σ σ := fun _ _ _ => rfl
theorem sK.trans {a b c : kS} (h1 : sK a b) (h2 : sK b c) : sK a c := fun o k h => (h2 o k h).trans (h1 o k h)
theorem wKeep.sK {σ s : kS} (h : wKeep σ s) : sK σ s := by
  intro o k ho
  unfold mSc at ho
  by_cases e : o = 14
  · subst e; exact h.2 k (by omega)
  · rw [h.1 o (by omega) e]
/-- of that what walks, the reorder and the search for another tree arc use -/
def mSd (o k : Nat) : Prop := (85 ≤ o ∧ o ≤ 96) ∨ (o = 14 ∧ 23 ≤ k)
def sJ (σ s : kS) : Prop := ∀ o k, ¬ mSd o k → s o k = σ o k
theorem sJ.refl (σ : kS) : sJ σ σ := fun _ _ _ => rfl
theorem sJ.trans {a b c : kS} (h1 : sJ a b) (h2 : sJ b c) : sJ a c := fun o k h => (h2 o k h).trans (h1 o k h)
theorem sJ.sK {a b : kS} (h : sJ a b) : sK a b := fun o k ho => h o k (by unfold mSc at ho; unfold mSd; omega)
theorem wKeep.sJ {σ s : kS} (h : wKeep σ s) : sJ σ s := by
  intro o k ho
  unfold mSd at ho
  by_cases e : o = 14
  · subst e; exact h.2 k (by omega)
  · rw [h.1 o (by omega) e]
theorem RM.agree {σ s : kS} {n c ar : Nat} {li fs sn lv : Nat → Nat} {tr lo : Nat → Int} (h : RM σ n c ar li fs sn lv tr lo) (hs : ∀ o k, (71 ≤ o ∧ o ≤ 77) ∨ (o = 14 ∧ k < 14) → s o k = σ o k) : RM s n c ar li fs sn lv tr lo := by
  obtain ⟨h1, h2, h3, h4, h5, h6, h7, h8, h9, h10⟩ := h
  refine ⟨by rw [hs _ _ (by omega)]; exact h1, by rw [hs _ _ (by omega)]; exact h2, by rw [hs _ _ (by omega)]; exact h3, fun k hk => by rw [hs _ _ (by omega)]; exact h4 k hk, fun x => by rw [hs _ _ (by omega)]; exact h5 x, fun x => by rw [hs _ _ (by omega)]; exact h6 x, fun x => by rw [hs _ _ (by omega)]; exact h7 x, fun x => by rw [hs _ _ (by omega)]; exact h8 x, fun x => by rw [hs _ _ (by omega)]; exact h9 x, fun x hx => by rw [hs _ _ (by omega)]; exact h10 x hx⟩
theorem RM.keep {σ s : kS} {n c ar : Nat} {li fs sn lv : Nat → Nat} {tr lo : Nat → Int} (h : RM σ n c ar li fs sn lv tr lo) (hs : sK σ s) : RM s n c ar li fs sn lv tr lo := h.agree (fun o k ho => hs o k (by unfold mSc; omega))
theorem RM.Mg {σ : kS} {n c ar : Nat} {li fs sn lv : Nat → Nat} {tr lo : Nat → Int} (h : RM σ n c ar li fs sn lv tr lo) (hG : gOk n c ar li fs sn) : Mg σ n c li fs sn := by
  obtain ⟨h1, h2, h3, h4, h5, h6, -⟩ := h
  exact ⟨h1, h2, hG.1, hG.2.1, fun k hk => ⟨h4 k hk, by have := (hG.2.2.2.1 k hk).1; have := hG.2.2.1; omega, h5 _, h6 _, (hG.2.2.2.1 k hk).2⟩, hG.inj⟩
section ME
variable {σ : kS} {n c ar : Nat} {li fs sn lv : Nat → Nat} {tr lo : Nat → Int}
theorem mE_tree (h : RM σ n c ar li fs sn lv tr lo) {le : Int} : mE σ c li fs sn 0 le (-1) = uE (fun x => th c li x ∧ tA lv tr le x) fs sn := by
  obtain ⟨-, -, -, -, -, -, h7, h8, -⟩ := h
  funext u v
  refine propext ⟨?_, ?_⟩
  · rintro ⟨k, k1, ⟨-, k2 | k2⟩, k3⟩
    · refine ⟨li k, ⟨⟨k, k1, rfl⟩, by rw [← h8]; exact k2.2.1, by rw [← h7]; exact k2.2.2⟩, k3.imp (fun w => w.2) (fun w => w.2)⟩
    · exact absurd rfl k2.1
  · rintro ⟨x, ⟨⟨k, k1, rfl⟩, k2⟩, k3⟩
    exact ⟨k, k1, ⟨by omega, Or.inl ⟨rfl, by rw [h8]; exact k2.1, by rw [h7]; exact k2.2⟩⟩, k3.imp (fun w => ⟨⟨by decide, by decide⟩, w⟩) (fun w => ⟨⟨by decide, by decide⟩, w⟩)⟩
theorem mE_all {w : Int} : mE σ c li fs sn 1 0 w = uE (fun x => th c li x ∧ (x : Int) ≠ w) fs sn := by
  funext u v
  refine propext ⟨?_, ?_⟩
  · rintro ⟨k, k1, ⟨k2, -⟩, k3⟩
    exact ⟨li k, ⟨⟨k, k1, rfl⟩, k2⟩, k3.imp (fun w => w.2) (fun w => w.2)⟩
  · rintro ⟨x, ⟨⟨k, k1, rfl⟩, k2⟩, k3⟩
    exact ⟨k, k1, ⟨k2, Or.inr ⟨by decide, Or.inl (by decide)⟩⟩, k3.imp (fun w => ⟨⟨by decide, by decide⟩, w⟩) (fun w => ⟨⟨by decide, by decide⟩, w⟩)⟩
theorem mE_all1 : mE σ c li fs sn 1 0 (-1) = uE (th c li) fs sn := by
  rw [mE_all]
  funext u v
  exact propext ⟨fun ⟨x, h1, h2⟩ => ⟨x, h1.1, h2⟩, fun ⟨x, h1, h2⟩ => ⟨x, ⟨h1, by omega⟩, h2⟩⟩
theorem mE_along : mE σ c li fs sn 2 0 (-1) = dE (th c li) fs sn := by
  funext u v
  refine propext ⟨?_, ?_⟩
  · rintro ⟨k, k1, -, ⟨-, k3⟩ | ⟨k3, -⟩⟩
    · exact ⟨li k, ⟨k, k1, rfl⟩, k3⟩
    · exact absurd rfl k3.1
  · rintro ⟨x, ⟨k, k1, rfl⟩, k3⟩
    exact ⟨k, k1, ⟨by omega, Or.inr ⟨by decide, Or.inl (by decide)⟩⟩, Or.inl ⟨⟨by decide, by decide⟩, k3⟩⟩
theorem mE_against : mE σ c li fs sn 3 0 (-1) = fun u v => dE (th c li) fs sn v u := by
  funext u v
  refine propext ⟨?_, ?_⟩
  · rintro ⟨k, k1, -, ⟨k3, -⟩ | ⟨-, k3⟩⟩
    · exact absurd rfl k3.1
    · exact ⟨li k, ⟨k, k1, rfl⟩, k3.2, k3.1⟩
  · rintro ⟨x, ⟨k, k1, rfl⟩, k3, k4⟩
    exact ⟨k, k1, ⟨by omega, Or.inr ⟨by decide, Or.inl (by decide)⟩⟩, Or.inr ⟨⟨by decide, by decide⟩, k4, k3⟩⟩
theorem mE_ordered (h : RM σ n c ar li fs sn lv tr lo) : mE σ c li fs sn 4 0 (-1) = dE (fun x => th c li x ∧ lo x = 0) fs sn := by
  obtain ⟨-, -, -, -, -, -, -, -, h9, -⟩ := h
  funext u v
  refine propext ⟨?_, ?_⟩
  · rintro ⟨k, k1, ⟨-, k2 | k2⟩, ⟨-, k3⟩ | ⟨k3, -⟩⟩
    · exact absurd k2.1 (by decide)
    · exact absurd k2.1 (by decide)
    · exact ⟨li k, ⟨⟨k, k1, rfl⟩, by rw [← h9]; exact k2.2.elim (fun q => absurd q (by decide)) id⟩, k3⟩
    · exact absurd rfl k3.2
  · rintro ⟨x, ⟨⟨k, k1, rfl⟩, k2⟩, k3⟩
    exact ⟨k, k1, ⟨by omega, Or.inr ⟨by decide, Or.inr (by rw [h9]; exact k2)⟩⟩, Or.inl ⟨⟨by decide, by decide⟩, k3⟩⟩
theorem mE_back (h : RM σ n c ar li fs sn lv tr lo) : mE σ c li fs sn 5 0 (-1) = fun u v => dE (fun x => th c li x ∧ lo x = 0) fs sn v u := by
  obtain ⟨-, -, -, -, -, -, -, -, h9, -⟩ := h
  funext u v
  refine propext ⟨?_, ?_⟩
  · rintro ⟨k, k1, ⟨-, k2 | k2⟩, ⟨k3, -⟩ | ⟨-, k3⟩⟩
    · exact absurd k2.1 (by decide)
    · exact absurd k2.1 (by decide)
    · exact absurd rfl k3.2
    · exact ⟨li k, ⟨⟨k, k1, rfl⟩, by rw [← h9]; exact k2.2.elim (fun q => absurd q (by decide)) id⟩, k3.2, k3.1⟩
  · rintro ⟨x, ⟨⟨k, k1, rfl⟩, k2⟩, k3, k4⟩
    exact ⟨k, k1, ⟨by omega, Or.inr ⟨by decide, Or.inr (by rw [h9]; exact k2)⟩⟩, Or.inr ⟨⟨by decide, by decide⟩, k4, k3⟩⟩
end ME
/-- what a walk answers: whom it saw, how many, how far -/
def wSee (s : kS) (n fr : Nat) (E : Nat → Nat → Prop) : Prop := (∀ v, v < n → (s 85 v = 0 ∨ s 85 v = 1) ∧ (s 85 v = 1 ↔ rch E fr v)) ∧ s 14 27 = (cntP (rch E fr) n : Int) ∧ (∀ v d, ds E fr v d → s 88 v = (d : Int)) ∧ (∀ v, rch E fr v → v < n)
/-- and by which arcs -/
def wBy (s : kS) (fr : Nat) (E : Nat → Nat → Prop) (fs sn : Nat → Nat) (B : Nat → Prop) : Prop := ∀ v, rch E fr v → v ≠ fr → ∃ e u : Nat, s 87 v = (e : Int) ∧ B (e / 2) ∧ e < 10000 ∧ ((e % 2 = 0 ∧ fs (e / 2) = u ∧ sn (e / 2) = v) ∨ (e % 2 = 1 ∧ sn (e / 2) = u ∧ fs (e / 2) = v)) ∧ rch E fr u ∧ ∃ d : Nat, ds E fr u d ∧ ds E fr v (d + 1)
theorem walkSee_ok {σ : kS} {n c ar fr : Nat} {li fs sn : Nat → Nat} {so le wi : Int} {E : Nat → Nat → Prop} (hG : gOk n c ar li fs sn) (hM : Mg σ n c li fs sn) (hfr : fr < n) (hE : mE σ c li fs sn so le wi = E) :
    wpF F_Md_walk [.inr (.inl 14), .inl (fr : Int), .inl so, .inl le, .inl wi] σ (fun r s => r = none ∧ wKeep σ s ∧ wSee s n fr E ∧ wBy s fr E fs sn (fun x => th c li x ∧ mcnt σ so le wi x)) := by
  refine (walk_ok hM hfr).mono ?_
  rintro r s ⟨rfl, hk, t, q, dp, by', ⟨S1, S2, S3, S4, S5⟩, A2, A3, A4, A5, A6, A7, A8, A9⟩
  rw [hE] at A7 A8
  refine ⟨rfl, hk, ⟨fun v hv => ⟨(S3 v hv).1, (S3 v hv).2.trans (A7 v).symm⟩, ?_, fun v d hd => ?_, fun v hv => ?_⟩, fun v hv hne => ?_⟩
  · rw [S1, (cntP_row (P := rch E fr) (n := n) (fun i hi => ⟨A2 i hi, (A7 _).mpr ⟨i, hi, rfl⟩⟩) A3).2 (fun v _ hp => (A7 v).mp hp)]
  · obtain ⟨i, i1, rfl⟩ := (A7 v).mp hd.rch
    have := (A8 (q i) hd.rch).uniq hd
    rw [(S2 i i1).2, this]
  · obtain ⟨i, i1, rfl⟩ := (A7 v).mp hv
    exact A2 i i1
  · obtain ⟨i, i1, rfl⟩ := (A7 v).mp hv
    have i0 : 0 < i := by
      rcases Nat.eq_zero_or_pos i with z | z
      · exact absurd (by rw [z, A5]) hne
      · exact z
    obtain ⟨j, j1, ⟨k, -, k1, k2, k3⟩, j3, j4⟩ := A9 i i0 i1
    have hj := (A7 _).mpr ⟨j, j1, rfl⟩
    refine ⟨by' (q i), q j, S5 i i0 i1, ?_, ?_, ?_, hj, dp (q j), A8 _ hj, ?_⟩
    · rcases k3 with ⟨-, k4, -⟩ | ⟨-, k4, -⟩
      · rw [show by' (q i) / 2 = li k by omega]; exact ⟨⟨k, k1, rfl⟩, k2⟩
      · rw [show by' (q i) / 2 = li k by omega]; exact ⟨⟨k, k1, rfl⟩, k2⟩
    · have := (hG.2.2.2.1 k k1).1
      have := hG.2.2.1
      rcases k3 with ⟨-, k4, -⟩ | ⟨-, k4, -⟩ <;> omega
    · unfold mtg at j3
      rcases k3 with ⟨-, k4, k5⟩ | ⟨-, k4, k5⟩
      · rw [if_pos (by omega)] at j3
        left
        exact ⟨by omega, by rw [show by' (q i) / 2 = li k by omega]; exact k5, j3⟩
      · rw [if_neg (by omega)] at j3
        right
        exact ⟨by omega, by rw [show by' (q i) / 2 = li k by omega]; exact k5, j3⟩
    · rw [← j4]; exact A8 _ hv
