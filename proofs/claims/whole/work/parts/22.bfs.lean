/-! BREADTH FIRST, as numbers: a row q of t nodes, heights dp, by what each came; h of them are looked through -/
def bE (al : Nat → List Nat) (tg : Nat → Nat) (u v : Nat) : Prop := ∃ e, e ∈ al u ∧ tg e = v
def bf (n : Nat) (al : Nat → List Nat) (tg : Nat → Nat) (fr h t : Nat) (q dp by' : Nat → Nat) : Prop :=
  0 < t ∧ h ≤ t ∧ q 0 = fr ∧ dp fr = 0 ∧ (∀ i, i < t → q i < n) ∧ (∀ i j, i < t → j < t → q i = q j → i = j) ∧
  (∀ i, i < t → wk (bE al tg) (dp (q i)) fr (q i)) ∧ (∀ i j, i ≤ j → j < t → dp (q i) ≤ dp (q j)) ∧
  (∀ i, i < t → h < t → dp (q i) ≤ dp (q h) + 1) ∧
  (∀ i, i < h → ∀ e, e ∈ al (q i) → ∃ j, j < t ∧ q j = tg e ∧ dp (tg e) ≤ dp (q i) + 1) ∧
  (∀ i, 0 < i → i < t → ∃ j, j < t ∧ by' (q i) ∈ al (q j) ∧ tg (by' (q i)) = q i ∧ dp (q i) = dp (q j) + 1) ∧
  (∀ i, i < t → dp (q i) ≤ i)
theorem bf_start {n fr : Nat} {al : Nat → List Nat} {tg dp by' : Nat → Nat} (hf : fr < n) (hd : dp fr = 0) : bf n al tg fr 0 1 (fun _ => fr) dp by' := by
  refine ⟨by omega, by omega, rfl, hd, fun _ _ => hf, fun i j hi hj _ => by omega, fun i _ => by rw [hd]; rfl, fun _ _ _ _ => Nat.le_refl _, fun i _ _ => Nat.le_succ (dp fr), fun i hi => by omega, fun i h0 h1 => by omega, fun i hi => by rw [hd]; omega⟩
theorem bf_lt {n fr h t : Nat} {al : Nat → List Nat} {tg q dp by' : Nat → Nat} (B : bf n al tg fr h t q dp by') {v : Nat} (hv : v < n) (hn : ∀ i, i < t → q i ≠ v) : t < n := by
  obtain ⟨-, -, -, -, b5, b6, -⟩ := B
  have := (cntP_row (P := fun _ => True) (n := n) (q := fun i => if i = t then v else q i) (t := t + 1) (fun i hi => ⟨by
    by_cases e : i = t
    · simp [e]; exact hv
    · simp [e]; exact b5 i (by omega), trivial⟩) (fun i j hi hj hq => by
    by_cases e1 : i = t
    · by_cases e2 : j = t
      · omega
      · simp [e1, e2] at hq
        exact absurd hq.symm (hn j (by omega))
    · by_cases e2 : j = t
      · simp [e1, e2] at hq
        exact absurd hq (hn i (by omega))
      · simp [e1, e2] at hq
        exact b6 i j (by omega) (by omega) hq)).1
  have := @cntP_bound (fun _ => True) n
  omega
/-- a node more, by half-arc e of the node that is looked through -/
theorem bf_add {n fr h t : Nat} {al : Nat → List Nat} {tg q dp by' : Nat → Nat} (B : bf n al tg fr h t q dp by') (hh : h < t) {e v : Nat} (he : e ∈ al (q h)) (ht : tg e = v) (hv : v < n) (hn : ∀ i, i < t → q i ≠ v) :
    bf n al tg fr h (t + 1) (fun i => if i = t then v else q i) (fun x => if x = v then dp (q h) + 1 else dp x) (fun x => if x = v then e else by' x) := by
  obtain ⟨b1, b2, b3, b4, b5, b6, b7, b8, b9, b10, b11, b12⟩ := B
  have q0 : ∀ i, i < t → (if i = t then v else q i) = q i := fun i hi => if_neg (by omega)
  have d0 : ∀ i, i < t → (if q i = v then dp (q h) + 1 else dp (q i)) = dp (q i) := fun i hi => if_neg (hn i hi)
  have y0 : ∀ i, i < t → (if q i = v then e else by' (q i)) = by' (q i) := fun i hi => if_neg (hn i hi)
  have hfv : fr ≠ v := by rw [← b3]; exact hn 0 b1
  refine ⟨by omega, by omega, ?_, ?_, fun i hi => ?_, fun i j hi hj hq => ?_, fun i hi => ?_, fun i j hij hj => ?_, fun i hi _ => ?_, fun i hi e2 he2 => ?_, fun i h0 hi => ?_, fun i hi => ?_⟩
  · show (if 0 = t then v else q 0) = fr
    rw [q0 0 b1]; exact b3
  · show (if fr = v then dp (q h) + 1 else dp fr) = 0
    rw [if_neg hfv]; exact b4
  · show (if i = t then v else q i) < n
    by_cases c : i = t
    · rw [if_pos c]; exact hv
    · rw [q0 i (by omega)]; exact b5 i (by omega)
  · dsimp only at hq
    by_cases c1 : i = t <;> by_cases c2 : j = t
    · omega
    · rw [if_pos c1, q0 j (by omega)] at hq; exact absurd hq.symm (hn j (by omega))
    · rw [if_pos c2, q0 i (by omega)] at hq; exact absurd hq (hn i (by omega))
    · rw [q0 i (by omega), q0 j (by omega)] at hq; exact b6 i j (by omega) (by omega) hq
  · dsimp only
    by_cases c : i = t
    · rw [if_pos c, if_pos rfl]
      exact ⟨q h, b7 h hh, e, he, ht⟩
    · rw [q0 i (by omega), d0 i (by omega)]; exact b7 i (by omega)
  · dsimp only
    by_cases c2 : j = t
    · rw [if_pos c2, if_pos rfl]
      by_cases c1 : i = t
      · rw [if_pos c1, if_pos rfl]; exact Nat.le_refl _
      · rw [q0 i (by omega), d0 i (by omega)]; exact b9 i (by omega) hh
    · rw [q0 j (by omega), d0 j (by omega), q0 i (by omega), d0 i (by omega)]; exact b8 i j hij (by omega)
  · dsimp only
    rw [q0 h hh, d0 h hh]
    by_cases c : i = t
    · rw [if_pos c, if_pos rfl]; exact Nat.le_refl _
    · rw [q0 i (by omega), d0 i (by omega)]; exact b9 i (by omega) hh
  · dsimp only at he2 ⊢
    rw [q0 i (by omega)] at he2 ⊢
    rw [d0 i (by omega)]
    obtain ⟨j, g1, g2, g3⟩ := b10 i hi e2 he2
    refine ⟨j, by omega, by rw [q0 j g1]; exact g2, ?_⟩
    rw [← g2, d0 j g1, g2]; exact g3
  · dsimp only
    by_cases c : i = t
    · rw [if_pos c, if_pos rfl, if_pos rfl]
      exact ⟨h, by omega, by rw [q0 h hh]; exact he, ht, by rw [q0 h hh, d0 h hh]⟩
    · rw [q0 i (by omega), d0 i (by omega), y0 i (by omega)]
      obtain ⟨j, g1, g2, g3, g4⟩ := b11 i h0 (by omega)
      exact ⟨j, by omega, by rw [q0 j g1]; exact g2, g3, by rw [q0 j g1, d0 j g1]; exact g4⟩
  · dsimp only
    by_cases c : i = t
    · rw [if_pos c, if_pos rfl]
      have := b12 h hh
      omega
    · rw [q0 i (by omega), d0 i (by omega)]; exact b12 i (by omega)
/-- the next node: all half-arcs of the one before lead to nodes of the row -/
theorem bf_next {n fr h t : Nat} {al : Nat → List Nat} {tg q dp by' : Nat → Nat} (B : bf n al tg fr h t q dp by') (hh : h < t) (hd : ∀ e, e ∈ al (q h) → ∃ j, j < t ∧ q j = tg e) : bf n al tg fr (h + 1) t q dp by' := by
  obtain ⟨b1, b2, b3, b4, b5, b6, b7, b8, b9, b10, b11, b12⟩ := B
  refine ⟨b1, by omega, b3, b4, b5, b6, b7, b8, fun i hi h1 => ?_, fun i hi e he => ?_, b11, b12⟩
  · have := b9 i hi hh
    have := b8 h (h + 1) (by omega) h1
    omega
  · rcases Nat.lt_or_ge i h with c | c
    · exact b10 i c e he
    · have : i = h := by omega
      subst this
      obtain ⟨j, g1, g2⟩ := hd e he
      exact ⟨j, g1, g2, by rw [← g2]; exact b9 j g1 hh⟩
/-- at the end the row is what is reached, the heights are the distances -/
theorem bf_end {n fr t : Nat} {al : Nat → List Nat} {tg q dp by' : Nat → Nat} (B : bf n al tg fr t t q dp by') : (∀ v, rch (bE al tg) fr v ↔ ∃ i, i < t ∧ q i = v) ∧ (∀ v, rch (bE al tg) fr v → ds (bE al tg) fr v (dp v)) := by
  obtain ⟨b1, b2, b3, b4, b5, b6, b7, b8, b9, b10, b11, b12⟩ := B
  have key : ∀ m v, wk (bE al tg) m fr v → (∃ i, i < t ∧ q i = v) ∧ dp v ≤ m := by
    intro m
    induction m with
    | zero => intro v h; cases h; exact ⟨⟨0, b1, b3⟩, by omega⟩
    | succ m ih =>
      rintro v ⟨u, h1, e, h2, rfl⟩
      obtain ⟨⟨i, hi, rfl⟩, hm⟩ := ih u h1
      obtain ⟨j, g1, g2, g3⟩ := b10 i hi e h2
      exact ⟨⟨j, g1, g2⟩, by omega⟩
  refine ⟨fun v => ⟨fun ⟨m, h⟩ => (key m v h).1, fun ⟨i, hi, hv⟩ => ⟨_, hv ▸ b7 i hi⟩⟩, fun v ⟨m, h⟩ => ⟨?_, fun m2 h2 => (key m2 v h2).2⟩⟩
  obtain ⟨i, hi, rfl⟩ := (key m v h).1
  exact b7 i hi
/-- the reference's arrays hold such a search -/
def bfS (s : kS) (n fr t : Nat) (q dp by' : Nat → Nat) : Prop := s 14 27 = t ∧ (∀ i, i < t → s 86 i = q i ∧ s 88 (q i) = dp (q i)) ∧ (∀ v, v < n → (s 85 v = 0 ∨ s 85 v = 1) ∧ (s 85 v = 1 ↔ ∃ i, i < t ∧ q i = v)) ∧ s 87 fr = -1 ∧ (∀ i, 0 < i → i < t → s 87 (q i) = by' (q i))
def bfK (σ s : kS) : Prop := (∀ o, o ≠ 85 → o ≠ 86 → o ≠ 87 → o ≠ 88 → o ≠ 14 → s o = σ o) ∧ ∀ k, k ≠ 27 → s 14 k = σ 14 k
