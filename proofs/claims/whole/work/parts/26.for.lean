/-! LOOPS THAT COUNT, as one statement -/
theorem take_pre {α : Type} : ∀ {P l : List α} {j : Nat}, P.length = j → (P ++ l).take j = P := by
  intro P
  induction P with
  | nil => intro l j h; subst h; rfl
  | cons a t ih =>
    intro l j h
    subst h
    show a :: (t ++ l).take t.length = a :: t
    rw [ih rfl]
theorem kgI_end {z : Int} {F : Int → Prop} : ∀ {P : kL} {j : Nat}, P.length = j → (kgI (P ++ [some (.inl z)]) j F ↔ F z) := by
  intro P
  induction P with
  | nil => intro j h; subst h; exact Iff.rfl
  | cons a t ih => intro j h; subst h; exact ih rfl
theorem kst_end {w : Option kV} {v : kV} : ∀ {P : kL} {j : Nat}, P.length = j → kst (P ++ [w]) j v = P ++ [some v] := by
  intro P
  induction P with
  | nil => intro j h; subst h; rfl
  | cons a t ih =>
    intro j h
    subst h
    show a :: kst (t ++ [w]) t.length v = a :: (t ++ [some v])
    rw [ih rfl]
theorem kNLl_end {z : Int} : ∀ {P : kL}, kNLl P = true → kNLl (P ++ [some (.inl z)]) = true := by
  intro P
  induction P with
  | nil => intro _; rfl
  | cons a t ih =>
    intro h
    rcases a with _ | x | o | x
    · exact ih h
    · exact ih h
    · exact ih h
    · cases h
theorem kset_end {P : kL} {j : Nat} {z : Int} (hj : P.length = j) (hl : kNLl P = true) : kset P j (.inl z) = some (P ++ [some (.inl z)]) := by
  rw [kset_kst hl (by omega) (by simp [ktag]), kst_set.2 hj]
/-- the body of a loop that counts: on to the next, or a return -/
def kStep (j : Nat) (i : Int) (J : kL → kS → Prop) (R : Option kV → kL → kS → Prop) : kR → kL → kS → Prop := fun r L s =>
  ((r = rN ∨ r = rC) ∧ ∃ P, L.take (j + 1) = P ++ [some (.inl i)] ∧ J P s) ∨ ∃ v, r = rR v ∧ R v (L.take j) s
theorem wpS_fortG {j : Nat} {d : Int} {e0 : kEx} {c : kCx} {body : kSx} {P0 : kL} {s0 : kS} {Q : kR → kL → kS → Prop} (I : Nat → kL → kS → Prop) (cv : Nat → Int) (N : Nat)
    (hj : P0.length = j) (hl : kNLl P0 = true)
    (he : wpE e0 P0 s0 (fun v s => v = .inl (cv 0) ∧ s = s0))
    (hI : I 0 P0 s0)
    (hk : ∀ i P s, I i P s → P.length = j ∧ kNLl P = true)
    (hs : ∀ i P s, i ≤ N → I i P s → wpC c (P ++ [some (.inl (cv i))]) s (fun t s' => s' = s ∧ ((t = true ∧ i < N ∧ cv (i + 1) = cv i + d ∧ -2147483648 ≤ cv i + d ∧ cv i + d < 2147483648 ∧ wpS body (P ++ [some (.inl (cv i))]) s (kStep j (cv i) (I (i + 1)) (fun v => Q (rR v)))) ∨ (t = false ∧ Q rN P s)))) :
    wpS (sTrunc j (sSeq (sLet 0 j e0) (sFor (j + 1) c body (sInc j d)))) P0 s0 Q := by
  rw [wpS_trunc, wpS_seq, wpS_let]
  refine he.mono ?_
  rintro v s ⟨rfl, rfl⟩
  refine ⟨rfl, _, kset_end hj hl, ?_⟩
  rw [kThen_N]
  refine wpS_for (fun m L s => ∃ i P, i ≤ N ∧ m = N - i ∧ L = P ++ [some (.inl (cv i))] ∧ I i P s) ?_ N _ _ ⟨0, _, Nat.zero_le _, rfl, rfl, hI⟩
  rintro m L s1 ⟨i, P, h1, rfl, rfl, hi⟩
  refine (hs i P s1 h1 hi).mono ?_
  rintro t s' ⟨rfl, ⟨rfl, h2, h3, h4, h5, h6⟩ | ⟨rfl, h2⟩⟩
  · rw [if_pos rfl]
    refine h6.mono ?_
    rintro r L s2 (⟨hr, P', e, hI'⟩ | ⟨v, rfl, hq⟩)
    · obtain ⟨g1, g2⟩ := hk _ _ _ hI'
      have key : wpS (sInc j d) (L.take (j + 1)) s2 (fun r2 L2 σ2 => r2 = rN ∧ ∃ m, m < N - i ∧ ∃ i P, i ≤ N ∧ m = N - i ∧ L2 = P ++ [some (.inl (cv i))] ∧ I i P σ2) := by
        rw [e, xS_inc (kNLl_end g2) (by simp [g1]), kgI_end g1, kst_end g1]
        exact ⟨⟨h4, h5⟩, rfl, N - (i + 1), by omega, i + 1, P', by omega, rfl, by rw [h3], hI'⟩
      rcases hr with rfl | rfl
      · exact kNext_N.mpr key
      · exact kNext_C.mpr key
    · exact kNext_R.mpr hq
  · rw [if_neg (by simp)]
    show Q rN ((P ++ _).take j) s'
    rw [take_pre (hk _ _ _ hi).1]
    exact h2
/-- up to N, without another end than that or a return -/
theorem wpS_fort {j : Nat} {e0 : kEx} {c : kCx} {body : kSx} {P0 : kL} {s0 : kS} {Q : kR → kL → kS → Prop} (I : Nat → kL → kS → Prop) (i0 N : Nat)
    (hj : P0.length = j) (hl : kNLl P0 = true)
    (he : wpE e0 P0 s0 (fun v s => v = .inl (i0 : Int) ∧ s = s0))
    (hN : i0 ≤ N ∧ N < 2147483647) (hI : I i0 P0 s0)
    (hk : ∀ i P s, I i P s → P.length = j ∧ kNLl P = true)
    (hc : ∀ i P s, i0 ≤ i → i ≤ N → I i P s → wpC c (P ++ [some (.inl (i : Int))]) s (fun t s' => (t = true ↔ (i : Int) < (N : Int)) ∧ s' = s))
    (hb : ∀ i P s, i0 ≤ i → i < N → I i P s → wpS body (P ++ [some (.inl (i : Int))]) s (kStep j i (I (i + 1)) (fun v => Q (rR v))))
    (hx : ∀ P s, I N P s → Q rN P s) :
    wpS (sTrunc j (sSeq (sLet 0 j e0) (sFor (j + 1) c body (sInc j 1)))) P0 s0 Q := by
  refine wpS_fortG (fun i => I (i0 + i)) (fun i => ((i0 + i : Nat) : Int)) (N - i0) hj hl he hI (fun i => hk (i0 + i)) (fun i P s h1 h2 => (hc (i0 + i) P s (by omega) (by omega) h2).mono ?_)
  rintro t s' ⟨ht, rfl⟩
  refine ⟨rfl, ?_⟩
  by_cases h : i0 + i < N
  · left
    exact ⟨ht.mpr (by omega), by omega, by omega, by omega, by omega, hb (i0 + i) P s' (by omega) h h2⟩
  · right
    have e : i0 + i = N := by omega
    refine ⟨by cases t with
      | false => rfl
      | true => exact absurd (ht.mp rfl) (by omega), hx P s' (e ▸ h2)⟩
/-- the same, the other locals as they are -/
theorem wpS_fp {j : Nat} {e0 : kEx} {c : kCx} {body : kSx} {P0 : kL} {s0 : kS} {Q : kR → kL → kS → Prop} (I : Nat → kS → Prop) (i0 N : Nat)
    (hj : P0.length = j) (hl : kNLl P0 = true)
    (he : wpE e0 P0 s0 (fun v s => v = .inl (i0 : Int) ∧ s = s0))
    (hN : i0 ≤ N ∧ N < 2147483647) (hI : I i0 s0)
    (hc : ∀ i s, i0 ≤ i → i ≤ N → I i s → wpC c (P0 ++ [some (.inl (i : Int))]) s (fun t s' => (t = true ↔ (i : Int) < (N : Int)) ∧ s' = s))
    (hb : ∀ i s, i0 ≤ i → i < N → I i s → wpS body (P0 ++ [some (.inl (i : Int))]) s (kStep j i (fun P s => P = P0 ∧ I (i + 1) s) (fun v => Q (rR v))))
    (hx : ∀ s, I N s → Q rN P0 s) :
    wpS (sTrunc j (sSeq (sLet 0 j e0) (sFor (j + 1) c body (sInc j 1)))) P0 s0 Q :=
  wpS_fort (fun i P s => P = P0 ∧ I i s) i0 N hj hl he hN ⟨rfl, hI⟩ (fun i P s h => h.1 ▸ ⟨hj, hl⟩) (fun i P s h1 h2 h3 => by
    obtain ⟨rfl, h3⟩ := h3
    exact hc i s h1 h2 h3) (fun i P s h1 h2 h3 => by
    obtain ⟨rfl, h3⟩ := h3
    exact hb i s h1 h2 h3) (fun P s h => by
    obtain ⟨rfl, h⟩ := h
    exact hx s h)
theorem kStep_N {j : Nat} {i : Int} {J : kL → kS → Prop} {R : Option kV → kL → kS → Prop} {L P : kL} {s : kS} (h : L.take (j + 1) = P ++ [some (.inl i)]) (hJ : J P s) : kStep j i J R rN L s := Or.inl ⟨Or.inl rfl, P, h, hJ⟩
theorem kStep_C {j : Nat} {i : Int} {J : kL → kS → Prop} {R : Option kV → kL → kS → Prop} {L P : kL} {s : kS} (h : L.take (j + 1) = P ++ [some (.inl i)]) (hJ : J P s) : kStep j i J R rC L s := Or.inl ⟨Or.inr rfl, P, h, hJ⟩
theorem kStep_R {j : Nat} {i : Int} {J : kL → kS → Prop} {R : Option kV → kL → kS → Prop} {L : kL} {s : kS} {v : Option kV} (h : R v (L.take j) s) : kStep j i J R (rR v) L s := Or.inr ⟨v, rfl, h⟩
