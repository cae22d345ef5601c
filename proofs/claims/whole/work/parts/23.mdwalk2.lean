/-! THE REFERENCE'S WALK 2: breadth first over the chains -/
def bfA (σ : kS) (n : Nat) (al : Nat → List Nat) (tg : Nat → Nat) : Prop := ∀ v, v < n → ∀ e, e ∈ al v → e < 10000 ∧ tg e < n ∧ (e % 2 = 0 → σ 72 (e / 2) = tg e) ∧ (e % 2 = 1 → σ 71 (e / 2) = tg e)
theorem bfK_kup {σ s : kS} {o k : Nat} {x : Int} (h : bfK σ s) (ho : (o = 85 ∨ o = 86 ∨ o = 87 ∨ o = 88) ∨ (o = 14 ∧ k = 27)) : bfK σ (kup s o k x) := by
  refine ⟨fun a h1 h2 h3 h4 h5 => ?_, fun a ha => ?_⟩
  · rw [kup_ne (by omega)]; exact h.1 a h1 h2 h3 h4 h5
  · by_cases e : o = 14
    · subst e
      rw [kup_eq, if_neg (by omega)]; exact h.2 a ha
    · rw [kup_ne (fun q => e q.symm)]; exact h.2 a ha
theorem chn_agree {σ s : kS} (h : s 90 = σ 90) : ∀ {l : List Nat} {e : Int}, chn σ e l → chn s e l := by
  intro l
  induction l with
  | nil => intro e q; exact q
  | cons a t ih => intro e q; obtain ⟨q1, q2, q3⟩ := q; exact ⟨q1, q2, by rw [h]; exact ih q3⟩
theorem bfS_add {s : kS} {n fr t e v d : Nat} {q dp by' : Nat → Nat} (B : bfS s n fr t q dp by') (hfr : fr < n) (hfq : q 0 = fr) (ht0 : 0 < t) (hv : v < n) (hqn : ∀ i, i < t → q i < n) (hn : ∀ i, i < t → q i ≠ v) :
    bfS (kup (kup (kup (kup (kup s 85 v 1) 87 v (e : Int)) 88 v (d : Int)) 86 t (v : Int)) 14 27 ((t : Int) + 1)) n fr (t + 1) (fun i => if i = t then v else q i) (fun x => if x = v then d else dp x) (fun x => if x = v then e else by' x) := by
  obtain ⟨b1, b2, b3, b4, b5⟩ := B
  have hfv : fr ≠ v := by rw [← hfq]; exact hn 0 ht0
  refine ⟨by simp [kup_eq], fun i hi => ⟨?_, ?_⟩, fun w hw => ⟨?_, ?_⟩, ?_, fun i h0 hi => ?_⟩
  · rw [kup_ne (by decide), kup_eq]
    by_cases c : i = t
    · simp [c]
    · simp only [if_neg c]; rw [kup_ne (by decide), kup_ne (by decide), kup_ne (by decide)]; exact (b2 i (by omega)).1
  · rw [kup_ne (by decide), kup_ne (by decide), kup_eq]
    by_cases c : i = t
    · simp [c]
    · have := hn i (by omega)
      simp only [if_neg c, if_neg this]; rw [kup_ne (by decide), kup_ne (by decide)]; exact (b2 i (by omega)).2
  · rw [kup_ne (by decide), kup_ne (by decide), kup_ne (by decide), kup_ne (by decide), kup_eq]
    by_cases c : w = v
    · simp [c]
    · rw [if_neg c]; exact (b3 w hw).1
  · rw [kup_ne (by decide), kup_ne (by decide), kup_ne (by decide), kup_ne (by decide), kup_eq]
    by_cases c : w = v
    · simp only [if_pos c, true_iff]
      exact ⟨t, by omega, by simp [c]⟩
    · rw [if_neg c, (b3 w hw).2]
      constructor
      · rintro ⟨i, hi, hq⟩; exact ⟨i, by omega, by simp [show ¬ i = t by omega, hq]⟩
      · rintro ⟨i, hi, hq⟩
        by_cases ci : i = t
        · simp [ci] at hq; exact absurd hq.symm c
        · simp [ci] at hq; exact ⟨i, by omega, hq⟩
  · rw [kup_ne (by decide), kup_ne (by decide), kup_ne (by decide), kup_eq, if_neg hfv, kup_ne (by decide)]; exact b4
  · rw [kup_ne (by decide), kup_ne (by decide), kup_ne (by decide), kup_eq]
    by_cases c : i = t
    · simp [c]
    · have := hn i (by omega)
      simp only [if_neg c, if_neg this]; rw [kup_ne (by decide)]; exact b5 i h0 (by omega)
