/-! GRAPH: walks, reaching, distances (over any relation on numbers) -/
def wk (E : Nat → Nat → Prop) : Nat → Nat → Nat → Prop
  | 0, a, b => a = b
  | n + 1, a, b => ∃ c, wk E n a c ∧ E c b
def rch (E : Nat → Nat → Prop) (a b : Nat) : Prop := ∃ n, wk E n a b
def ds (E : Nat → Nat → Prop) (a b n : Nat) : Prop := wk E n a b ∧ ∀ m, wk E m a b → n ≤ m
theorem rch.rfl' {E : Nat → Nat → Prop} (a : Nat) : rch E a a := ⟨0, rfl⟩
theorem rch.snoc {E : Nat → Nat → Prop} {a b c : Nat} (h : rch E a b) (e : E b c) : rch E a c := by
  obtain ⟨n, h⟩ := h
  exact ⟨n + 1, b, h, e⟩
theorem rch.one {E : Nat → Nat → Prop} {a b : Nat} (e : E a b) : rch E a b := (rch.rfl' a).snoc e
theorem wk_app {E : Nat → Nat → Prop} {a b c m : Nat} (h1 : wk E m a b) : ∀ {n : Nat}, wk E n b c → wk E (m + n) a c := by
  intro n
  induction n generalizing c with
  | zero => intro h; cases h; exact h1
  | succ n ih =>
    rintro ⟨d, h2, h3⟩
    exact ⟨d, ih h2, h3⟩
theorem rch.trans {E : Nat → Nat → Prop} {a b c : Nat} (h1 : rch E a b) (h2 : rch E b c) : rch E a c := by
  obtain ⟨m, h1⟩ := h1
  obtain ⟨n, h2⟩ := h2
  exact ⟨m + n, wk_app h1 h2⟩
theorem wk_one {E : Nat → Nat → Prop} {a b : Nat} (e : E a b) : wk E 1 a b := ⟨a, rfl, e⟩
theorem wk_cons {E : Nat → Nat → Prop} {a b c n : Nat} (e : E a b) (h : wk E n b c) : wk E (n + 1) a c := by
  have := wk_app (wk_one e) h
  rwa [Nat.add_comm] at this
theorem rch.cons {E : Nat → Nat → Prop} {a b c : Nat} (e : E a b) (h : rch E b c) : rch E a c := (rch.one e).trans h
/-- reaching from a closed set stays in it -/
theorem rch.closed {E : Nat → Nat → Prop} {S : Nat → Prop} (hc : ∀ u v, S u → E u v → S v) {a b : Nat} (ha : S a) (h : rch E a b) : S b := by
  obtain ⟨n, h⟩ := h
  induction n generalizing b with
  | zero => cases h; exact ha
  | succ n ih =>
    obtain ⟨c, h1, h2⟩ := h
    exact hc c b (ih h1) h2
theorem rch.mono {E E' : Nat → Nat → Prop} (hE : ∀ u v, E u v → E' u v) {a b : Nat} (h : rch E a b) : rch E' a b :=
  rch.closed (S := fun x => rch E' a x) (fun u v hu e => hu.snoc (hE u v e)) (rch.rfl' a) h
theorem rch.mono_in {E E' : Nat → Nat → Prop} {a b : Nat} (h : rch E a b) (hE : ∀ u v, rch E a u → E u v → E' u v) : rch E' a b := by
  have : rch E a b ∧ rch E' a b := rch.closed (S := fun x => rch E a x ∧ rch E' a x) (fun u v hu e => ⟨hu.1.snoc e, hu.2.snoc (hE u v hu.1 e)⟩) ⟨rch.rfl' a, rch.rfl' a⟩ h
  exact this.2
theorem wk_rev {E : Nat → Nat → Prop} (hs : ∀ u v, E u v → E v u) {a b n : Nat} (h : wk E n a b) : wk E n b a := by
  induction n generalizing b with
  | zero => exact h.symm
  | succ n ih =>
    obtain ⟨c, h1, h2⟩ := h
    exact wk_cons (hs _ _ h2) (ih h1)
theorem rch.symm' {E : Nat → Nat → Prop} (hs : ∀ u v, E u v → E v u) {a b : Nat} (h : rch E a b) : rch E b a := by
  obtain ⟨n, h⟩ := h
  exact ⟨n, wk_rev hs h⟩
theorem wk_flip {E : Nat → Nat → Prop} {a b n : Nat} (h : wk E n a b) : wk (fun u v => E v u) n b a := by
  induction n generalizing b with
  | zero => exact h.symm
  | succ n ih =>
    obtain ⟨c, h1, h2⟩ := h
    exact wk_cons (E := fun u v => E v u) h2 (ih h1)
theorem rch.flip {E : Nat → Nat → Prop} {a b : Nat} (h : rch E a b) : rch (fun u v => E v u) b a := by
  obtain ⟨n, h⟩ := h
  exact ⟨n, wk_flip h⟩
theorem rch.flip_iff {E : Nat → Nat → Prop} {a b : Nat} : rch (fun u v => E v u) b a ↔ rch E a b := ⟨fun h => h.flip, fun h => h.flip⟩
theorem nat_least {P : Nat → Prop} (h : ∃ n, P n) : ∃ n, P n ∧ ∀ m, P m → n ≤ m := by
  obtain ⟨n, hn⟩ := h
  induction n using Nat.strongRecOn with
  | ind n ih =>
    by_cases hm : ∃ m, m < n ∧ P m
    · obtain ⟨m, h1, h2⟩ := hm
      exact ih m h1 h2
    · refine ⟨n, hn, fun m hPm => ?_⟩
      rcases Nat.lt_or_ge m n with h | h
      · exact absurd ⟨m, h, hPm⟩ hm
      · exact h
theorem rch.ds {E : Nat → Nat → Prop} {a b : Nat} (h : rch E a b) : ∃ n, ds E a b n := nat_least h
theorem ds.uniq {E : Nat → Nat → Prop} {a b m n : Nat} (h1 : ds E a b m) (h2 : ds E a b n) : m = n := by
  have := h1.2 n h2.1
  have := h2.2 m h1.1
  omega
theorem ds.rch {E : Nat → Nat → Prop} {a b n : Nat} (h : ds E a b n) : rch E a b := ⟨n, h.1⟩
theorem ds_zero {E : Nat → Nat → Prop} (a : Nat) : ds E a a 0 := ⟨rfl, fun _ _ => Nat.zero_le _⟩
theorem ds.eq_zero {E : Nat → Nat → Prop} {a b : Nat} (h : ds E a b 0) : a = b := h.1
theorem ds.step {E : Nat → Nat → Prop} {a b c n m : Nat} (h : ds E a b n) (e : E b c) (h2 : ds E a c m) : m ≤ n + 1 := h2.2 _ ⟨b, h.1, e⟩
theorem ds.pred {E : Nat → Nat → Prop} {a b n : Nat} (h : ds E a b (n + 1)) : ∃ c, ds E a c n ∧ E c b := by
  obtain ⟨⟨c, h1, h2⟩, h3⟩ := h
  obtain ⟨m, hm⟩ := rch.ds ⟨n, h1⟩
  have := hm.2 n h1
  have := h3 (m + 1) ⟨c, hm.1, h2⟩
  have e : m = n := by omega
  subst e
  exact ⟨c, hm, h2⟩
/-- a height that a relation changes by one at most is no more than the distance from where it is 0 -/
theorem wk_height {E : Nat → Nat → Prop} {f : Nat → Nat} (hf : ∀ u v, E u v → f v ≤ f u + 1) {a b n : Nat} (h : wk E n a b) : f b ≤ f a + n := by
  induction n generalizing b with
  | zero => cases h; exact Nat.le_refl _
  | succ n ih =>
    obtain ⟨c, h1, h2⟩ := h
    have := ih h1
    have := hf c b h2
    omega
/-- a height that a relation changes by one exactly: its parity is that of the walks -/
theorem wk_parity {E : Nat → Nat → Prop} {f : Nat → Nat} (hf : ∀ u v, E u v → f v = f u + 1 ∨ f u = f v + 1) {a b n : Nat} (h : wk E n a b) : (f a + f b) % 2 = n % 2 := by
  induction n generalizing b with
  | zero => cases h; omega
  | succ n ih =>
    obtain ⟨c, h1, h2⟩ := h
    have := ih h1
    have := hf c b h2
    omega
/-- how many numbers below n are in a set -/
noncomputable def cntP (P : Nat → Prop) : Nat → Nat
  | 0 => 0
  | n + 1 => cntP P n + @ite _ (P n) (Classical.propDecidable _) 1 0
theorem cntP_succ_pos {P : Nat → Prop} {n : Nat} (h : P n) : cntP P (n + 1) = cntP P n + 1 := by
  simp only [cntP, if_pos h]
theorem cntP_succ_neg {P : Nat → Prop} {n : Nat} (h : ¬ P n) : cntP P (n + 1) = cntP P n := by
  simp only [cntP, if_neg h, Nat.add_zero]
theorem cntP_congr {P Q : Nat → Prop} {n : Nat} (h : ∀ k, k < n → (P k ↔ Q k)) : cntP P n = cntP Q n := by
  induction n with
  | zero => rfl
  | succ n ih =>
    have h1 := ih (fun k hk => h k (by omega))
    by_cases hp : P n
    · rw [cntP_succ_pos hp, cntP_succ_pos ((h n (by omega)).mp hp), h1]
    · rw [cntP_succ_neg hp, cntP_succ_neg (fun q => hp ((h n (by omega)).mpr q)), h1]
theorem cntP_le {P Q : Nat → Prop} {n : Nat} (h : ∀ k, k < n → P k → Q k) : cntP P n ≤ cntP Q n := by
  induction n with
  | zero => exact Nat.le_refl _
  | succ n ih =>
    have h1 := ih (fun k hk => h k (by omega))
    by_cases hp : P n
    · rw [cntP_succ_pos hp, cntP_succ_pos (h n (by omega) hp)]; omega
    · rw [cntP_succ_neg hp]
      by_cases hq : Q n
      · rw [cntP_succ_pos hq]; omega
      · rw [cntP_succ_neg hq]; exact h1
theorem cntP_bound {P : Nat → Prop} {n : Nat} : cntP P n ≤ n := by
  induction n with
  | zero => exact Nat.le_refl _
  | succ n ih =>
    by_cases hp : P n
    · rw [cntP_succ_pos hp]; omega
    · rw [cntP_succ_neg hp]; omega
theorem cntP_zero {P : Nat → Prop} {n : Nat} (h : ∀ k, k < n → ¬ P k) : cntP P n = 0 := by
  induction n with
  | zero => rfl
  | succ n ih => rw [cntP_succ_neg (h n (by omega)), ih (fun k hk => h k (by omega))]
/-- one number more -/
theorem cntP_insert {P : Nat → Prop} {n a : Nat} (ha : a < n) (hn : ¬ P a) : cntP (fun k => P k ∨ k = a) n = cntP P n + 1 := by
  induction n with
  | zero => omega
  | succ n ih =>
    by_cases e : a = n
    · subst e
      rw [cntP_succ_pos (Or.inr rfl), cntP_succ_neg hn, cntP_congr (Q := P)]
      intro k hk
      exact ⟨fun q => q.elim id (fun e => by omega), Or.inl⟩
    · have h1 := ih (by omega)
      by_cases hp : P n
      · rw [cntP_succ_pos (Or.inl hp), cntP_succ_pos hp, h1]
      · rw [cntP_succ_neg (fun q => q.elim hp (fun e2 => e e2.symm)), cntP_succ_neg hp, h1]
theorem cntP_sum {P Q : Nat → Prop} {n : Nat} (hd : ∀ k, k < n → ¬ (P k ∧ Q k)) : cntP (fun k => P k ∨ Q k) n = cntP P n + cntP Q n := by
  induction n with
  | zero => rfl
  | succ n ih =>
    have h1 := ih (fun k hk => hd k (by omega))
    have h2 := hd n (by omega)
    by_cases hp : P n
    · have hq : ¬ Q n := fun q => h2 ⟨hp, q⟩
      rw [cntP_succ_pos (Or.inl hp), cntP_succ_pos hp, cntP_succ_neg hq, h1]; omega
    · by_cases hq : Q n
      · rw [cntP_succ_pos (Or.inr hq), cntP_succ_neg hp, cntP_succ_pos hq, h1]; omega
      · rw [cntP_succ_neg (fun q => q.elim hp hq), cntP_succ_neg hp, cntP_succ_neg hq, h1]
/-- a row of different numbers below n that are in P has no more places than P numbers; as many if it has them all -/
theorem cntP_row {P : Nat → Prop} {n : Nat} {q : Nat → Nat} : ∀ {t : Nat}, (∀ i, i < t → q i < n ∧ P (q i)) → (∀ i j, i < t → j < t → q i = q j → i = j) → t ≤ cntP P n ∧ ((∀ v, v < n → P v → ∃ i, i < t ∧ q i = v) → cntP P n = t) := by
  intro t
  induction t generalizing P with
  | zero =>
    intro h1 h2
    exact ⟨Nat.zero_le _, fun h => cntP_zero (fun k hk hp => by obtain ⟨i, hi, -⟩ := h k hk hp; omega)⟩
  | succ t ih =>
    intro h1 h2
    have hP : cntP P n = cntP (fun k => (P k ∧ k ≠ q t) ∨ k = q t) n := cntP_congr (fun k hk => ⟨fun p => by
      by_cases e : k = q t
      · exact Or.inr e
      · exact Or.inl ⟨p, e⟩, fun p => p.elim (fun p => p.1) (fun e => by rw [e]; exact (h1 t (by omega)).2)⟩)
    rw [cntP_insert (h1 t (by omega)).1 (fun p => p.2 rfl)] at hP
    obtain ⟨g1, g2⟩ := ih (P := fun k => P k ∧ k ≠ q t) (fun i hi => ⟨(h1 i (by omega)).1, (h1 i (by omega)).2, fun e => by have := h2 i t (by omega) (by omega) e; omega⟩) (fun i j hi hj e => h2 i j (by omega) (by omega) e)
    refine ⟨by omega, fun h => ?_⟩
    rw [hP, g2 (fun v hv hp => ?_)]
    obtain ⟨i, hi, hq⟩ := h v hv hp.1
    refine ⟨i, ?_, hq⟩
    rcases Nat.lt_or_ge i t with h | h
    · exact h
    · have : i = t := by omega
      subst this
      exact absurd hq.symm hp.2
