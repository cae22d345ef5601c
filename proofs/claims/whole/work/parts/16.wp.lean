/-! WP: what a meaning comes to, by its form -/
def wpE (e : kEx) (L : kL) (σ : kS) (Q : kV → kS → Prop) : Prop := ∃ v σ', e L σ = some (v, σ') ∧ Q v σ'
def wpC (c : kCx) (L : kL) (σ : kS) (Q : Bool → kS → Prop) : Prop := ∃ t σ', c L σ = some (t, σ') ∧ Q t σ'
def wpA (es : kAx) (L : kL) (σ : kS) (Q : List kV → kS → Prop) : Prop := ∃ vs σ', es L σ = some (vs, σ') ∧ Q vs σ'
def wpS (s : kSx) (L : kL) (σ : kS) (Q : kR → kL → kS → Prop) : Prop := ∃ r L' σ', s L σ = some (r, L', σ') ∧ Q r L' σ'
def wpF (F : kFn) (av : List kV) (σ : kS) (Q : Option kV → kS → Prop) : Prop := ∃ r σ', F av σ = some (r, σ') ∧ Q r σ'
theorem wpE.mono {e : kEx} {L : kL} {σ : kS} {Q Q' : kV → kS → Prop} (h : wpE e L σ Q) (hq : ∀ v σ', Q v σ' → Q' v σ') : wpE e L σ Q' := by
  obtain ⟨v, s, h1, h2⟩ := h
  exact ⟨v, s, h1, hq _ _ h2⟩
theorem wpC.mono {e : kCx} {L : kL} {σ : kS} {Q Q' : Bool → kS → Prop} (h : wpC e L σ Q) (hq : ∀ v σ', Q v σ' → Q' v σ') : wpC e L σ Q' := by
  obtain ⟨v, s, h1, h2⟩ := h
  exact ⟨v, s, h1, hq _ _ h2⟩
theorem wpS.mono {e : kSx} {L : kL} {σ : kS} {Q Q' : kR → kL → kS → Prop} (h : wpS e L σ Q) (hq : ∀ r L' σ', Q r L' σ' → Q' r L' σ') : wpS e L σ Q' := by
  obtain ⟨v, l, s, h1, h2⟩ := h
  exact ⟨v, l, s, h1, hq _ _ _ h2⟩
theorem wpF.mono {F : kFn} {av : List kV} {σ : kS} {Q Q' : Option kV → kS → Prop} (h : wpF F av σ Q) (hq : ∀ r σ', Q r σ' → Q' r σ') : wpF F av σ Q' := by
  obtain ⟨v, s, h1, h2⟩ := h
  exact ⟨v, s, h1, hq _ _ h2⟩
section WPE
variable {L : kL} {σ : kS} {Q : kV → kS → Prop}
theorem wpE_K {z : Int} : wpE (eK z) L σ Q ↔ Q (.inl z) σ := by simp [wpE, eK]
theorem wpE_KL {z : Int} : wpE (eKL z) L σ Q ↔ Q (.inr (.inr z)) σ := by simp [wpE, eKL]
theorem wpE_I {i : Nat} : wpE (eI i) L σ Q ↔ ∃ z, L[i]? = some (some (.inl z)) ∧ Q (.inl z) σ := by
  constructor
  · rintro ⟨v, s, h1, h2⟩
    obtain ⟨z, h3, rfl, rfl⟩ := eI_eq h1
    exact ⟨z, h3, h2⟩
  · rintro ⟨z, h1, h2⟩
    exact ⟨_, _, by simp only [eI, h1], h2⟩
theorem wpE_R {i : Nat} : wpE (eR i) L σ Q ↔ ∃ z, L[i]? = some (some (.inr (.inl z))) ∧ Q (.inr (.inl z)) σ := by
  constructor
  · rintro ⟨v, s, h1, h2⟩
    obtain ⟨z, h3, rfl, rfl⟩ := eR_eq h1
    exact ⟨z, h3, h2⟩
  · rintro ⟨z, h1, h2⟩
    exact ⟨_, _, by simp only [eR, h1], h2⟩
theorem wpE_J {i : Nat} : wpE (eJ i) L σ Q ↔ ∃ z, L[i]? = some (some (.inr (.inr z))) ∧ Q (.inr (.inr z)) σ := by
  constructor
  · rintro ⟨v, s, h1, h2⟩
    obtain ⟨z, h3, rfl, rfl⟩ := eJ_eq h1
    exact ⟨z, h3, h2⟩
  · rintro ⟨z, h1, h2⟩
    exact ⟨_, _, by simp only [eJ, h1], h2⟩
theorem wpE_bin {f : Int → Int → Option Int} {a b : kEx} : wpE (eBin f a b) L σ Q ↔ wpE a L σ (fun v σ1 => wpE b L σ1 (fun w σ2 => ∃ x y z, v = .inl x ∧ w = .inl y ∧ f x y = some z ∧ Q (.inl z) σ2)) := by
  constructor
  · rintro ⟨v, s, h1, h2⟩
    simp only [eBin, Option.bind_eq_some_iff, Option.map_eq_some_iff] at h1
    obtain ⟨⟨v1, σ1⟩, h1, ⟨v2, σ2⟩, h3, x, hx, y, hy, z, hz, hq⟩ := h1
    cases hq
    exact ⟨_, _, h1, _, _, h3, x, y, z, kint_eq hx, kint_eq hy, hz, h2⟩
  · rintro ⟨v, s, h1, w, s2, h2, x, y, z, rfl, rfl, hz, hq⟩
    exact ⟨_, _, by simp only [eBin, h1, h2, Option.bind_some, kint, hz, Option.map_some], hq⟩
theorem wpE_ladd {a b : kEx} : wpE (eLAdd a b) L σ Q ↔ wpE a L σ (fun v σ1 => wpE b L σ1 (fun w σ2 => ∃ x y z, v = .inr (.inr x) ∧ w = .inr (.inr y) ∧ kck64 (x + y) = some z ∧ Q (.inr (.inr z)) σ2)) := by
  constructor
  · rintro ⟨v, s, h1, h2⟩
    simp only [eLAdd, Option.bind_eq_some_iff, Option.map_eq_some_iff] at h1
    obtain ⟨⟨v1, σ1⟩, h1, ⟨v2, σ2⟩, h3, x, hx, y, hy, z, hz, hq⟩ := h1
    cases hq
    exact ⟨_, _, h1, _, _, h3, x, y, z, klong_eq hx, klong_eq hy, hz, h2⟩
  · rintro ⟨v, s, h1, w, s2, h2, x, y, z, rfl, rfl, hz, hq⟩
    exact ⟨_, _, by simp only [eLAdd, h1, h2, Option.bind_some, klong, hz, Option.map_some], hq⟩
theorem wpE_i2l {a : kEx} : wpE (eI2L a) L σ Q ↔ wpE a L σ (fun v σ1 => ∃ x, v = .inl x ∧ Q (.inr (.inr x)) σ1) := by
  constructor
  · rintro ⟨v, s, h1, h2⟩
    simp only [eI2L, Option.bind_eq_some_iff, Option.map_eq_some_iff] at h1
    obtain ⟨⟨v1, σ1⟩, h1, x, hx, hq⟩ := h1
    cases hq
    exact ⟨_, _, h1, x, kint_eq hx, h2⟩
  · rintro ⟨v, s, h1, x, rfl, hq⟩
    exact ⟨_, _, by simp only [eI2L, h1, Option.bind_some, kint, Option.map_some], hq⟩
theorem wpE_get {ci k : Nat} {a : kEx} : wpE (eGet ci k a) L σ Q ↔ wpE a L σ (fun v σ1 => ∃ x, kget ci k v σ1 = some x ∧ Q x σ1) := by
  constructor
  · rintro ⟨v, s, h1, h2⟩
    simp only [eGet, Option.bind_eq_some_iff, Option.map_eq_some_iff] at h1
    obtain ⟨⟨v1, σ1⟩, h1, x, hx, hq⟩ := h1
    cases hq
    exact ⟨_, _, h1, _, hx, h2⟩
  · rintro ⟨v, s, h1, x, hx, hq⟩
    exact ⟨_, _, by simp only [eGet, h1, Option.bind_some, hx, Option.map_some], hq⟩
theorem kald_iff {kind : Nat} {v w : kV} {i : Int} {σ : kS} (hk : kind = 0 ∨ kind = 1) : kald kind v i σ = some w ↔ ∃ o n, kFA v kind = some (o, n) ∧ 0 ≤ i ∧ i < (n : Int) ∧ w = .inl (σ o i.toNat) := by
  unfold kald
  have h2 : ¬ kind = 2 := by omega
  constructor
  · intro h
    split at h
    · rename_i o n hF
      split at h
      · rename_i hin
        first | rw [if_neg h2] at h | skip
        cases h
        exact ⟨o, n, hF, hin.1, hin.2, rfl⟩
      · cases h
    · cases h
  · rintro ⟨o, n, hF, h0, h1, rfl⟩
    rw [hF]
    simp only [h0, h1, and_self, if_true, h2, if_false]
theorem wpE_ald {kind : Nat} {a i : kEx} (hk : kind = 0 ∨ kind = 1) : wpE (eAld kind a i) L σ Q ↔ wpE a L σ (fun v σ1 => wpE i L σ1 (fun w σ2 => ∃ o n x, kFA v kind = some (o, n) ∧ w = .inl x ∧ 0 ≤ x ∧ x < (n : Int) ∧ Q (.inl (σ2 o x.toNat)) σ2)) := by
  constructor
  · rintro ⟨v, s, h1, h2⟩
    simp only [eAld, Option.bind_eq_some_iff, Option.map_eq_some_iff] at h1
    obtain ⟨⟨v1, σ1⟩, h1, ⟨v2, σ2⟩, h3, x, hx, w, hw, hq⟩ := h1
    cases hq
    obtain ⟨o, n, q1, q2, q3, rfl⟩ := (kald_iff hk).mp hw
    exact ⟨_, _, h1, _, _, h3, o, n, x, q1, kint_eq hx, q2, q3, h2⟩
  · rintro ⟨v, s, h1, w, s2, h2, o, n, x, hF, rfl, h3, h4, hq⟩
    exact ⟨_, _, by simp only [eAld, h1, h2, Option.bind_some, kint, (kald_iff hk).mpr ⟨o, n, hF, h3, h4, rfl⟩, Option.map_some], hq⟩
theorem wpE_ald0 {a i : kEx} : wpE (eAld 0 a i) L σ Q ↔ wpE a L σ (fun v σ1 => wpE i L σ1 (fun w σ2 => ∃ o n x, kFA v 0 = some (o, n) ∧ w = .inl x ∧ 0 ≤ x ∧ x < (n : Int) ∧ Q (.inl (σ2 o x.toNat)) σ2)) := wpE_ald (Or.inl rfl)
theorem wpE_ald1 {a i : kEx} : wpE (eAld 1 a i) L σ Q ↔ wpE a L σ (fun v σ1 => wpE i L σ1 (fun w σ2 => ∃ o n x, kFA v 1 = some (o, n) ∧ w = .inl x ∧ 0 ≤ x ∧ x < (n : Int) ∧ Q (.inl (σ2 o x.toNat)) σ2)) := wpE_ald (Or.inr rfl)
theorem wpE_if {c : kCx} {a b : kEx} : wpE (eIf c a b) L σ Q ↔ wpC c L σ (fun t σ1 => if t = true then wpE a L σ1 Q else wpE b L σ1 Q) := by
  constructor
  · rintro ⟨v, s, h1, h2⟩
    simp only [eIf, Option.bind_eq_some_iff] at h1
    obtain ⟨⟨t, σ1⟩, h1, h3⟩ := h1
    refine ⟨t, σ1, h1, ?_⟩
    cases t
    · exact ⟨v, s, by simpa using h3, h2⟩
    · exact ⟨v, s, by simpa using h3, h2⟩
  · rintro ⟨t, σ1, h1, h2⟩
    cases t
    · obtain ⟨v, s, h3, h4⟩ : wpE b L σ1 Q := by simpa using h2
      exact ⟨v, s, by simp only [eIf, h1, Option.bind_some]; simpa using h3, h4⟩
    · obtain ⟨v, s, h3, h4⟩ : wpE a L σ1 Q := by simpa using h2
      exact ⟨v, s, by simp only [eIf, h1, Option.bind_some]; simpa using h3, h4⟩
theorem wpE_max {a b : kEx} : wpE (eMax a b) L σ Q ↔ wpE a L σ (fun v σ1 => wpE b L σ1 (fun w σ2 => ∃ x y, v = .inl x ∧ w = .inl y ∧ Q (.inl (if x < y then y else x)) σ2)) := by
  constructor
  · rintro ⟨v, s, h1, h2⟩
    simp only [eMax, Option.bind_eq_some_iff, Option.map_eq_some_iff] at h1
    obtain ⟨⟨v1, σ1⟩, h1, ⟨v2, σ2⟩, h3, x, hx, y, hy, hq⟩ := h1
    cases hq
    exact ⟨_, _, h1, _, _, h3, x, y, kint_eq hx, kint_eq hy, h2⟩
  · rintro ⟨v, s, h1, w, s2, h2, x, y, rfl, rfl, hq⟩
    exact ⟨_, _, by simp only [eMax, h1, h2, Option.bind_some, kint, Option.map_some], hq⟩
theorem wpE_min {a b : kEx} : wpE (eMin a b) L σ Q ↔ wpE a L σ (fun v σ1 => wpE b L σ1 (fun w σ2 => ∃ x y, v = .inl x ∧ w = .inl y ∧ Q (.inl (if y < x then y else x)) σ2)) := by
  constructor
  · rintro ⟨v, s, h1, h2⟩
    simp only [eMin, Option.bind_eq_some_iff, Option.map_eq_some_iff] at h1
    obtain ⟨⟨v1, σ1⟩, h1, ⟨v2, σ2⟩, h3, x, hx, y, hy, hq⟩ := h1
    cases hq
    exact ⟨_, _, h1, _, _, h3, x, y, kint_eq hx, kint_eq hy, h2⟩
  · rintro ⟨v, s, h1, w, s2, h2, x, y, rfl, rfl, hq⟩
    exact ⟨_, _, by simp only [eMin, h1, h2, Option.bind_some, kint, Option.map_some], hq⟩
theorem wpE_len {a : kEx} : wpE (eLen a) L σ Q ↔ wpE a L σ (fun v σ1 => ∃ n : Nat, klen v = some n ∧ Q (.inl (n : Int)) σ1) := by
  constructor
  · rintro ⟨v, s, h1, h2⟩
    simp only [eLen, Option.bind_eq_some_iff, Option.map_eq_some_iff] at h1
    obtain ⟨⟨v1, σ1⟩, h1, x, hx, hq⟩ := h1
    cases hq
    exact ⟨_, _, h1, _, hx, h2⟩
  · rintro ⟨v, s, h1, x, hx, hq⟩
    exact ⟨_, _, by simp only [eLen, h1, Option.bind_some, hx, Option.map_some], hq⟩
theorem wpA_nil {Q : List kV → kS → Prop} : wpA eNil L σ Q ↔ Q [] σ := ⟨fun ⟨_, _, h, q⟩ => by cases h; exact q, fun h => ⟨_, _, rfl, h⟩⟩
theorem wpA_snoc {Q : List kV → kS → Prop} {es : kAx} {e : kEx} : wpA (eSnoc es e) L σ Q ↔ wpA es L σ (fun vs σ1 => wpE e L σ1 (fun v σ2 => Q (vs ++ [v]) σ2)) := by
  constructor
  · rintro ⟨v, s, h1, h2⟩
    simp only [eSnoc, Option.bind_eq_some_iff, Option.map_eq_some_iff] at h1
    obtain ⟨⟨v1, σ1⟩, h1, ⟨v2, σ2⟩, h3, hq⟩ := h1
    cases hq
    exact ⟨_, _, h1, _, _, h3, h2⟩
  · rintro ⟨v, s, h1, w, s2, h2, hq⟩
    exact ⟨_, _, by simp only [eSnoc, h1, h2, Option.bind_some, Option.map_some], hq⟩
theorem wpE_call {ci : Nat} {F : kFn} {es : kAx} : wpE (eCall ci F es) L σ Q ↔ wpA es L σ (fun vs σ1 => kisO ci vs = true ∧ wpF F vs σ1 (fun r σ2 => ∃ v, r = some v ∧ Q v σ2)) := by
  constructor
  · rintro ⟨v, s, h1, h2⟩
    simp only [eCall, Option.bind_eq_some_iff] at h1
    obtain ⟨⟨vs, σ1⟩, h1, h3⟩ := h1
    split at h3
    · rename_i ho
      simp only [Option.bind_eq_some_iff, Option.map_eq_some_iff] at h3
      obtain ⟨⟨r, σ2⟩, h4, w, hw, hq⟩ := h3
      cases hq
      exact ⟨_, _, h1, ho, _, _, h4, _, hw, h2⟩
    · cases h3
  · rintro ⟨vs, s, h1, ho, r, s2, h2, v, rfl, hq⟩
    exact ⟨_, _, by simp only [eCall, h1, Option.bind_some, ho, if_true, h2, Option.map_some], hq⟩
theorem wpE_callS {F : kFn} {es : kAx} : wpE (eCallS F es) L σ Q ↔ wpA es L σ (fun vs σ1 => wpF F vs σ1 (fun r σ2 => ∃ v, r = some v ∧ Q v σ2)) := by
  constructor
  · rintro ⟨v, s, h1, h2⟩
    simp only [eCallS, Option.bind_eq_some_iff, Option.map_eq_some_iff] at h1
    obtain ⟨⟨vs, σ1⟩, h1, ⟨r, σ2⟩, h4, w, hw, hq⟩ := h1
    cases hq
    exact ⟨_, _, h1, _, _, h4, _, hw, h2⟩
  · rintro ⟨vs, s, h1, r, s2, h2, v, rfl, hq⟩
    exact ⟨_, _, by simp only [eCallS, h1, Option.bind_some, h2, Option.map_some], hq⟩
end WPE
section WPC
variable {L : kL} {σ : kS} {Q : Bool → kS → Prop}
theorem wpC_C {op : Nat} {a b : kEx} : wpC (cC op a b) L σ Q ↔ wpE a L σ (fun v σ1 => wpE b L σ1 (fun w σ2 => ∃ x y, v = .inl x ∧ w = .inl y ∧ Q (kcmp op x y) σ2)) := by
  constructor
  · rintro ⟨v, s, h1, h2⟩
    simp only [cC, Option.bind_eq_some_iff, Option.map_eq_some_iff] at h1
    obtain ⟨⟨v1, σ1⟩, h1, ⟨v2, σ2⟩, h3, x, hx, y, hy, hq⟩ := h1
    cases hq
    exact ⟨_, _, h1, _, _, h3, x, y, kint_eq hx, kint_eq hy, h2⟩
  · rintro ⟨v, s, h1, w, s2, h2, x, y, rfl, rfl, hq⟩
    exact ⟨_, _, by simp only [cC, h1, h2, Option.bind_some, kint, Option.map_some], hq⟩
theorem wpC_L {op : Nat} {a b : kEx} : wpC (cL op a b) L σ Q ↔ wpE a L σ (fun v σ1 => wpE b L σ1 (fun w σ2 => ∃ x y, v = .inr (.inr x) ∧ w = .inr (.inr y) ∧ Q (kcmp op x y) σ2)) := by
  constructor
  · rintro ⟨v, s, h1, h2⟩
    simp only [cL, Option.bind_eq_some_iff, Option.map_eq_some_iff] at h1
    obtain ⟨⟨v1, σ1⟩, h1, ⟨v2, σ2⟩, h3, x, hx, y, hy, hq⟩ := h1
    cases hq
    exact ⟨_, _, h1, _, _, h3, x, y, klong_eq hx, klong_eq hy, h2⟩
  · rintro ⟨v, s, h1, w, s2, h2, x, y, rfl, rfl, hq⟩
    exact ⟨_, _, by simp only [cL, h1, h2, Option.bind_some, klong, Option.map_some], hq⟩
theorem wpC_Z {op : Nat} {a : kEx} : wpC (cZ op a) L σ Q ↔ wpE a L σ (fun v σ1 => ∃ x, v = .inl x ∧ Q (kcmp op x 0) σ1) := by
  constructor
  · rintro ⟨v, s, h1, h2⟩
    simp only [cZ, Option.bind_eq_some_iff, Option.map_eq_some_iff] at h1
    obtain ⟨⟨v1, σ1⟩, h1, x, hx, hq⟩ := h1
    cases hq
    exact ⟨_, _, h1, x, kint_eq hx, h2⟩
  · rintro ⟨v, s, h1, x, rfl, hq⟩
    exact ⟨_, _, by simp only [cZ, h1, Option.bind_some, kint, Option.map_some], hq⟩
theorem wpC_and {a b : kCx} : wpC (cAnd a b) L σ Q ↔ wpC a L σ (fun t σ1 => if t = true then wpC b L σ1 Q else Q false σ1) := by
  constructor
  · rintro ⟨v, s, h1, h2⟩
    simp only [cAnd, Option.bind_eq_some_iff] at h1
    obtain ⟨⟨t, σ1⟩, h1, h3⟩ := h1
    refine ⟨t, σ1, h1, ?_⟩
    cases t
    · simp at h3; obtain ⟨rfl, rfl⟩ := h3; simpa using h2
    · exact ⟨v, s, by simpa using h3, h2⟩
  · rintro ⟨t, σ1, h1, h2⟩
    cases t
    · exact ⟨false, σ1, by simp [cAnd, h1], by simpa using h2⟩
    · obtain ⟨v, s, h3, h4⟩ : wpC b L σ1 Q := by simpa using h2
      exact ⟨v, s, by simp [cAnd, h1, h3], h4⟩
theorem wpC_or {a b : kCx} : wpC (cOr a b) L σ Q ↔ wpC a L σ (fun t σ1 => if t = true then Q true σ1 else wpC b L σ1 Q) := by
  constructor
  · rintro ⟨v, s, h1, h2⟩
    simp only [cOr, Option.bind_eq_some_iff] at h1
    obtain ⟨⟨t, σ1⟩, h1, h3⟩ := h1
    refine ⟨t, σ1, h1, ?_⟩
    cases t
    · exact ⟨v, s, by simpa using h3, h2⟩
    · simp at h3; obtain ⟨rfl, rfl⟩ := h3; simpa using h2
  · rintro ⟨t, σ1, h1, h2⟩
    cases t
    · obtain ⟨v, s, h3, h4⟩ : wpC b L σ1 Q := by simpa using h2
      exact ⟨v, s, by simp [cOr, h1, h3], h4⟩
    · exact ⟨true, σ1, by simp [cOr, h1], by simpa using h2⟩
theorem wpC_not {a : kCx} : wpC (cNot a) L σ Q ↔ wpC a L σ (fun t σ1 => Q (!t) σ1) := by
  constructor
  · rintro ⟨v, s, h1, h2⟩
    simp only [cNot, Option.map_eq_some_iff] at h1
    obtain ⟨⟨t, σ1⟩, h1, h3⟩ := h1
    cases h3
    exact ⟨t, _, h1, h2⟩
  · rintro ⟨t, σ1, h1, h2⟩
    exact ⟨!t, σ1, by simp [cNot, h1], h2⟩
theorem wpC_if {c a b : kCx} : wpC (cIf c a b) L σ Q ↔ wpC c L σ (fun t σ1 => if t = true then wpC a L σ1 Q else wpC b L σ1 Q) := by
  constructor
  · rintro ⟨v, s, h1, h2⟩
    simp only [cIf, Option.bind_eq_some_iff] at h1
    obtain ⟨⟨t, σ1⟩, h1, h3⟩ := h1
    refine ⟨t, σ1, h1, ?_⟩
    cases t
    · exact ⟨v, s, by simpa using h3, h2⟩
    · exact ⟨v, s, by simpa using h3, h2⟩
  · rintro ⟨t, σ1, h1, h2⟩
    cases t
    · obtain ⟨v, s, h3, h4⟩ : wpC b L σ1 Q := by simpa using h2
      exact ⟨v, s, by simp [cIf, h1, h3], h4⟩
    · obtain ⟨v, s, h3, h4⟩ : wpC a L σ1 Q := by simpa using h2
      exact ⟨v, s, by simp [cIf, h1, h3], h4⟩
end WPC
