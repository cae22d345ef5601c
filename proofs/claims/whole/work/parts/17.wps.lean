/-! WP of statements, methods, loops -/
/-- what follows a statement: only behind its normal end -/
def kThen (r : kR) (A B : Prop) : Prop := match r with
  | .inl () => A
  | _ => B
theorem kThen_N {A B : Prop} : kThen rN A B ↔ A := Iff.rfl
theorem kThen_B {A B : Prop} : kThen rB A B ↔ B := Iff.rfl
theorem kThen_C {A B : Prop} : kThen rC A B ↔ B := Iff.rfl
theorem kThen_R {v : Option kV} {A B : Prop} : kThen (rR v) A B ↔ B := Iff.rfl
theorem kThen_T {t : Nat} {A B : Prop} : kThen (rT t) A B ↔ B := Iff.rfl
section WPS
variable {L : kL} {σ : kS} {Q : kR → kL → kS → Prop}
theorem wpS_skip : wpS sSkip L σ Q ↔ Q rN L σ := ⟨fun ⟨_, _, _, h, q⟩ => by cases h; exact q, fun h => ⟨_, _, _, rfl, h⟩⟩
theorem wpS_break : wpS sBreak L σ Q ↔ Q rB L σ := ⟨fun ⟨_, _, _, h, q⟩ => by cases h; exact q, fun h => ⟨_, _, _, rfl, h⟩⟩
theorem wpS_cont : wpS sCont L σ Q ↔ Q rC L σ := ⟨fun ⟨_, _, _, h, q⟩ => by cases h; exact q, fun h => ⟨_, _, _, rfl, h⟩⟩
theorem wpS_retV : wpS sRetV L σ Q ↔ Q (rR none) L σ := ⟨fun ⟨_, _, _, h, q⟩ => by cases h; exact q, fun h => ⟨_, _, _, rfl, h⟩⟩
theorem wpS_throw {t : Nat} : wpS (sThrow t) L σ Q ↔ Q (rT t) L σ := ⟨fun ⟨_, _, _, h, q⟩ => by cases h; exact q, fun h => ⟨_, _, _, rfl, h⟩⟩
theorem wpS_seq {a b : kSx} : wpS (sSeq a b) L σ Q ↔ wpS a L σ (fun r L1 σ1 => kThen r (wpS b L1 σ1 Q) (Q r L1 σ1)) := by
  constructor
  · rintro ⟨r, l, s, h1, h2⟩
    simp only [sSeq, Option.bind_eq_some_iff] at h1
    obtain ⟨⟨r1, L1, σ1⟩, h1, h3⟩ := h1
    refine ⟨r1, L1, σ1, h1, ?_⟩
    rcases r1 with u | ⟨_ | _⟩ | v | t
    · exact ⟨r, l, s, h3, h2⟩
    all_goals (cases h3; exact h2)
  · rintro ⟨r1, L1, σ1, h1, h2⟩
    rcases r1 with u | ⟨_ | _⟩ | v | t
    · obtain ⟨r, l, s, h3, h4⟩ := h2
      exact ⟨r, l, s, by simp only [sSeq, h1, Option.bind_some]; exact h3, h4⟩
    all_goals exact ⟨_, L1, σ1, by simp only [sSeq, h1, Option.bind_some], h2⟩
theorem wpS_if {c : kCx} {a b : kSx} : wpS (sIf c a b) L σ Q ↔ wpC c L σ (fun t σ1 => if t = true then wpS a L σ1 Q else wpS b L σ1 Q) := by
  constructor
  · rintro ⟨v, l, s, h1, h2⟩
    simp only [sIf, Option.bind_eq_some_iff] at h1
    obtain ⟨⟨t, σ1⟩, h1, h3⟩ := h1
    refine ⟨t, σ1, h1, ?_⟩
    cases t
    · exact ⟨v, l, s, by simpa using h3, h2⟩
    · exact ⟨v, l, s, by simpa using h3, h2⟩
  · rintro ⟨t, σ1, h1, h2⟩
    cases t
    · obtain ⟨v, l, s, h3, h4⟩ : wpS b L σ1 Q := by simpa using h2
      exact ⟨v, l, s, by simp [sIf, h1, h3], h4⟩
    · obtain ⟨v, l, s, h3, h4⟩ : wpS a L σ1 Q := by simpa using h2
      exact ⟨v, l, s, by simp [sIf, h1, h3], h4⟩
theorem wpS_trunc {k : Nat} {a : kSx} : wpS (sTrunc k a) L σ Q ↔ wpS a L σ (fun r L1 σ1 => Q r (L1.take k) σ1) := by
  constructor
  · rintro ⟨r, l, s, h1, h2⟩
    simp only [sTrunc, Option.map_eq_some_iff] at h1
    obtain ⟨⟨r1, L1, σ1⟩, h1, h3⟩ := h1
    cases h3
    exact ⟨_, _, _, h1, h2⟩
  · rintro ⟨r1, L1, σ1, h1, h2⟩
    exact ⟨_, _, _, by simp only [sTrunc, h1, Option.map_some], h2⟩
theorem wpS_let {tag i : Nat} {e : kEx} : wpS (sLet tag i e) L σ Q ↔ wpE e L σ (fun v σ1 => ktag v = tag ∧ ∃ L', kset L i v = some L' ∧ Q rN L' σ1) := by
  constructor
  · rintro ⟨r, l, s, h1, h2⟩
    simp only [sLet, Option.bind_eq_some_iff] at h1
    obtain ⟨⟨v, σ1⟩, h1, h3⟩ := h1
    split at h3
    · rename_i ht
      simp only [Option.map_eq_some_iff] at h3
      obtain ⟨L1, h4, h5⟩ := h3
      cases h5
      exact ⟨_, _, h1, ht, _, h4, h2⟩
    · cases h3
  · rintro ⟨v, σ1, h1, ht, L', h4, h2⟩
    exact ⟨_, _, _, by simp only [sLet, h1, Option.bind_some, ht, if_true, h4, Option.map_some], h2⟩
theorem wpS_inc {i : Nat} {n : Int} : wpS (sInc i n) L σ Q ↔ ∃ x L', L[i]? = some (some (.inl x)) ∧ kck (x + n) = some (x + n) ∧ kset L i (.inl (x + n)) = some L' ∧ Q rN L' σ := by
  constructor
  · rintro ⟨r, l, s, h1, h2⟩
    unfold sInc at h1
    split at h1
    · rename_i x hx
      simp only [Option.bind_eq_some_iff, Option.map_eq_some_iff] at h1
      obtain ⟨z, hz, L1, h4, h5⟩ := h1
      cases h5
      obtain ⟨rfl, -⟩ := kck_eq hz
      exact ⟨x, _, hx, hz, h4, h2⟩
    · cases h1
  · rintro ⟨x, L', h1, h2, h3, h4⟩
    exact ⟨_, _, _, by simp only [sInc, h1, h2, h3, Option.bind_some, Option.map_some], h4⟩
theorem wpS_put {ci k : Nat} {a e : kEx} : wpS (sPut ci k a e) L σ Q ↔ wpE a L σ (fun v σ1 => wpE e L σ1 (fun w σ2 => ∃ σ3, kput ci k v w σ2 = some σ3 ∧ Q rN L σ3)) := by
  constructor
  · rintro ⟨r, l, s, h1, h2⟩
    simp only [sPut, Option.bind_eq_some_iff, Option.map_eq_some_iff] at h1
    obtain ⟨⟨v, σ1⟩, q1, ⟨x, σ2⟩, q2, σ3, q3, q4⟩ := h1
    cases q4
    exact ⟨_, _, q1, _, _, q2, _, q3, h2⟩
  · rintro ⟨v, σ1, q1, w, σ2, q2, σ3, q3, h2⟩
    exact ⟨_, _, _, by simp only [sPut, q1, q2, q3, Option.bind_some, Option.map_some], h2⟩
theorem wpS_putOp {ci k : Nat} {a e : kEx} {f : Int → Int → Option Int} : wpS (sPutOp ci k a f e) L σ Q ↔ wpE a L σ (fun v σ1 => ∃ x, kget ci k v σ1 = some (.inl x) ∧ wpE e L σ1 (fun w σ2 => ∃ y z σ3, w = .inl y ∧ f x y = some z ∧ kput ci k v (.inl z) σ2 = some σ3 ∧ Q rN L σ3)) := by
  constructor
  · rintro ⟨r, l, s, h1, h2⟩
    simp only [sPutOp, Option.bind_eq_some_iff, Option.map_eq_some_iff] at h1
    obtain ⟨⟨v, σ1⟩, q1, o, q2, ⟨x, σ2⟩, q3, zo, q4, zx, q5, z, q6, σ3, q7, q8⟩ := h1
    cases q8
    have e1 := kint_eq q4
    have e2 := kint_eq q5
    subst e1
    exact ⟨_, _, q1, zo, q2, _, _, q3, zx, z, _, e2, q6, q7, h2⟩
  · rintro ⟨v, σ1, q1, x, q2, w, σ2, q3, y, z, σ3, rfl, q6, q7, h2⟩
    exact ⟨_, _, _, by simp only [sPutOp, q1, q2, q3, kint, q6, q7, Option.bind_some, Option.map_some], h2⟩
theorem kast0_iff {v w : kV} {i : Int} {σ σ' : kS} : kast 0 v i w σ = some σ' ↔ ∃ o n z, kFA v 0 = some (o, n) ∧ 0 ≤ i ∧ i < (n : Int) ∧ w = .inl z ∧ σ' = kup σ o i.toNat z := by
  unfold kast
  constructor
  · intro h
    split at h
    · rename_i o n hF
      split at h
      · rename_i hin
        split at h
        · rename_i z
          simp only [true_or, if_true, Option.some.injEq] at h
          exact ⟨o, n, z, hF, hin.1, hin.2, rfl, h.symm⟩
        · simp at h
        · cases h
      · cases h
    · cases h
  · rintro ⟨o, n, z, hF, h0, h1, rfl, rfl⟩
    rw [hF]
    simp only [h0, h1, and_self, if_true, true_or]
theorem kast1_iff {v w : kV} {i : Int} {σ σ' : kS} : kast 1 v i w σ = some σ' ↔ ∃ o n z, kFA v 1 = some (o, n) ∧ 0 ≤ i ∧ i < (n : Int) ∧ w = .inl z ∧ (z = 0 ∨ z = 1) ∧ σ' = kup σ o i.toNat z := by
  unfold kast
  constructor
  · intro h
    split at h
    · rename_i o n hF
      split at h
      · rename_i hin
        split at h
        · rename_i z
          simp only [Nat.one_ne_zero, true_and, false_or] at h
          split at h
          · rename_i hz
            cases h
            exact ⟨o, n, z, hF, hin.1, hin.2, rfl, hz, rfl⟩
          · cases h
        · simp at h
        · cases h
      · cases h
    · cases h
  · rintro ⟨o, n, z, hF, h0, h1, rfl, hz, rfl⟩
    rw [hF]
    simp only [h0, h1, and_self, if_true, Nat.one_ne_zero, true_and, false_or, hz]
theorem wpS_ast0 {a i e : kEx} : wpS (sAst 0 a i e) L σ Q ↔ wpE a L σ (fun v σ1 => wpE i L σ1 (fun w σ2 => wpE e L σ2 (fun u σ3 => ∃ o n x z, kFA v 0 = some (o, n) ∧ w = .inl x ∧ u = .inl z ∧ 0 ≤ x ∧ x < (n : Int) ∧ Q rN L (kup σ3 o x.toNat z)))) := by
  constructor
  · rintro ⟨r, l, s, h1, h2⟩
    simp only [sAst, Option.bind_eq_some_iff, Option.map_eq_some_iff] at h1
    obtain ⟨⟨v, σ1⟩, q1, ⟨x, σ2⟩, q2, ⟨w, σ3⟩, q3, zx, q4, σ4, q5, q6⟩ := h1
    cases q6
    obtain ⟨o, n, z, g1, g2, g3, g4, rfl⟩ := kast0_iff.mp q5
    exact ⟨_, _, q1, _, _, q2, _, _, q3, o, n, zx, z, g1, kint_eq q4, g4, g2, g3, h2⟩
  · rintro ⟨v, σ1, q1, w, σ2, q2, u, σ3, q3, o, n, x, z, g1, rfl, rfl, g4, g5, h2⟩
    exact ⟨_, _, _, by simp only [sAst, q1, q2, q3, kint, kast0_iff.mpr ⟨o, n, z, g1, g4, g5, rfl, rfl⟩, Option.bind_some, Option.map_some], h2⟩
theorem wpS_ast1 {a i e : kEx} : wpS (sAst 1 a i e) L σ Q ↔ wpE a L σ (fun v σ1 => wpE i L σ1 (fun w σ2 => wpE e L σ2 (fun u σ3 => ∃ o n x z, kFA v 1 = some (o, n) ∧ w = .inl x ∧ u = .inl z ∧ 0 ≤ x ∧ x < (n : Int) ∧ (z = 0 ∨ z = 1) ∧ Q rN L (kup σ3 o x.toNat z)))) := by
  constructor
  · rintro ⟨r, l, s, h1, h2⟩
    simp only [sAst, Option.bind_eq_some_iff, Option.map_eq_some_iff] at h1
    obtain ⟨⟨v, σ1⟩, q1, ⟨x, σ2⟩, q2, ⟨w, σ3⟩, q3, zx, q4, σ4, q5, q6⟩ := h1
    cases q6
    obtain ⟨o, n, z, g1, g2, g3, g4, g5, rfl⟩ := kast1_iff.mp q5
    exact ⟨_, _, q1, _, _, q2, _, _, q3, o, n, zx, z, g1, kint_eq q4, g4, g2, g3, g5, h2⟩
  · rintro ⟨v, σ1, q1, w, σ2, q2, u, σ3, q3, o, n, x, z, g1, rfl, rfl, g4, g5, g6, h2⟩
    exact ⟨_, _, _, by simp only [sAst, q1, q2, q3, kint, kast1_iff.mpr ⟨o, n, z, g1, g4, g5, rfl, g6, rfl⟩, Option.bind_some, Option.map_some], h2⟩
theorem wpS_astOp {a i e : kEx} {f : Int → Int → Option Int} : wpS (sAstOp a i f e) L σ Q ↔ wpE a L σ (fun v σ1 => wpE i L σ1 (fun w σ2 => ∃ o n x, kFA v 0 = some (o, n) ∧ w = .inl x ∧ 0 ≤ x ∧ x < (n : Int) ∧ wpE e L σ2 (fun u σ3 => ∃ y z, u = .inl y ∧ f (σ2 o x.toNat) y = some z ∧ Q rN L (kup σ3 o x.toNat z)))) := by
  constructor
  · rintro ⟨r, l, s, h1, h2⟩
    simp only [sAstOp, Option.bind_eq_some_iff, Option.map_eq_some_iff] at h1
    obtain ⟨⟨v, σ1⟩, q1, ⟨x, σ2⟩, q2, zx, q3, o, q4, ⟨w, σ3⟩, q5, zo, q6, zw, q7, z, q8, σ4, q9, q10⟩ := h1
    cases q10
    obtain ⟨o', n, g1, g2, g3, rfl⟩ := (kald_iff (Or.inl rfl)).mp q4
    obtain ⟨o2, n2, z2, g4, g5, g6, g7, rfl⟩ := kast0_iff.mp q9
    have e1 : σ2 o' zx.toNat = zo := by simpa [kint] using q6
    have e2 : o' = o2 := by
      have := g1.symm.trans g4
      simp only [Option.some.injEq, Prod.mk.injEq] at this
      exact this.1
    have e3 : z = z2 := by simpa using g7
    subst e1; subst e2; subst e3
    exact ⟨_, _, q1, _, _, q2, o', n, zx, g1, kint_eq q3, g2, g3, _, _, q5, zw, z, kint_eq q7, q8, h2⟩
  · rintro ⟨v, σ1, q1, w, σ2, q2, o, n, x, g1, rfl, g2, g3, u, σ3, q3, y, z, rfl, g4, h2⟩
    exact ⟨_, _, _, by simp only [sAstOp, q1, q2, q3, kint, (kald_iff (Or.inl rfl)).mpr ⟨o, n, g1, g2, g3, rfl⟩, g4, kast0_iff.mpr ⟨o, n, z, g1, g2, g3, rfl, rfl⟩, Option.bind_some, Option.map_some], h2⟩
theorem wpS_E {e : kEx} : wpS (sE e) L σ Q ↔ wpE e L σ (fun v σ1 => ktag v ≠ 2 ∧ Q rN L σ1) := by
  constructor
  · rintro ⟨r, l, s, h1, h2⟩
    simp only [sE, Option.bind_eq_some_iff] at h1
    obtain ⟨⟨v, σ1⟩, q1, q2⟩ := h1
    rcases v with z | o | z
    · cases q2; exact ⟨_, _, q1, by simp [ktag], h2⟩
    · cases q2; exact ⟨_, _, q1, by simp [ktag], h2⟩
    · cases q2
  · rintro ⟨v, σ1, q1, h, h2⟩
    rcases v with z | o | z
    · exact ⟨_, _, _, by simp only [sE, q1, Option.bind_some], h2⟩
    · exact ⟨_, _, _, by simp only [sE, q1, Option.bind_some], h2⟩
    · exact absurd rfl h
theorem wpS_call {ci : Nat} {F : kFn} {es : kAx} : wpS (sCall ci F es) L σ Q ↔ wpA es L σ (fun vs σ1 => kisO ci vs = true ∧ wpF F vs σ1 (fun r σ2 => r = none ∧ Q rN L σ2)) := by
  constructor
  · rintro ⟨r, l, s, h1, h2⟩
    simp only [sCall, Option.bind_eq_some_iff] at h1
    obtain ⟨⟨vs, σ1⟩, h1, h3⟩ := h1
    split at h3
    · rename_i ho
      simp only [Option.bind_eq_some_iff] at h3
      obtain ⟨⟨r1, σ2⟩, h4, h5⟩ := h3
      cases r1 with
      | none => cases h5; exact ⟨_, _, h1, ho, _, _, h4, rfl, h2⟩
      | some v => cases h5
    · cases h3
  · rintro ⟨vs, s, h1, ho, r, s2, h2, rfl, hq⟩
    exact ⟨_, _, _, by simp only [sCall, h1, Option.bind_some, ho, if_true, h2], hq⟩
theorem wpS_callS {F : kFn} {es : kAx} : wpS (sCallS F es) L σ Q ↔ wpA es L σ (fun vs σ1 => wpF F vs σ1 (fun r σ2 => r = none ∧ Q rN L σ2)) := by
  constructor
  · rintro ⟨r, l, s, h1, h2⟩
    simp only [sCallS, Option.bind_eq_some_iff] at h1
    obtain ⟨⟨vs, σ1⟩, h1, ⟨r1, σ2⟩, h4, h5⟩ := h1
    cases r1 with
    | none => cases h5; exact ⟨_, _, h1, _, _, h4, rfl, h2⟩
    | some v => cases h5
  · rintro ⟨vs, s, h1, r, s2, h2, rfl, hq⟩
    exact ⟨_, _, _, by simp only [sCallS, h1, Option.bind_some, h2], hq⟩
theorem wpS_ret {tag : Nat} {e : kEx} : wpS (sRet tag e) L σ Q ↔ wpE e L σ (fun v σ1 => ktag v = tag ∧ Q (rR (some v)) L σ1) := by
  constructor
  · rintro ⟨r, l, s, h1, h2⟩
    simp only [sRet, Option.bind_eq_some_iff] at h1
    obtain ⟨⟨v, σ1⟩, q1, q2⟩ := h1
    split at q2
    · rename_i ht
      cases q2
      exact ⟨_, _, q1, ht, h2⟩
    · cases q2
  · rintro ⟨v, σ1, q1, ht, h2⟩
    exact ⟨_, _, _, by simp only [sRet, q1, Option.bind_some, ht, if_true], h2⟩
theorem wpS_switch {e : kEx} {f : Int → kSx} : wpS (sSwitch e f) L σ Q ↔ wpE e L σ (fun v σ1 => ∃ z, v = .inl z ∧ wpS (f z) L σ1 (fun r L2 σ2 => Q (match r with
    | .inr (.inl false) => rN
    | _ => r) L2 σ2)) := by
  constructor
  · rintro ⟨r, l, s, h1, h2⟩
    simp only [sSwitch, Option.bind_eq_some_iff, Option.map_eq_some_iff] at h1
    obtain ⟨⟨v, σ1⟩, q1, z, q2, ⟨r1, L1, σ2⟩, q3, q4⟩ := h1
    refine ⟨_, _, q1, z, kint_eq q2, _, _, _, q3, ?_⟩
    rcases r1 with u | ⟨_ | _⟩ | v | t <;> cases q4 <;> exact h2
  · rintro ⟨v, σ1, q1, z, rfl, r1, L1, σ2, q3, h2⟩
    refine ⟨_, _, _, by simp only [sSwitch, q1, Option.bind_some, kint, q3, Option.map_some]; rfl, ?_⟩
    rcases r1 with u | ⟨_ | _⟩ | v | t <;> exact h2
/-- the step of a loop, behind its body -/
def kNext (k : Nat) (upd : kSx) (J : kL → kS → Prop) (Q : kR → kL → kS → Prop) (r : kR) (L : kL) (σ : kS) : Prop := match r with
  | .inr (.inl false) => Q rN (L.take k) σ
  | .inr (.inr x) => Q (.inr (.inr x)) L σ
  | _ => wpS upd (L.take k) σ (fun r2 L2 σ2 => r2 = rN ∧ J L2 σ2)
theorem kNext_N {k : Nat} {upd : kSx} {J : kL → kS → Prop} {Q : kR → kL → kS → Prop} : kNext k upd J Q rN L σ ↔ wpS upd (L.take k) σ (fun r2 L2 σ2 => r2 = rN ∧ J L2 σ2) := Iff.rfl
theorem kNext_C {k : Nat} {upd : kSx} {J : kL → kS → Prop} {Q : kR → kL → kS → Prop} : kNext k upd J Q rC L σ ↔ wpS upd (L.take k) σ (fun r2 L2 σ2 => r2 = rN ∧ J L2 σ2) := Iff.rfl
theorem kNext_B {k : Nat} {upd : kSx} {J : kL → kS → Prop} {Q : kR → kL → kS → Prop} : kNext k upd J Q rB L σ ↔ Q rN (L.take k) σ := Iff.rfl
theorem kNext_R {k : Nat} {upd : kSx} {J : kL → kS → Prop} {Q : kR → kL → kS → Prop} {v : Option kV} : kNext k upd J Q (rR v) L σ ↔ Q (rR v) L σ := Iff.rfl
theorem wpS_for {k : Nat} {c : kCx} {body upd : kSx} (I : Nat → kL → kS → Prop) (step : ∀ n L σ, I n L σ → wpC c L σ (fun t σ1 => if t = true then wpS body L σ1 (kNext k upd (fun L2 σ2 => ∃ m, m < n ∧ I m L2 σ2) Q) else Q rN L σ1)) :
    ∀ n L σ, I n L σ → wpS (sFor k c body upd) L σ Q := by
  have key : ∀ n, ∀ m, m < n → ∀ L σ, I m L σ → wpS (sFor k c body upd) L σ Q := by
    intro n
    induction n with
    | zero => intro m hm; omega
    | succ n ih =>
      intro m hm L σ hI
      obtain ⟨t, σ1, h1, h2⟩ := step m L σ hI
      cases t
      · have h2 : Q rN L σ1 := by simpa using h2
        refine ⟨rN, L, σ1, kLoop_iff.mpr ⟨1, ?_⟩, h2⟩
        simp [kIter, kBody, h1]
      · obtain ⟨r, L1, σ2, h3, h4⟩ : wpS body L σ1 (kNext k upd (fun L2 σ2 => ∃ m', m' < m ∧ I m' L2 σ2) Q) := by simpa using h2
        have go : (wpS upd (L1.take k) σ2 (fun r2 L2 σ2 => r2 = rN ∧ ∃ m', m' < m ∧ I m' L2 σ2)) → (∀ L2 σ3, upd (L1.take k) σ2 = some (rN, L2, σ3) → kBody k c body upd (L, σ) = some (.inl (L2, σ3))) → wpS (sFor k c body upd) L σ Q := by
          rintro ⟨r2, L2, σ3, g1, rfl, m', g2, g3⟩ hb
          obtain ⟨r', L', σ', g4, g5⟩ := ih m' (by omega) L2 σ3 g3
          obtain ⟨w, hw⟩ := kLoop_iff.mp g4
          refine ⟨r', L', σ', kLoop_iff.mpr ⟨w + 1, ?_⟩, g5⟩
          simp only [kIter, hb L2 σ3 g1, Option.bind_some]
          exact hw
        rcases r with u | ⟨_ | _⟩ | x
        · exact go h4 (fun L2 σ3 hu => by simp [kBody, h1, h3, hu, rN])
        · refine ⟨rN, L1.take k, σ2, kLoop_iff.mpr ⟨1, ?_⟩, h4⟩
          simp [kIter, kBody, h1, h3]
        · exact go h4 (fun L2 σ3 hu => by simp [kBody, h1, h3, hu, rN])
        · refine ⟨.inr (.inr x), L1, σ2, kLoop_iff.mpr ⟨1, ?_⟩, h4⟩
          simp [kIter, kBody, h1, h3]
  exact fun n L σ hI => key (n + 1) n (by omega) L σ hI
end WPS
theorem wpF_kF {n : Nat} {chk : Option kV → Bool} {body : kSx} {av : List kV} {σ : kS} {Q : Option kV → kS → Prop} : wpF (kF n chk body) av σ Q ↔ av.length = n ∧ av.all kNL = true ∧ wpS body (av.map some) σ (fun r _ σ' => ∃ v, r = rR v ∧ chk v = true ∧ Q v σ') := by
  constructor
  · rintro ⟨r, s, h1, h2⟩
    unfold kF at h1
    split at h1
    · rename_i hl
      simp only [Option.bind_eq_some_iff] at h1
      obtain ⟨⟨r1, L1, σ1⟩, h1, h3⟩ := h1
      rcases r1 with u | b | v | t <;> dsimp only at h3 <;> first | cases h3 | skip
      split at h3
      · rename_i hc
        cases h3
        exact ⟨hl.1, hl.2, _, _, _, h1, _, rfl, hc, h2⟩
      · cases h3
    · cases h1
  · rintro ⟨h1, h2, r, l, s, h3, v, rfl, hc, hq⟩
    exact ⟨v, s, by simp only [kF, h1, h2, and_self, if_true, h3, Option.bind_some, rR, hc], hq⟩
