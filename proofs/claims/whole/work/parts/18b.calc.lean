/-! CALC: the calculus without existentials, for 'simp only' -/
def kgO {α : Type} (o : Option α) (P : α → Prop) : Prop := match o with
  | some x => P x
  | none => False
def kgI (L : kL) (i : Nat) (P : Int → Prop) : Prop := match L[i]? with
  | some (some (.inl z)) => P z
  | _ => False
def kgR (L : kL) (i : Nat) (P : Nat → Prop) : Prop := match L[i]? with
  | some (some (.inr (.inl z))) => P z
  | _ => False
def kvI (v : kV) (P : Int → Prop) : Prop := match v with
  | .inl z => P z
  | _ => False
def kvJ (v : kV) (P : Int → Prop) : Prop := match v with
  | .inr (.inr z) => P z
  | _ => False
theorem kgO_some {α : Type} {x : α} {P : α → Prop} : kgO (some x) P ↔ P x := Iff.rfl
theorem kgO_iff {α : Type} {o : Option α} {P : α → Prop} : kgO o P ↔ ∃ x, o = some x ∧ P x := by
  cases o with
  | none => exact ⟨fun h => h.elim, fun ⟨_, h, _⟩ => by cases h⟩
  | some x => exact ⟨fun h => ⟨x, rfl, h⟩, fun ⟨_, h, q⟩ => by cases h; exact q⟩
theorem kvI_inl {z : Int} {P : Int → Prop} : kvI (.inl z) P ↔ P z := Iff.rfl
theorem kvJ_inl {z : Int} {P : Int → Prop} : kvJ (.inr (.inr z)) P ↔ P z := Iff.rfl
theorem kvI_iff {v : kV} {P : Int → Prop} : kvI v P ↔ ∃ z, v = .inl z ∧ P z := by
  rcases v with z | o | z
  · exact ⟨fun h => ⟨z, rfl, h⟩, fun ⟨_, h, q⟩ => by cases h; exact q⟩
  · exact ⟨fun h => h.elim, fun ⟨_, h, _⟩ => by cases h⟩
  · exact ⟨fun h => h.elim, fun ⟨_, h, _⟩ => by cases h⟩
theorem kvJ_iff {v : kV} {P : Int → Prop} : kvJ v P ↔ ∃ z, v = .inr (.inr z) ∧ P z := by
  rcases v with z | o | z
  · exact ⟨fun h => h.elim, fun ⟨_, h, _⟩ => by cases h⟩
  · exact ⟨fun h => h.elim, fun ⟨_, h, _⟩ => by cases h⟩
  · exact ⟨fun h => ⟨z, rfl, h⟩, fun ⟨_, h, q⟩ => by cases h; exact q⟩
theorem kgI_iff {L : kL} {i : Nat} {P : Int → Prop} : kgI L i P ↔ ∃ z, L[i]? = some (some (.inl z)) ∧ P z := by
  unfold kgI
  constructor
  · intro h
    split at h
    · rename_i z hz; exact ⟨z, hz, h⟩
    · exact h.elim
  · rintro ⟨z, h, q⟩
    rw [h]
    exact q
theorem kgR_iff {L : kL} {i : Nat} {P : Nat → Prop} : kgR L i P ↔ ∃ z, L[i]? = some (some (.inr (.inl z))) ∧ P z := by
  unfold kgR
  constructor
  · intro h
    split at h
    · rename_i z hz; exact ⟨z, hz, h⟩
    · exact h.elim
  · rintro ⟨z, h, q⟩
    rw [h]
    exact q
theorem kgI_0 {z : Int} {t : kL} {P : Int → Prop} : kgI (some (.inl z) :: t) 0 P ↔ P z := Iff.rfl
theorem kgI_s {w : Option kV} {t : kL} {i : Nat} {P : Int → Prop} : kgI (w :: t) (i + 1) P ↔ kgI t i P := Iff.rfl
theorem kgR_0 {z : Nat} {t : kL} {P : Nat → Prop} : kgR (some (.inr (.inl z)) :: t) 0 P ↔ P z := Iff.rfl
theorem kgR_s {w : Option kV} {t : kL} {i : Nat} {P : Nat → Prop} : kgR (w :: t) (i + 1) P ↔ kgR t i P := Iff.rfl
def kst : kL → Nat → kV → kL
  | [], 0, v => [some v]
  | [], _ + 1, _ => []
  | _ :: t, 0, v => some v :: t
  | w :: t, i + 1, v => w :: kst t i v
theorem kst_nil {v : kV} : kst [] 0 v = [some v] := rfl
theorem kst_0 {w : Option kV} {t : kL} {v : kV} : kst (w :: t) 0 v = some v :: t := rfl
theorem kst_s {w : Option kV} {t : kL} {i : Nat} {v : kV} : kst (w :: t) (i + 1) v = w :: kst t i v := rfl
def kNLl : kL → Bool
  | [] => true
  | some (.inr (.inr _)) :: _ => false
  | _ :: t => kNLl t
theorem kNLl_nil : kNLl [] = true := rfl
theorem kNLl_i {z : Int} {t : kL} : kNLl (some (.inl z) :: t) = kNLl t := rfl
theorem kNLl_r {z : Nat} {t : kL} : kNLl (some (.inr (.inl z)) :: t) = kNLl t := rfl
theorem kNLl_n {t : kL} : kNLl (none :: t) = kNLl t := rfl
theorem kNLl_get : ∀ {L : kL}, kNLl L = true → ∀ (i : Nat) (z : Int), L[i]? ≠ some (some (.inr (.inr z))) := by
  intro L
  induction L with
  | nil => intro _ i z h; simp at h
  | cons w t ih =>
    intro h i z hi
    have ht : kNLl t = true ∧ w ≠ some (.inr (.inr z)) := by
      rcases w with _ | x | o | x
      · exact ⟨h, fun q => by cases q⟩
      · exact ⟨h, fun q => by cases q⟩
      · exact ⟨h, fun q => by cases q⟩
      · cases h
    cases i with
    | zero => simp at hi; exact ht.2 hi
    | succ i => simp at hi; exact ih ht.1 i z hi
theorem kst_set : ∀ {L : kL} {i : Nat} {v : kV}, (i < L.length → kst L i v = L.set i (some v)) ∧ (L.length = i → kst L i v = L ++ [some v]) := by
  intro L
  induction L with
  | nil =>
    intro i v
    refine ⟨fun h => by simp at h, fun h => ?_⟩
    cases i with
    | zero => rfl
    | succ i => simp at h
  | cons w t ih =>
    intro i v
    cases i with
    | zero => exact ⟨fun _ => rfl, fun h => by simp at h⟩
    | succ i =>
      refine ⟨fun h => ?_, fun h => ?_⟩
      · rw [kst_s, (ih (v := v)).1 (by simpa using h)]; rfl
      · rw [kst_s, (ih (v := v)).2 (by simpa using h)]; rfl
theorem kset_kst {L : kL} {i : Nat} {v : kV} (hL : kNLl L = true) (hi : i ≤ L.length) (hv : ktag v ≠ 2) : kset L i v = some (kst L i v) := by
  have h1 := kNLl_get hL
  have hvl : ∀ z, v ≠ .inr (.inr z) := by rintro z rfl; exact hv rfl
  unfold kset
  split
  · rename_i z _ hz; exact absurd hz (h1 _ _)
  · exact absurd rfl (hvl _)
  · split
    · rename_i hlt
      split
      · rename_i z hz; exact absurd hz (h1 _ _)
      · rw [kst_set.1 hlt]
    · rename_i hlt
      have e : L.length = i := by omega
      rw [if_pos e, kst_set.2 e]
section X
variable {L : kL} {σ : kS} {Q : kV → kS → Prop}
theorem xE_I {i : Nat} : wpE (eI i) L σ Q ↔ kgI L i (fun z => Q (.inl z) σ) := by rw [wpE_I, kgI_iff]
theorem xE_R {i : Nat} : wpE (eR i) L σ Q ↔ kgR L i (fun z => Q (.inr (.inl z)) σ) := by rw [wpE_R, kgR_iff]
theorem xE_get {ci k : Nat} {a : kEx} : wpE (eGet ci k a) L σ Q ↔ wpE a L σ (fun v σ1 => kgO (kget ci k v σ1) (fun x => Q x σ1)) := by
  simp only [wpE_get, kgO_iff]
theorem xE_ald0 {a i : kEx} : wpE (eAld 0 a i) L σ Q ↔ wpE a L σ (fun v σ1 => wpE i L σ1 (fun w σ2 => kgO (kFA v 0) (fun q => kvI w (fun x => (0 ≤ x ∧ x < (q.2 : Int)) ∧ Q (.inl (σ2 q.1 x.toNat)) σ2)))) := by
  simp only [wpE_ald0, kgO_iff, kvI_iff]
  constructor
  · rintro ⟨v, s, h1, w, s2, h2, o, n, x, h3, h4, h5, h6, h7⟩
    exact ⟨v, s, h1, w, s2, h2, (o, n), h3, x, h4, ⟨h5, h6⟩, h7⟩
  · rintro ⟨v, s, h1, w, s2, h2, ⟨o, n⟩, h3, x, h4, ⟨h5, h6⟩, h7⟩
    exact ⟨v, s, h1, w, s2, h2, o, n, x, h3, h4, h5, h6, h7⟩
theorem xE_ald1 {a i : kEx} : wpE (eAld 1 a i) L σ Q ↔ wpE a L σ (fun v σ1 => wpE i L σ1 (fun w σ2 => kgO (kFA v 1) (fun q => kvI w (fun x => (0 ≤ x ∧ x < (q.2 : Int)) ∧ Q (.inl (σ2 q.1 x.toNat)) σ2)))) := by
  simp only [wpE_ald1, kgO_iff, kvI_iff]
  constructor
  · rintro ⟨v, s, h1, w, s2, h2, o, n, x, h3, h4, h5, h6, h7⟩
    exact ⟨v, s, h1, w, s2, h2, (o, n), h3, x, h4, ⟨h5, h6⟩, h7⟩
  · rintro ⟨v, s, h1, w, s2, h2, ⟨o, n⟩, h3, x, h4, ⟨h5, h6⟩, h7⟩
    exact ⟨v, s, h1, w, s2, h2, o, n, x, h3, h4, h5, h6, h7⟩
theorem xE_bin {f : Int → Int → Option Int} {a b : kEx} : wpE (eBin f a b) L σ Q ↔ wpE a L σ (fun v σ1 => wpE b L σ1 (fun w σ2 => kvI v (fun x => kvI w (fun y => kgO (f x y) (fun z => Q (.inl z) σ2))))) := by
  simp only [wpE_bin, kgO_iff, kvI_iff]
  constructor
  · rintro ⟨v, s, h1, w, s2, h2, x, y, z, h3, h4, h5, h6⟩
    exact ⟨v, s, h1, w, s2, h2, x, h3, y, h4, z, h5, h6⟩
  · rintro ⟨v, s, h1, w, s2, h2, x, h3, y, h4, z, h5, h6⟩
    exact ⟨v, s, h1, w, s2, h2, x, y, z, h3, h4, h5, h6⟩
theorem kgO_add {x y : Int} {P : Int → Prop} : kgO (kAdd x y) P ↔ (-2147483648 ≤ x + y ∧ x + y < 2147483648) ∧ P (x + y) := by
  simp only [kgO_iff, kAdd_iff]
  exact ⟨fun ⟨_, ⟨h, e⟩, q⟩ => by subst e; exact ⟨h, q⟩, fun ⟨h, q⟩ => ⟨_, ⟨h, rfl⟩, q⟩⟩
theorem kgO_sub {x y : Int} {P : Int → Prop} : kgO (kSub x y) P ↔ (-2147483648 ≤ x - y ∧ x - y < 2147483648) ∧ P (x - y) := by
  simp only [kgO_iff, kSub_iff]
  exact ⟨fun ⟨_, ⟨h, e⟩, q⟩ => by subst e; exact ⟨h, q⟩, fun ⟨h, q⟩ => ⟨_, ⟨h, rfl⟩, q⟩⟩
theorem kgO_mul {x y : Int} {P : Int → Prop} : kgO (kMul x y) P ↔ (-2147483648 ≤ x * y ∧ x * y < 2147483648) ∧ P (x * y) := by
  simp only [kgO_iff, kMul_iff]
  exact ⟨fun ⟨_, ⟨h, e⟩, q⟩ => by subst e; exact ⟨h, q⟩, fun ⟨h, q⟩ => ⟨_, ⟨h, rfl⟩, q⟩⟩
theorem kgO_div {x y : Int} {P : Int → Prop} : kgO (kDiv x y) P ↔ (0 ≤ x ∧ 0 < y) ∧ P (x / y) := by
  simp only [kgO_iff, kDiv_iff]
  exact ⟨fun ⟨_, ⟨h, e⟩, q⟩ => by subst e; exact ⟨h, q⟩, fun ⟨h, q⟩ => ⟨_, ⟨h, rfl⟩, q⟩⟩
theorem kgO_rem {x y : Int} {P : Int → Prop} : kgO (kRem x y) P ↔ (0 ≤ x ∧ 0 < y) ∧ P (x % y) := by
  simp only [kgO_iff, kRem_iff]
  exact ⟨fun ⟨_, ⟨h, e⟩, q⟩ => by subst e; exact ⟨h, q⟩, fun ⟨h, q⟩ => ⟨_, ⟨h, rfl⟩, q⟩⟩
theorem kgO_and {x y : Int} {P : Int → Prop} : kgO (kAnd x y) P ↔ (0 ≤ x ∧ y = 1) ∧ P (x % 2) := by
  simp only [kgO_iff, kAnd_iff]
  exact ⟨fun ⟨_, ⟨h, e⟩, q⟩ => by subst e; exact ⟨h, q⟩, fun ⟨h, q⟩ => ⟨_, ⟨h, rfl⟩, q⟩⟩
theorem xE_max {a b : kEx} : wpE (eMax a b) L σ Q ↔ wpE a L σ (fun v σ1 => wpE b L σ1 (fun w σ2 => kvI v (fun x => kvI w (fun y => Q (.inl (if x < y then y else x)) σ2)))) := by
  simp only [wpE_max, kvI_iff]
  constructor
  · rintro ⟨v, s, h1, w, s2, h2, x, y, h3, h4, h6⟩
    exact ⟨v, s, h1, w, s2, h2, x, h3, y, h4, h6⟩
  · rintro ⟨v, s, h1, w, s2, h2, x, h3, y, h4, h6⟩
    exact ⟨v, s, h1, w, s2, h2, x, y, h3, h4, h6⟩
theorem xE_min {a b : kEx} : wpE (eMin a b) L σ Q ↔ wpE a L σ (fun v σ1 => wpE b L σ1 (fun w σ2 => kvI v (fun x => kvI w (fun y => Q (.inl (if y < x then y else x)) σ2)))) := by
  simp only [wpE_min, kvI_iff]
  constructor
  · rintro ⟨v, s, h1, w, s2, h2, x, y, h3, h4, h6⟩
    exact ⟨v, s, h1, w, s2, h2, x, h3, y, h4, h6⟩
  · rintro ⟨v, s, h1, w, s2, h2, x, h3, y, h4, h6⟩
    exact ⟨v, s, h1, w, s2, h2, x, y, h3, h4, h6⟩
theorem xE_call {ci : Nat} {F : kFn} {es : kAx} : wpE (eCall ci F es) L σ Q ↔ wpA es L σ (fun vs σ1 => kisO ci vs = true ∧ wpF F vs σ1 (fun r σ2 => kgO r (fun v => Q v σ2))) := by
  simp only [wpE_call, kgO_iff]
theorem xE_callS {F : kFn} {es : kAx} : wpE (eCallS F es) L σ Q ↔ wpA es L σ (fun vs σ1 => wpF F vs σ1 (fun r σ2 => kgO r (fun v => Q v σ2))) := by
  simp only [wpE_callS, kgO_iff]
end X
section XC
variable {L : kL} {σ : kS} {Q : Bool → kS → Prop}
theorem xC_C {op : Nat} {a b : kEx} : wpC (cC op a b) L σ Q ↔ wpE a L σ (fun v σ1 => wpE b L σ1 (fun w σ2 => kvI v (fun x => kvI w (fun y => Q (kcmp op x y) σ2)))) := by
  simp only [wpC_C, kvI_iff]
  constructor
  · rintro ⟨v, s, h1, w, s2, h2, x, y, h3, h4, h6⟩
    exact ⟨v, s, h1, w, s2, h2, x, h3, y, h4, h6⟩
  · rintro ⟨v, s, h1, w, s2, h2, x, h3, y, h4, h6⟩
    exact ⟨v, s, h1, w, s2, h2, x, y, h3, h4, h6⟩
theorem xC_L {op : Nat} {a b : kEx} : wpC (cL op a b) L σ Q ↔ wpE a L σ (fun v σ1 => wpE b L σ1 (fun w σ2 => kvJ v (fun x => kvJ w (fun y => Q (kcmp op x y) σ2)))) := by
  simp only [wpC_L, kvJ_iff]
  constructor
  · rintro ⟨v, s, h1, w, s2, h2, x, y, h3, h4, h6⟩
    exact ⟨v, s, h1, w, s2, h2, x, h3, y, h4, h6⟩
  · rintro ⟨v, s, h1, w, s2, h2, x, h3, y, h4, h6⟩
    exact ⟨v, s, h1, w, s2, h2, x, y, h3, h4, h6⟩
theorem xC_Z {op : Nat} {a : kEx} : wpC (cZ op a) L σ Q ↔ wpE a L σ (fun v σ1 => kvI v (fun x => Q (kcmp op x 0) σ1)) := by
  simp only [wpC_Z, kvI_iff]
end XC
section XS
variable {L : kL} {σ : kS} {Q : kR → kL → kS → Prop}
theorem xS_let {tag i : Nat} {e : kEx} (hL : kNLl L = true) (hi : i ≤ L.length) (ht : tag ≠ 2) : wpS (sLet tag i e) L σ Q ↔ wpE e L σ (fun v σ1 => ktag v = tag ∧ Q rN (kst L i v) σ1) := by
  rw [wpS_let]
  constructor
  · intro h
    refine h.mono ?_
    rintro v s ⟨h1, L', h2, h3⟩
    rw [kset_kst hL hi (by rw [h1]; exact ht)] at h2
    cases h2
    exact ⟨h1, h3⟩
  · intro h
    refine h.mono ?_
    rintro v s ⟨h1, h3⟩
    exact ⟨h1, _, kset_kst hL hi (by rw [h1]; exact ht), h3⟩
theorem xS_inc {i : Nat} {n : Int} (hL : kNLl L = true) (hi : i ≤ L.length) : wpS (sInc i n) L σ Q ↔ kgI L i (fun x => (-2147483648 ≤ x + n ∧ x + n < 2147483648) ∧ Q rN (kst L i (.inl (x + n))) σ) := by
  rw [wpS_inc, kgI_iff]
  constructor
  · rintro ⟨x, L', h1, h2, h3, h4⟩
    rw [kset_kst hL hi (by simp [ktag])] at h3
    cases h3
    exact ⟨x, h1, (kck_iff.mp h2).1, h4⟩
  · rintro ⟨x, h1, h2, h4⟩
    exact ⟨x, _, h1, kck_iff.mpr ⟨h2, rfl⟩, kset_kst hL hi (by simp [ktag]), h4⟩
theorem xS_put {ci k : Nat} {a e : kEx} : wpS (sPut ci k a e) L σ Q ↔ wpE a L σ (fun v σ1 => wpE e L σ1 (fun w σ2 => kgO (kput ci k v w σ2) (fun σ3 => Q rN L σ3))) := by
  simp only [wpS_put, kgO_iff]
theorem xS_putOp {ci k : Nat} {a e : kEx} {f : Int → Int → Option Int} : wpS (sPutOp ci k a f e) L σ Q ↔ wpE a L σ (fun v σ1 => kgO (kget ci k v σ1) (fun o => kvI o (fun x => wpE e L σ1 (fun w σ2 => kvI w (fun y => kgO (f x y) (fun z => kgO (kput ci k v (.inl z) σ2) (fun σ3 => Q rN L σ3))))))) := by
  simp only [wpS_putOp, kgO_iff, kvI_iff]
  constructor
  · rintro ⟨v, s, h1, x, h2, w, s2, h3, y, z, s3, h4, h5, h6, h7⟩
    exact ⟨v, s, h1, _, h2, x, rfl, w, s2, h3, y, h4, z, h5, s3, h6, h7⟩
  · rintro ⟨v, s, h1, o, h2, x, rfl, w, s2, h3, y, h4, z, h5, s3, h6, h7⟩
    exact ⟨v, s, h1, x, h2, w, s2, h3, y, z, s3, h4, h5, h6, h7⟩
theorem xS_ast0 {a i e : kEx} : wpS (sAst 0 a i e) L σ Q ↔ wpE a L σ (fun v σ1 => wpE i L σ1 (fun w σ2 => wpE e L σ2 (fun u σ3 => kgO (kFA v 0) (fun q => kvI w (fun x => kvI u (fun z => (0 ≤ x ∧ x < (q.2 : Int)) ∧ Q rN L (kup σ3 q.1 x.toNat z))))))) := by
  simp only [wpS_ast0, kgO_iff, kvI_iff]
  constructor
  · rintro ⟨v, s, h1, w, s2, h2, u, s3, h3, o, n, x, z, h4, h5, h6, h7, h8, h9⟩
    exact ⟨v, s, h1, w, s2, h2, u, s3, h3, (o, n), h4, x, h5, z, h6, ⟨h7, h8⟩, h9⟩
  · rintro ⟨v, s, h1, w, s2, h2, u, s3, h3, ⟨o, n⟩, h4, x, h5, z, h6, ⟨h7, h8⟩, h9⟩
    exact ⟨v, s, h1, w, s2, h2, u, s3, h3, o, n, x, z, h4, h5, h6, h7, h8, h9⟩
theorem xS_ast1 {a i e : kEx} : wpS (sAst 1 a i e) L σ Q ↔ wpE a L σ (fun v σ1 => wpE i L σ1 (fun w σ2 => wpE e L σ2 (fun u σ3 => kgO (kFA v 1) (fun q => kvI w (fun x => kvI u (fun z => (0 ≤ x ∧ x < (q.2 : Int)) ∧ (z = 0 ∨ z = 1) ∧ Q rN L (kup σ3 q.1 x.toNat z))))))) := by
  simp only [wpS_ast1, kgO_iff, kvI_iff]
  constructor
  · rintro ⟨v, s, h1, w, s2, h2, u, s3, h3, o, n, x, z, h4, h5, h6, h7, h8, h9, h10⟩
    exact ⟨v, s, h1, w, s2, h2, u, s3, h3, (o, n), h4, x, h5, z, h6, ⟨h7, h8⟩, h9, h10⟩
  · rintro ⟨v, s, h1, w, s2, h2, u, s3, h3, ⟨o, n⟩, h4, x, h5, z, h6, ⟨h7, h8⟩, h9, h10⟩
    exact ⟨v, s, h1, w, s2, h2, u, s3, h3, o, n, x, z, h4, h5, h6, h7, h8, h9, h10⟩
theorem xS_astOp {a i e : kEx} {f : Int → Int → Option Int} : wpS (sAstOp a i f e) L σ Q ↔ wpE a L σ (fun v σ1 => wpE i L σ1 (fun w σ2 => kgO (kFA v 0) (fun q => kvI w (fun x => (0 ≤ x ∧ x < (q.2 : Int)) ∧ wpE e L σ2 (fun u σ3 => kvI u (fun y => kgO (f (σ2 q.1 x.toNat) y) (fun z => Q rN L (kup σ3 q.1 x.toNat z)))))))) := by
  simp only [wpS_astOp, kgO_iff, kvI_iff]
  constructor
  · rintro ⟨v, s, h1, w, s2, h2, o, n, x, h3, h4, h5, h6, u, s3, h7, y, z, h8, h9, h10⟩
    exact ⟨v, s, h1, w, s2, h2, (o, n), h3, x, h4, ⟨h5, h6⟩, u, s3, h7, y, h8, z, h9, h10⟩
  · rintro ⟨v, s, h1, w, s2, h2, ⟨o, n⟩, h3, x, h4, ⟨h5, h6⟩, u, s3, h7, y, h8, z, h9, h10⟩
    exact ⟨v, s, h1, w, s2, h2, o, n, x, h3, h4, h5, h6, u, s3, h7, y, z, h8, h9, h10⟩
end XS
theorem ktag_i {z : Int} : ktag (.inl z) = 0 := rfl
theorem ktag_r {z : Nat} : ktag (.inr (.inl z)) = 1 := rfl
theorem kup_eq {σ : kS} {o k j : Nat} {v : Int} : kup σ o k v o j = if j = k then v else σ o j := by
  simp [kup]
/-! stores into locals, without side conditions -/
def kset2 : kL → Nat → kV → Option kL := kset
def kok : kL → Nat → Bool
  | [], 0 => true
  | [], _ + 1 => false
  | some (.inr (.inr _)) :: _, _ => false
  | _ :: t, 0 => kNLl t
  | _ :: t, i + 1 => kok t i
theorem kok_nil : kok [] 0 = true := rfl
theorem kok_i0 {z : Int} {t : kL} : kok (some (.inl z) :: t) 0 = kNLl t := rfl
theorem kok_is {z : Int} {t : kL} {i : Nat} : kok (some (.inl z) :: t) (i + 1) = kok t i := rfl
theorem kok_r0 {z : Nat} {t : kL} : kok (some (.inr (.inl z)) :: t) 0 = kNLl t := rfl
theorem kok_rs {z : Nat} {t : kL} {i : Nat} : kok (some (.inr (.inl z)) :: t) (i + 1) = kok t i := rfl
theorem kok_n0 {t : kL} : kok (none :: t) 0 = kNLl t := rfl
theorem kok_ns {t : kL} {i : Nat} : kok (none :: t) (i + 1) = kok t i := rfl
theorem kok_spec : ∀ {L : kL} {i : Nat}, kok L i = true → kNLl L = true ∧ i ≤ L.length := by
  intro L
  induction L with
  | nil =>
    intro i h
    cases i with
    | zero => exact ⟨rfl, Nat.le_refl _⟩
    | succ i => cases h
  | cons w t ih =>
    intro i h
    rcases w with _ | x | o | x
    · cases i with
      | zero => exact ⟨h, Nat.zero_le _⟩
      | succ i => have := ih h; exact ⟨this.1, Nat.succ_le_succ this.2⟩
    · cases i with
      | zero => exact ⟨h, Nat.zero_le _⟩
      | succ i => have := ih h; exact ⟨this.1, Nat.succ_le_succ this.2⟩
    · cases i with
      | zero => exact ⟨h, Nat.zero_le _⟩
      | succ i => have := ih h; exact ⟨this.1, Nat.succ_le_succ this.2⟩
    · cases i <;> cases h
theorem kgK_i {L : kL} {i : Nat} {z : Int} {P : kL → Prop} : kgO (kset L i (.inl z)) P ↔ if kok L i = true then P (kst L i (.inl z)) else kgO (kset2 L i (.inl z)) P := by
  by_cases h : kok L i = true
  · rw [if_pos h, kset_kst (kok_spec h).1 (kok_spec h).2 (by simp [ktag])]
    exact Iff.rfl
  · rw [if_neg h]
    exact Iff.rfl
theorem kgK_r {L : kL} {i : Nat} {z : Nat} {P : kL → Prop} : kgO (kset L i (.inr (.inl z))) P ↔ if kok L i = true then P (kst L i (.inr (.inl z))) else kgO (kset2 L i (.inr (.inl z))) P := by
  by_cases h : kok L i = true
  · rw [if_pos h, kset_kst (kok_spec h).1 (kok_spec h).2 (by simp [ktag])]
    exact Iff.rfl
  · rw [if_neg h]
    exact Iff.rfl
theorem yS_inc {i : Nat} {n : Int} {L : kL} {σ : kS} {Q : kR → kL → kS → Prop} : wpS (sInc i n) L σ Q ↔ kgI L i (fun x => (-2147483648 ≤ x + n ∧ x + n < 2147483648) ∧ kgO (kset L i (.inl (x + n))) (fun L' => Q rN L' σ)) := by
  rw [wpS_inc, kgI_iff]
  constructor
  · rintro ⟨x, L', h1, h2, h3, h4⟩
    exact ⟨x, h1, (kck_iff.mp h2).1, kgO_iff.mpr ⟨L', h3, h4⟩⟩
  · rintro ⟨x, h1, h2, h4⟩
    obtain ⟨L', h3, h5⟩ := kgO_iff.mp h4
    exact ⟨x, L', h1, kck_iff.mpr ⟨h2, rfl⟩, h3, h5⟩
theorem yS_let {tag i : Nat} {e : kEx} {L : kL} {σ : kS} {Q : kR → kL → kS → Prop} : wpS (sLet tag i e) L σ Q ↔ wpE e L σ (fun v σ1 => ktag v = tag ∧ kgO (kset L i v) (fun L' => Q rN L' σ1)) := by
  simp only [wpS_let, kgO_iff]
/-! one statement at a time: what follows is a name while 'simp only' works (else simp walks into it, at every level) -/
theorem wpS_seq' {a b : kSx} {L : kL} {σ : kS} {Q : kR → kL → kS → Prop} (h : ∀ Q1 : kR → kL → kS → Prop, (Q1 = fun r L1 σ1 => kThen r (wpS b L1 σ1 Q) (Q r L1 σ1)) → wpS a L σ Q1) : wpS (sSeq a b) L σ Q := wpS_seq.mpr (h _ rfl)
theorem wpS_gen {s : kSx} {L : kL} {σ : kS} {Q : kR → kL → kS → Prop} (h : ∀ Q1 : kR → kL → kS → Prop, Q1 = Q → wpS s L σ Q1) : wpS s L σ Q := h _ rfl
theorem wpE_gen {e : kEx} {L : kL} {σ : kS} {Q : kV → kS → Prop} (h : ∀ Q1 : kV → kS → Prop, Q1 = Q → wpE e L σ Q1) : wpE e L σ Q := h _ rfl
theorem wpC_gen {e : kCx} {L : kL} {σ : kS} {Q : Bool → kS → Prop} (h : ∀ Q1 : Bool → kS → Prop, Q1 = Q → wpC e L σ Q1) : wpC e L σ Q := h _ rfl
