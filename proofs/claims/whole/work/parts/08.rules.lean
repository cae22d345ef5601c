/-! RULES 1: expressions and conditions -/
abbrev kEx : Type := kL → kS → Option (kV × kS)
abbrev kCx : Type := kL → kS → Option (Bool × kS)
abbrev kSx : Type := kL → kS → Option (kR × kL × kS)
abbrev kAx : Type := kL → kS → Option (List kV × kS)
abbrev kFn : Type := List kV → kS → Option (Option kV × kS)
def kint : kV → Option Int
  | .inl z => some z
  | _ => none
def klong : kV → Option Int
  | .inr (.inr z) => some z
  | _ => none
def kref : kV → Option Nat
  | .inr (.inl o) => some o
  | _ => none
theorem kint_eq {v : kV} {z : Int} (h : kint v = some z) : v = .inl z := by
  rcases v with x | o | x <;> simp [kint] at h
  rw [h]
theorem klong_eq {v : kV} {z : Int} (h : klong v = some z) : v = .inr (.inr z) := by
  rcases v with x | o | x <;> simp [klong] at h
  rw [h]
theorem kref_eq {v : kV} {o : Nat} (h : kref v = some o) : v = .inr (.inl o) := by
  rcases v with x | o | x <;> simp [kref] at h
  rw [h]
def kE (M : kM) (d pc pc' : Nat) (e : kEx) : Prop := ∀ (L : kL) (st : List kV) (σ : kS) (v : kV) (σ' : kS), kVL L → kVS σ → st.length ≤ d → e L σ = some (v, σ') →
  kVV v ∧ kVS σ' ∧ (∀ X, kC M X → kW M X pc' L (v :: st) σ' → kW M X pc L st σ)
def kCd (M : kM) (d pc pt pf : Nat) (b : kCx) : Prop := ∀ (L : kL) (st : List kV) (σ : kS) (tv : Bool) (σ' : kS), kVL L → kVS σ → st.length ≤ d → b L σ = some (tv, σ') →
  kVS σ' ∧ (∀ X, kC M X → kW M X (if tv then pt else pf) L st σ' → kW M X pc L st σ)
def kEs (M : kM) (d n pc pc' : Nat) (es : kAx) : Prop := ∀ (L : kL) (st : List kV) (σ : kS) (vs : List kV) (σ' : kS), kVL L → kVS σ → st.length ≤ d → es L σ = some (vs, σ') →
  vs.length = n ∧ (∀ v ∈ vs, kVV v) ∧ kVS σ' ∧ (∀ X, kC M X → kW M X pc' L (vs.reverse ++ st) σ' → kW M X pc L st σ)
def eK (z : Int) : kEx := fun _ σ => some (.inl z, σ)
def eKL (z : Int) : kEx := fun _ σ => some (.inr (.inr z), σ)
def eI (i : Nat) : kEx := fun L σ => match L[i]? with
  | some (some (.inl z)) => some (.inl z, σ)
  | _ => none
def eR (i : Nat) : kEx := fun L σ => match L[i]? with
  | some (some (.inr (.inl o))) => some (.inr (.inl o), σ)
  | _ => none
def eJ (i : Nat) : kEx := fun L σ => match L[i]? with
  | some (some (.inr (.inr z))) => some (.inr (.inr z), σ)
  | _ => none
def kck (z : Int) : Option Int := if -2147483648 ≤ z ∧ z < 2147483648 then some z else none
def kck64 (z : Int) : Option Int := if -9223372036854775808 ≤ z ∧ z < 9223372036854775808 then some z else none
def kAdd (x y : Int) : Option Int := kck (x + y)
def kSub (x y : Int) : Option Int := kck (x - y)
def kMul (x y : Int) : Option Int := kck (x * y)
def kDiv (x y : Int) : Option Int := if 0 ≤ x ∧ 0 < y then some (x / y) else none
def kRem (x y : Int) : Option Int := if 0 ≤ x ∧ 0 < y then some (x % y) else none
def kAnd (x y : Int) : Option Int := if 0 ≤ x ∧ y = 1 then some (x % 2) else none
def kXor (x y : Int) : Option Int := if (x = 0 ∨ x = 1) ∧ (y = 0 ∨ y = 1) then some (if x = y then 0 else 1) else none
def kShr (x y : Int) : Option Int := if 0 ≤ x ∧ 0 ≤ y ∧ y < 32 then some (x / (2 ^ y.toNat : Nat)) else none
def eBin (f : Int → Int → Option Int) (a b : kEx) : kEx := fun L σ => (a L σ).bind fun p => (b L p.2).bind fun q => (kint p.1).bind fun x => (kint q.1).bind fun y => (f x y).map fun z => (.inl z, q.2)
def eLAdd (a b : kEx) : kEx := fun L σ => (a L σ).bind fun p => (b L p.2).bind fun q => (klong p.1).bind fun x => (klong q.1).bind fun y => (kck64 (x + y)).map fun z => (.inr (.inr z), q.2)
def eI2L (a : kEx) : kEx := fun L σ => (a L σ).bind fun p => (kint p.1).map fun x => (.inr (.inr x), p.2)
def eGet (ci k : Nat) (a : kEx) : kEx := fun L σ => (a L σ).bind fun p => (kget ci k p.1 p.2).map fun v => (v, p.2)
def eAld (kind : Nat) (a i : kEx) : kEx := fun L σ => (a L σ).bind fun p => (i L p.2).bind fun q => (kint q.1).bind fun x => (kald kind p.1 x q.2).map fun v => (v, q.2)
def eIf (c : kCx) (a b : kEx) : kEx := fun L σ => (c L σ).bind fun p => if p.1 then a L p.2 else b L p.2
def eNil : kAx := fun _ σ => some ([], σ)
def eSnoc (es : kAx) (e : kEx) : kAx := fun L σ => (es L σ).bind fun p => (e L p.2).map fun q => (p.1 ++ [q.1], q.2)
def kisO (ci : Nat) (vs : List kV) : Bool := match vs with
  | v :: _ => (kFO v ci).isSome
  | [] => false
def eCall (ci : Nat) (F : kFn) (es : kAx) : kEx := fun L σ => (es L σ).bind fun p => if kisO ci p.1 then (F p.1 p.2).bind (fun q => q.1.map fun v => (v, q.2)) else none
def eCallS (F : kFn) (es : kAx) : kEx := fun L σ => (es L σ).bind fun p => (F p.1 p.2).bind (fun q => q.1.map fun v => (v, q.2))
def cC (op : Nat) (a b : kEx) : kCx := fun L σ => (a L σ).bind fun p => (b L p.2).bind fun q => (kint p.1).bind fun x => (kint q.1).map fun y => (kcmp op x y, q.2)
def cZ (op : Nat) (a : kEx) : kCx := fun L σ => (a L σ).bind fun p => (kint p.1).map fun x => (kcmp op x 0, p.2)
def cL (op : Nat) (a b : kEx) : kCx := fun L σ => (a L σ).bind fun p => (b L p.2).bind fun q => (klong p.1).bind fun x => (klong q.1).map fun y => (kcmp op x y, q.2)
def cAnd (a b : kCx) : kCx := fun L σ => (a L σ).bind fun p => if p.1 then b L p.2 else some (false, p.2)
def cOr (a b : kCx) : kCx := fun L σ => (a L σ).bind fun p => if p.1 then some (true, p.2) else b L p.2
def cNot (a : kCx) : kCx := fun L σ => (a L σ).map fun p => (!p.1, p.2)
def cIf (c a b : kCx) : kCx := fun L σ => (c L σ).bind fun p => if p.1 then a L p.2 else b L p.2
theorem kck_eq {x z : Int} (h : kck x = some z) : x = z ∧ kR32 z := by
  unfold kck at h
  split at h
  · rename_i q; cases h; exact ⟨rfl, q⟩
  · cases h
theorem kck64_eq {x z : Int} (h : kck64 x = some z) : x = z ∧ kR64 z := by
  unfold kck64 at h
  split at h
  · rename_i q; cases h; exact ⟨rfl, q⟩
  · cases h
section R1
variable {M : kM} {d pc p1 p2 p3 : Nat} {a b : kEx} {es : kAx}
theorem kE_goto {e : kEx} {off : Int} {tgt : Nat} (h : kE M d pc p1 e) (hd : decode M.1 p1 = .ok (.goto off, 3)) (ht : (p1 : Int) + off = (tgt : Int)) : kE M d pc tgt e := by
  intro L st σ v σ' hL hS hst he
  obtain ⟨h1, h2, h3⟩ := h L st σ v σ' hL hS hst he
  exact ⟨h1, h2, fun X C k => h3 X C (kg_goto C hd ht k)⟩
theorem kE_iconst {n : Int} (hd : decode M.1 pc = .ok (.iconst n, 1)) (hn : kR32 n) : kE M d pc (pc + 1) (eK n) := by
  intro L st σ v σ' hL hS hst he
  cases he
  exact ⟨hn, hS, fun X C k => kg_iconst C hd k⟩
theorem kE_bipush {n : Int} (hd : decode M.1 pc = .ok (.bipush n, 2)) (hb : (Int8.ofInt n).toInt32 = Int32.ofInt n) (hn : kR32 n) : kE M d pc (pc + 2) (eK n) := by
  intro L st σ v σ' hL hS hst he
  cases he
  exact ⟨hn, hS, fun X C k => kg_bipush C hd hb k⟩
theorem kE_sipush {n : Int} (hd : decode M.1 pc = .ok (.sipush n, 3)) (hb : (Int16.ofInt n).toInt32 = Int32.ofInt n) (hn : kR32 n) : kE M d pc (pc + 3) (eK n) := by
  intro L st σ v σ' hL hS hst he
  cases he
  exact ⟨hn, hS, fun X C k => kg_sipush C hd hb k⟩
theorem kE_lconst {n : Fin 2} (hd : decode M.1 pc = .ok (.lconst n, 1)) : kE M d pc (pc + 1) (eKL ((n : Nat) : Int)) := by
  intro L st σ v σ' hL hS hst he
  cases he
  have := n.isLt
  exact ⟨⟨by omega, by omega⟩, hS, fun X C k => kg_lconst C hd k⟩
theorem eI_eq {L : kL} {σ σ' : kS} {v : kV} {i : Nat} (h : eI i L σ = some (v, σ')) : ∃ z, L[i]? = some (some (.inl z)) ∧ v = .inl z ∧ σ' = σ := by
  unfold eI at h
  split at h
  · rename_i z hz; cases h; exact ⟨z, hz, rfl, rfl⟩
  · cases h
theorem eR_eq {L : kL} {σ σ' : kS} {v : kV} {i : Nat} (h : eR i L σ = some (v, σ')) : ∃ z, L[i]? = some (some (.inr (.inl z))) ∧ v = .inr (.inl z) ∧ σ' = σ := by
  unfold eR at h
  split at h
  · rename_i z hz; cases h; exact ⟨z, hz, rfl, rfl⟩
  · cases h
theorem eJ_eq {L : kL} {σ σ' : kS} {v : kV} {i : Nat} (h : eJ i L σ = some (v, σ')) : ∃ z, L[i]? = some (some (.inr (.inr z))) ∧ v = .inr (.inr z) ∧ σ' = σ := by
  unfold eJ at h
  split at h
  · rename_i z hz; cases h; exact ⟨z, hz, rfl, rfl⟩
  · cases h
theorem kE_iload_n {i : Fin 4} (hd : decode M.1 pc = .ok (.iload_n i, 1)) : kE M d pc (pc + 1) (eI (i : Nat)) := by
  intro L st σ v σ' hL hS hst he
  obtain ⟨z, h1, rfl, rfl⟩ := eI_eq he
  exact ⟨hL _ (List.mem_of_getElem? h1), hS, fun X C k => kg_iload_n C hd h1 k⟩
theorem kE_iload {i : Nat} (hd : decode M.1 pc = .ok (.iload i, 2)) : kE M d pc (pc + 2) (eI i) := by
  intro L st σ v σ' hL hS hst he
  obtain ⟨z, h1, rfl, rfl⟩ := eI_eq he
  exact ⟨hL _ (List.mem_of_getElem? h1), hS, fun X C k => kg_iload C hd h1 k⟩
theorem kE_aload_n {i : Fin 4} (hd : decode M.1 pc = .ok (.aload_n i, 1)) : kE M d pc (pc + 1) (eR (i : Nat)) := by
  intro L st σ v σ' hL hS hst he
  obtain ⟨z, h1, rfl, rfl⟩ := eR_eq he
  exact ⟨hL _ (List.mem_of_getElem? h1), hS, fun X C k => kg_aload_n C hd h1 k⟩
theorem kE_aload {i : Nat} (hd : decode M.1 pc = .ok (.aload i, 2)) : kE M d pc (pc + 2) (eR i) := by
  intro L st σ v σ' hL hS hst he
  obtain ⟨z, h1, rfl, rfl⟩ := eR_eq he
  exact ⟨hL _ (List.mem_of_getElem? h1), hS, fun X C k => kg_aload C hd h1 k⟩
theorem kE_lload_n {i : Fin 4} (hd : decode M.1 pc = .ok (.lload_n i, 1)) : kE M d pc (pc + 1) (eJ (i : Nat)) := by
  intro L st σ v σ' hL hS hst he
  obtain ⟨z, h1, rfl, rfl⟩ := eJ_eq he
  exact ⟨hL _ (List.mem_of_getElem? h1), hS, fun X C k => kg_lload_n C hd h1 k⟩
/-- an instruction on two ints -/
def kOp (M : kM) (pc : Nat) (f : Int → Int → Option Int) : Prop := ∀ (L : kL) (st : List kV) (σ : kS) (x y z : Int), kR32 x → kR32 y → f x y = some z → kR32 z ∧ (∀ X, kC M X → kW M X (pc + 1) L (.inl z :: st) σ → kW M X pc L (.inl y :: .inl x :: st) σ)
theorem kOp_add (hd : decode M.1 pc = .ok (.iadd, 1)) : kOp M pc kAdd := fun L st σ x y z hx hy h => by
  obtain ⟨rfl, h2⟩ := kck_eq h
  exact ⟨h2, fun X C k => kg_iadd C hd k⟩
theorem kOp_sub (hd : decode M.1 pc = .ok (.isub, 1)) : kOp M pc kSub := fun L st σ x y z hx hy h => by
  obtain ⟨rfl, h2⟩ := kck_eq h
  exact ⟨h2, fun X C k => kg_isub C hd k⟩
theorem kOp_mul (hd : decode M.1 pc = .ok (.imul, 1)) : kOp M pc kMul := fun L st σ x y z hx hy h => by
  obtain ⟨rfl, h2⟩ := kck_eq h
  exact ⟨h2, fun X C k => kg_imul C hd k⟩
theorem kOp_div (hd : decode M.1 pc = .ok (.idiv, 1)) : kOp M pc kDiv := fun L st σ x y z hx hy h => by
  unfold kDiv at h
  split at h
  · rename_i q
    cases h
    refine ⟨⟨?_, ?_⟩, fun X C k => kg_idiv C hd hx hy q.1 q.2 k⟩
    · have := Int.ediv_nonneg q.1 (Int.le_of_lt q.2); omega
    · have := Int.ediv_le_self y q.1; have := hx.2; omega
  · cases h
theorem kOp_rem (hd : decode M.1 pc = .ok (.irem, 1)) : kOp M pc kRem := fun L st σ x y z hx hy h => by
  unfold kRem at h
  split at h
  · rename_i q
    cases h
    refine ⟨⟨?_, ?_⟩, fun X C k => kg_irem C hd hx hy q.1 q.2 k⟩
    · have := Int.emod_nonneg x (Int.ne_of_gt q.2); omega
    · have := Int.emod_lt_of_pos x q.2; have := hy.2; omega
  · cases h
theorem kE_bin {f : Int → Int → Option Int} (ha : kE M d pc p1 a) (hb : kE M (d + 1) p1 p2 b) (ho : kOp M p2 f) : kE M d pc (p2 + 1) (eBin f a b) := by
  intro L st σ v σ' hL hS hst he
  simp only [eBin, Option.bind_eq_some_iff, Option.map_eq_some_iff] at he
  obtain ⟨⟨v1, σ1⟩, h1, ⟨v2, σ2⟩, h2, x, hx, y, hy, z, hz, hq⟩ := he
  cases hq
  have e1 := kint_eq hx
  have e2 := kint_eq hy
  dsimp only at e1 e2 h2
  subst e1; subst e2
  obtain ⟨g1, g2, g3⟩ := ha L st σ _ _ hL hS hst h1
  obtain ⟨g4, g5, g6⟩ := hb L (.inl x :: st) _ _ _ hL g2 (by simp; omega) h2
  obtain ⟨g7, g8⟩ := ho L st σ2 x y z g1 g4 hz
  exact ⟨g7, g5, fun X C k => g3 X C (g6 X C (g8 X C k))⟩
theorem kE_ladd (ha : kE M d pc p1 a) (hb : kE M (d + 1) p1 p2 b) (hd : decode M.1 p2 = .ok (.ladd, 1)) : kE M d pc (p2 + 1) (eLAdd a b) := by
  intro L st σ v σ' hL hS hst he
  simp only [eLAdd, Option.bind_eq_some_iff, Option.map_eq_some_iff] at he
  obtain ⟨⟨v1, σ1⟩, h1, ⟨v2, σ2⟩, h2, x, hx, y, hy, z, hz, hq⟩ := he
  cases hq
  have e1 := klong_eq hx
  have e2 := klong_eq hy
  dsimp only at e1 e2 h2
  subst e1; subst e2
  obtain ⟨rfl, hz2⟩ := kck64_eq hz
  obtain ⟨g1, g2, g3⟩ := ha L st σ _ _ hL hS hst h1
  obtain ⟨g4, g5, g6⟩ := hb L (.inr (.inr x) :: st) _ _ _ hL g2 (by simp; omega) h2
  exact ⟨hz2, g5, fun X C k => g3 X C (g6 X C (kg_ladd C hd k))⟩
theorem kE_i2l (ha : kE M d pc p1 a) (hd : decode M.1 p1 = .ok (.i2l, 1)) : kE M d pc (p1 + 1) (eI2L a) := by
  intro L st σ v σ' hL hS hst he
  simp only [eI2L, Option.bind_eq_some_iff, Option.map_eq_some_iff] at he
  obtain ⟨⟨v1, σ1⟩, h1, x, hx, hq⟩ := he
  cases hq
  have e1 := kint_eq hx
  dsimp only at e1
  subst e1
  obtain ⟨g1, g2, g3⟩ := ha L st σ _ _ hL hS hst h1
  exact ⟨k_6432 g1, g2, fun X C k => g3 X C (kg_i2l C hd g1 k)⟩
/-- a getfield's link, of a class by its number -/
def kGf (own : String) (idx ci k : Nat) : Prop := ∃ (C : String) (T : u_T) (N : Nat) (ref nm ty : String), kcl[ci]? = some (C, T, N) ∧ (∀ w ∈ u_ws C T N, w ∈ kTBL) ∧ k < N ∧ Cond.fieldLink own idx ref nm ty ∈ kTBL ∧ T k = (ref, nm, ty, (T k).2.2.2)
def kPf (own : String) (idx ci k : Nat) : Prop := ∃ (C : String) (T : u_T) (N : Nat) (ty0 : Nat → FieldType) (ref nm ty : String), kcl[ci]? = some (C, T, N) ∧ (∀ w ∈ u_ws C T N, w ∈ kTBL) ∧ (∀ k, k < N → parseFieldDescriptor (T k).2.2.1 = some (ty0 k)) ∧ (∀ a, a < N → ∀ b, b < N → a ≠ b → (T a).2.1 ≠ (T b).2.1) ∧ k < N ∧ Cond.fieldLink own idx ref nm ty ∈ kTBL ∧ T k = (ref, nm, ty, false) ∧
  (∀ (o : Nat) (fl : List (Nat ⊕ Bool)), kY[o]? = some (.inl (ci, fl)) → fl.length = N ∧ (fl[k]? = some (.inr false) → ty0 k = .int) ∧ (fl[k]? = some (.inr true) → ty0 k = .long))
theorem kget_vv {ci k : Nat} {v x : kV} {σ : kS} (hS : kVS σ) (h : kget ci k v σ = some x) : kVV x := by
  unfold kget at h
  split at h
  · rename_i o fl hF
    obtain ⟨rfl, he⟩ := kFO_spec hF
    split at h
    · cases h; trivial
    · rename_i hf
      cases h
      exact (hS o k).2 (by simp [kIs64, he, hf])
    · cases h; exact (hS o k).1
    · cases h
  · cases h
theorem kE_get {ci k idx : Nat} (ha : kE M d pc p1 a) (hf : kGf M.2.1 idx ci k) (hd : decode M.1 p1 = .ok (.getfield idx, 3)) : kE M d pc (p1 + 3) (eGet ci k a) := by
  intro L st σ v σ' hL hS hst he
  simp only [eGet, Option.bind_eq_some_iff, Option.map_eq_some_iff] at he
  obtain ⟨⟨v1, σ1⟩, h1, x, hx, hq⟩ := he
  cases hq
  obtain ⟨g1, g2, g3⟩ := ha L st σ _ _ hL hS hst h1
  obtain ⟨Cn, T, N, ref, nm, ty, q1, q2, q3, q4, q5⟩ := hf
  exact ⟨kget_vv g2 hx, g2, fun X C kk => g3 X C (kg_get q1 q2 q3 q4 q5 C hd hx kk)⟩
theorem kald_vv {kind : Nat} {v x : kV} {i : Int} {σ : kS} (hS : kVS σ) (h : kald kind v i σ = some x) : kVV x := by
  unfold kald at h
  split at h
  · rename_i o n hF
    obtain ⟨rfl, he⟩ := kFA_spec hF
    split at h
    · cases h
      split
      · exact (hS o _).1
      · rename_i hk
        exact (hS o _).2 (by simp [kIs64, he, hk])
    · cases h
  · cases h
theorem kE_iald {i : kEx} (ha : kE M d pc p1 a) (hi : kE M (d + 1) p1 p2 i) (hd : decode M.1 p2 = .ok (.iaload, 1)) : kE M d pc (p2 + 1) (eAld 0 a i) := by
  intro L st σ v σ' hL hS hst he
  simp only [eAld, Option.bind_eq_some_iff, Option.map_eq_some_iff] at he
  obtain ⟨⟨v1, σ1⟩, h1, ⟨v2, σ2⟩, h2, x, hx, w, hw, hq⟩ := he
  cases hq
  have e1 := kint_eq hx
  dsimp only at e1 h2 hw
  subst e1
  obtain ⟨g1, g2, g3⟩ := ha L st σ _ _ hL hS hst h1
  obtain ⟨g4, g5, g6⟩ := hi L (v1 :: st) _ _ _ hL g2 (by simp; omega) h2
  exact ⟨kald_vv g5 hw, g5, fun X C k => g3 X C (g6 X C (kg_iald C hd g4 hw k))⟩
theorem kE_zald {i : kEx} (ha : kE M d pc p1 a) (hi : kE M (d + 1) p1 p2 i) (hd : decode M.1 p2 = .ok (.baload, 1)) : kE M d pc (p2 + 1) (eAld 1 a i) := by
  intro L st σ v σ' hL hS hst he
  simp only [eAld, Option.bind_eq_some_iff, Option.map_eq_some_iff] at he
  obtain ⟨⟨v1, σ1⟩, h1, ⟨v2, σ2⟩, h2, x, hx, w, hw, hq⟩ := he
  cases hq
  have e1 := kint_eq hx
  dsimp only at e1 h2 hw
  subst e1
  obtain ⟨g1, g2, g3⟩ := ha L st σ _ _ hL hS hst h1
  obtain ⟨g4, g5, g6⟩ := hi L (v1 :: st) _ _ _ hL g2 (by simp; omega) h2
  exact ⟨kald_vv g5 hw, g5, fun X C k => g3 X C (g6 X C (kg_zald C hd g4 hw k))⟩
theorem kE_if {c : kCx} {pt pf off : Nat} (hc : kCd M d pc pt pf c) (ha : kE M d pt off a) (hb : kE M d pf off b) : kE M d pc off (eIf c a b) := by
  intro L st σ v σ' hL hS hst he
  simp only [eIf, Option.bind_eq_some_iff] at he
  obtain ⟨⟨tv, σ1⟩, h1, h2⟩ := he
  obtain ⟨g2, g3⟩ := hc L st σ _ _ hL hS hst h1
  cases tv
  · obtain ⟨g4, g5, g6⟩ := hb L st _ _ _ hL g2 hst (by simpa using h2)
    exact ⟨g4, g5, fun X C k => g3 X C (g6 X C k)⟩
  · obtain ⟨g4, g5, g6⟩ := ha L st _ _ _ hL g2 hst (by simpa using h2)
    exact ⟨g4, g5, fun X C k => g3 X C (g6 X C k)⟩
theorem kEs_nil : kEs M d 0 pc pc eNil := by
  intro L st σ vs σ' hL hS hst he
  cases he
  exact ⟨rfl, fun v hv => (by cases hv), hS, fun X C k => k⟩
theorem kEs_snoc {n : Nat} (hs : kEs M d n pc p1 es) (ha : kE M (d + n) p1 p2 a) : kEs M d (n + 1) pc p2 (eSnoc es a) := by
  intro L st σ vs σ' hL hS hst he
  simp only [eSnoc, Option.bind_eq_some_iff, Option.map_eq_some_iff] at he
  obtain ⟨⟨v1, σ1⟩, h1, ⟨v2, σ2⟩, h2, hq⟩ := he
  cases hq
  obtain ⟨g1, g2, g3, g4⟩ := hs L st σ _ _ hL hS hst h1
  obtain ⟨g5, g6, g7⟩ := ha L (v1.reverse ++ st) _ _ _ hL g3 (by simp; omega) h2
  refine ⟨by simp [g1], fun v hv => ?_, g6, fun X C k => g4 X C (g7 X C (by simpa using k))⟩
  rcases List.mem_append.mp hv with h | h
  · exact g2 v h
  · rw [List.mem_singleton.mp h]; exact g5
/-- what the tables say of a method that is called on an object -/
def kMv (y : MethodName) (cc : ByteArray) (nL : Nat) (ret : Option FieldType) (ci n : Nat) : Prop := Cond.code y cc nL ret ∈ kTBL ∧ Cond.instanceMethod y ∈ kTBL ∧ Cond.selects y.cls y y ∈ kTBL ∧ Cond.initialized y.cls ∈ kTBL ∧ (∃ T N, kcl[ci]? = some (y.cls, T, N)) ∧ (y.cls ≠ "java/lang/invoke/MethodHandle" ∧ y.cls ≠ "java/lang/invoke/VarHandle") ∧ (parseMethodDescriptor y.desc).map (fun d => d.parameters.length) = some n
def kMs (y : MethodName) (cc : ByteArray) (nL : Nat) (ret : Option FieldType) (n : Nat) : Prop := Cond.code y cc nL ret ∈ kTBL ∧ Cond.static y ∈ kTBL ∧ Cond.initialized y.cls ∈ kTBL ∧ (y.cls ≠ "java/lang/invoke/MethodHandle" ∧ y.cls ≠ "java/lang/invoke/VarHandle") ∧ (parseMethodDescriptor y.desc).map (fun d => d.parameters.length) = some n
/-- the call itself, at the machine -/
theorem kg_callV {y : MethodName} {cc : ByteArray} {nL idx ci n : Nat} {ret : Option FieldType} {rm : Room} {F : kFn} (hc : kCon y cc nL ret rm F) (hv : kMv y cc nL ret ci n) (hl : Cond.methodLink M.2.1 idx y ∈ kTBL)
    (hR : rm.cells = 0 ∧ rm.slots = 0 ∧ rm.frames + 1 ≤ M.2.2.2.1.frames ∧ 8 + (nL + 11) + rm.locals ≤ M.2.2.2.1.locals) (hd : decode M.1 pc = .ok (.invokevirtual idx, 3))
    {L : kL} {st : List kV} {σ σ' : kS} {vs : List kV} {r : Option kV} (hst : st.length ≤ 4) (hvs : vs.length = n + 1) (hvv : ∀ v ∈ vs, kVV v) (hS : kVS σ) (ho : kisO ci vs = true) (hF : F vs σ = some (r, σ')) :
    (∀ v, r = some v → kVV v) ∧ kVS σ' ∧ (∀ X, kC M X → kW M X (pc + 3) L (r.toList ++ st) σ' → kW M X pc L (vs.reverse ++ st) σ) := by
  have h0 := hc vs σ r σ' hS hvv hF
  refine ⟨h0.1, h0.2.1, fun X CC kk => ?_⟩
  obtain ⟨p, l, e, s, m, args, below, meth, c, Q, g, A, H0, cells, slots⟩ := X
  obtain ⟨hxx, hb, hml, hown, hts, hK, hD, hA, hcs⟩ := CC
  intro H locs ls hP hSS hll
  have hM := h0.2.2 l g H.size
  obtain ⟨hv1, hv2, hv3, hv4, ⟨T, N, hv5⟩, hv6, hv7⟩ := hv
  cases vs with
  | nil => cases ho
  | cons v0 vt =>
  obtain ⟨⟨o, fl⟩, hFO⟩ := Option.isSome_iff_exists.mp (show (kFO v0 ci).isSome = true from ho)
  obtain ⟨rfl, hY⟩ := kFO_spec hFO
  have hlenV : vt.length = n := by simpa using hvs
  have hfree : ∀ q, va_A (kw g σ) H.size q → A q := by
    intro q hq
    rcases hq with ⟨k, e, h⟩ | h
    · exact (hD σ).2 k (q, e) h
    · exact hA q (Nat.le_trans hSS.1 h)
  have hstk : (((Sum.inr (Sum.inl o) :: vt).reverse ++ st : List kV).map (kcv g)) = (vt.map (kcv g)).reverse ++ .ref (g.2.2 o) :: st.map (kcv g) := by
    simp [kcv]
  refine k_after (r := r) (σ' := σ') (g := g) (σ := σ) (a := (Value.ref (g.2.2 o) :: vt.map (kcv g)).toArray) (rest := st.map (kcv g)) ?_ hSS hfree ?_
  · refine va_runV (As := vt.map (kcv g)) (b := g.2.2 o) (rest := st.map (kcv g)) (own := M.2.1) (C := y.cls) (Ts := kTBL) (n := n) (index := idx) ⟨hxx, hb, hml, hown, hts⟩ hM ⟨callB_of n hts (kgood_in hv1) rfl hR.1 hR.2.1 (hts _ hv4) (hts _ hl) ⟨hv6.1, hv6.2, hv7⟩ ⟨hR.2.2.1, hR.2.2.2⟩, hts _ hv2, hts _ hv3⟩ ?_ rfl (by simp [hlenV]) hll.1 hstk (by
      have := k_weight (g := g) hst
      show 2 * 0 + _ ≤ 8
      omega) hd ⟨by have := hcs.1.1; omega, by have := hcs.1.2; omega⟩
    refine ⟨fun a U g' mk q => ?_, va_recv hK hP (ci := ci) (q0 := o) hv5 (kw_get (g := g) (σ := σ) hY), fun U hU hW => ⟨rfl, by rw [hU], by rw [hU]; exact hP, va_K.moved hW.alike hK, (hD σ).weaken (fun _ _ _ _ => trivial), hcs.2.warm hW⟩⟩
    obtain ⟨q0, q1, qP, qK, qD, qN⟩ := q
    exact ⟨q0, q1, qP, va_K.moved (u := U) (U := U.calling g' mk a) (Vm.Alike.refl U.vm) qK, qD, qN.same (u := U) (U := U.calling g' mk a) rfl⟩
  · intro H1 locs1 hP1 hS1
    have := kk H1 locs1 ls hP1 hS1 hll
    cases r with
    | none => exact this
    | some v => exact this
end R1
