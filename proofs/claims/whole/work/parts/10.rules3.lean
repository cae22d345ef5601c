/-! RULES 3: statements, loops, methods -/
def rN : kR := .inl ()
def rB : kR := .inr (.inl false)
def rC : kR := .inr (.inl true)
def rR (v : Option kV) : kR := .inr (.inr (.inl v))
def rT (pc : Nat) : kR := .inr (.inr (.inr pc))
def kRet (M : kM) (X : kX) (r : Option kV) (σ : kS) : Prop := ∀ (pc : Nat) (L : kL), (match r with
  | none => decode M.1 pc = .ok (.return_, 1)
  | some (.inl _) => decode M.1 pc = .ok (.ireturn, 1)
  | some (.inr (.inl _)) => decode M.1 pc = .ok (.areturn, 1)
  | some (.inr (.inr _)) => decode M.1 pc = .ok (.lreturn, 1)) → kW M X pc L r.toList σ
def kK (M : kM) (X : kX) (pN pB pC : Nat) (r : kR) (L : kL) (σ : kS) : Prop := match r with
  | .inl () => kW M X pN L [] σ
  | .inr (.inl false) => kW M X pB L [] σ
  | .inr (.inl true) => kW M X pC L [] σ
  | .inr (.inr (.inl v)) => kRet M X v σ
  | .inr (.inr (.inr t)) => kW M X t L [] σ
def kRv (r : kR) : Prop := match r with
  | .inr (.inr (.inl (some v))) => kVV v
  | _ => True
def kSt (M : kM) (pc pN pB pC : Nat) (s : kSx) : Prop := ∀ (L : kL) (σ : kS) (r : kR) (L' : kL) (σ' : kS), kVL L → kVS σ → s L σ = some (r, L', σ') →
  kVL L' ∧ kVS σ' ∧ kRv r ∧ (∀ X, kC M X → kK M X pN pB pC r L' σ' → kW M X pc L [] σ)
def sSkip : kSx := fun L σ => some (rN, L, σ)
def sSeq (a b : kSx) : kSx := fun L σ => (a L σ).bind fun r => match r.1 with
  | .inl () => b r.2.1 r.2.2
  | _ => some r
def sIf (c : kCx) (a b : kSx) : kSx := fun L σ => (c L σ).bind fun p => if p.1 then a L p.2 else b L p.2
def sTrunc (k : Nat) (s : kSx) : kSx := fun L σ => (s L σ).map fun r => (r.1, r.2.1.take k, r.2.2)
def sBreak : kSx := fun L σ => some (rB, L, σ)
def sCont : kSx := fun L σ => some (rC, L, σ)
def sThrow (pc : Nat) : kSx := fun L σ => some (rT pc, L, σ)
def sInc (i : Nat) (n : Int) : kSx := fun L σ => match L[i]? with
  | some (some (.inl x)) => (kck (x + n)).bind fun z => (kset L i (.inl z)).map fun L' => (rN, L', σ)
  | _ => none
def sPut (ci k : Nat) (a e : kEx) : kSx := fun L σ => (a L σ).bind fun p => (e L p.2).bind fun q => (kput ci k p.1 q.1 q.2).map fun σ' => (rN, L, σ')
def sPutOp (ci k : Nat) (a : kEx) (f : Int → Int → Option Int) (e : kEx) : kSx := fun L σ => (a L σ).bind fun p => (kget ci k p.1 p.2).bind fun o => (e L p.2).bind fun q => (kint o).bind fun x => (kint q.1).bind fun y => (f x y).bind fun z => (kput ci k p.1 (.inl z) q.2).map fun σ' => (rN, L, σ')
def sAst (kind : Nat) (a i e : kEx) : kSx := fun L σ => (a L σ).bind fun p => (i L p.2).bind fun q => (e L q.2).bind fun r => (kint q.1).bind fun x => (kast kind p.1 x r.1 r.2).map fun σ' => (rN, L, σ')
def sAstOp (a i : kEx) (f : Int → Int → Option Int) (e : kEx) : kSx := fun L σ => (a L σ).bind fun p => (i L p.2).bind fun q => (kint q.1).bind fun j => (kald 0 p.1 j q.2).bind fun o => (e L q.2).bind fun r => (kint o).bind fun x => (kint r.1).bind fun y => (f x y).bind fun z => (kast 0 p.1 j (.inl z) r.2).map fun σ' => (rN, L, σ')
def sE (e : kEx) : kSx := fun L σ => (e L σ).bind fun p => match p.1 with
  | .inr (.inr _) => none
  | _ => some (rN, L, p.2)
def sCall (ci : Nat) (F : kFn) (es : kAx) : kSx := fun L σ => (es L σ).bind fun p => if kisO ci p.1 then (F p.1 p.2).bind (fun q => match q.1 with
  | none => some (rN, L, q.2)
  | some _ => none) else none
def sCallS (F : kFn) (es : kAx) : kSx := fun L σ => (es L σ).bind fun p => (F p.1 p.2).bind (fun q => match q.1 with
  | none => some (rN, L, q.2)
  | some _ => none)
def ktag : kV → Nat
  | .inl _ => 0
  | .inr (.inl _) => 1
  | .inr (.inr _) => 2
def sRet (tag : Nat) (e : kEx) : kSx := fun L σ => (e L σ).bind fun p => if ktag p.1 = tag then some (rR (some p.1), L, p.2) else none
def sRetV : kSx := fun L σ => some (rR none, L, σ)
def sSwitch (e : kEx) (f : Int → kSx) : kSx := fun L σ => (e L σ).bind fun p => (kint p.1).bind fun z => (f z L p.2).map fun r => match r.1 with
  | .inr (.inl false) => (rN, r.2.1, r.2.2)
  | _ => r
def kBody (k : Nat) (c : kCx) (body upd : kSx) (q : kL × kS) : Option ((kL × kS) ⊕ (kR × kL × kS)) := (c q.1 q.2).bind fun p => if p.1 then (body q.1 p.2).bind fun r => (match r.1 with
  | .inr (.inl false) => some (.inr (rN, r.2.1.take k, r.2.2))
  | .inr (.inr x) => some (.inr (.inr (.inr x), r.2.1, r.2.2))
  | _ => (upd (r.2.1.take k) r.2.2).bind fun u => match u.1 with
    | .inl () => some (.inl (u.2.1, u.2.2))
    | _ => none) else some (.inr (rN, q.1, p.2))
def kIter (f : kL × kS → Option ((kL × kS) ⊕ (kR × kL × kS))) : Nat → kL × kS → Option (kR × kL × kS)
  | 0, _ => none
  | n + 1, q => (f q).bind fun r => match r with
    | .inl q' => kIter f n q'
    | .inr x => some x
theorem kIter_more {f : kL × kS → Option ((kL × kS) ⊕ (kR × kL × kS))} : ∀ (n : Nat) (q : kL × kS) (r : kR × kL × kS), kIter f n q = some r → ∀ m, n ≤ m → kIter f m q = some r := by
  intro n
  induction n with
  | zero => intro q r h; cases h
  | succ n ih =>
    intro q r h m hm
    cases m with
    | zero => omega
    | succ m =>
      simp only [kIter, Option.bind_eq_some_iff] at h ⊢
      obtain ⟨x, hx, hq⟩ := h
      refine ⟨x, hx, ?_⟩
      cases x with
      | inl q' => exact ih q' r hq m (by omega)
      | inr y => exact hq
noncomputable def kLoop (f : kL × kS → Option ((kL × kS) ⊕ (kR × kL × kS))) (q : kL × kS) : Option (kR × kL × kS) :=
  @dite _ (∃ n r, kIter f n q = some r) (Classical.propDecidable _) (fun h => kIter f (Classical.choose h) q) (fun _ => none)
theorem kLoop_iff {f : kL × kS → Option ((kL × kS) ⊕ (kR × kL × kS))} {q : kL × kS} {r : kR × kL × kS} : kLoop f q = some r ↔ ∃ n, kIter f n q = some r := by
  unfold kLoop
  constructor
  · intro h
    split at h
    · exact ⟨_, h⟩
    · cases h
  · rintro ⟨n, h⟩
    have hx : ∃ n r, kIter f n q = some r := ⟨n, r, h⟩
    rw [dif_pos hx]
    obtain ⟨r2, h2⟩ := Classical.choose_spec hx
    have a1 := kIter_more _ _ _ h (max n (Classical.choose hx)) (Nat.le_max_left _ _)
    have a2 := kIter_more _ _ _ h2 (max n (Classical.choose hx)) (Nat.le_max_right _ _)
    rw [h2, ← a2, a1]
noncomputable def sFor (k : Nat) (c : kCx) (body upd : kSx) : kSx := fun L σ => kLoop (kBody k c body upd) (L, σ)
theorem klh_take {g : kG} {ls : Array Slot} {nL k : Nat} {L : kL} (h : klh g ls nL L) : klh g ls nL (L.take k) := by
  refine ⟨h.1, h.2.1, fun i v hi => h.2.2 i v ?_⟩
  rw [List.getElem?_take] at hi
  split at hi
  · exact hi
  · cases hi
theorem kVL_take {k : Nat} {L : kL} (h : kVL L) : kVL (L.take k) := fun v hv => h v (List.mem_of_mem_take hv)
theorem kW_take {M : kM} {X : kX} {pc k : Nat} {L : kL} {st : List kV} {σ : kS} (h : kW M X pc (L.take k) st σ) : kW M X pc L st σ := by
  obtain ⟨p, l, e, s, m, args, below, meth, c, Q, g, A, H0, cells, slots⟩ := X
  intro H locs ls hP hS hll
  exact h H locs ls hP hS (klh_take hll)
section R3
variable {M : kM} {d pc p1 p2 p3 pN pB pC : Nat} {a b : kEx} {es : kAx}
theorem kSt_skip : kSt M pc pc pB pC sSkip := by
  intro L σ r L' σ' hL hS he
  cases he
  exact ⟨hL, hS, trivial, fun X C k => k⟩
theorem kSt_goto {s : kSx} {off : Int} {tgt : Nat} (h : kSt M pc p1 pB pC s) (hd : decode M.1 p1 = .ok (.goto off, 3)) (ht : (p1 : Int) + off = (tgt : Int)) : kSt M pc tgt pB pC s := by
  intro L σ r L' σ' hL hS he
  obtain ⟨h1, h2, h3, h4⟩ := h L σ r L' σ' hL hS he
  refine ⟨h1, h2, h3, fun X C k => h4 X C ?_⟩
  rcases r with u | ⟨_ | _⟩ | v | t
  · exact kg_goto C hd ht k
  · exact k
  · exact k
  · exact k
  · exact k
theorem kSt_seq {s t : kSx} (h1 : kSt M pc p1 pB pC s) (h2 : kSt M p1 pN pB pC t) : kSt M pc pN pB pC (sSeq s t) := by
  intro L σ r L' σ' hL hS he
  simp only [sSeq, Option.bind_eq_some_iff] at he
  obtain ⟨⟨r1, L1, σ1⟩, q1, q2⟩ := he
  obtain ⟨g1, g2, g3, g4⟩ := h1 L σ _ _ _ hL hS q1
  rcases r1 with u | ⟨_ | _⟩ | v | t
  · obtain ⟨g5, g6, g7, g8⟩ := h2 L1 σ1 _ _ _ g1 g2 q2
    exact ⟨g5, g6, g7, fun X C k => g4 X C (g8 X C k)⟩
  all_goals (cases q2; exact ⟨g1, g2, g3, g4⟩)
theorem kSt_if {c : kCx} {pt pf : Nat} {s t : kSx} (hc : kCd M 0 pc pt pf c) (h1 : kSt M pt pN pB pC s) (h2 : kSt M pf pN pB pC t) : kSt M pc pN pB pC (sIf c s t) := by
  intro L σ r L' σ' hL hS he
  simp only [sIf, Option.bind_eq_some_iff] at he
  obtain ⟨⟨tv, σ1⟩, q1, q2⟩ := he
  obtain ⟨g2, g3⟩ := hc L [] σ _ _ hL hS (Nat.zero_le _) q1
  cases tv
  · obtain ⟨g5, g6, g7, g8⟩ := h2 L σ1 _ _ _ hL g2 (by simpa using q2)
    exact ⟨g5, g6, g7, fun X C k => g3 X C (g8 X C k)⟩
  · obtain ⟨g5, g6, g7, g8⟩ := h1 L σ1 _ _ _ hL g2 (by simpa using q2)
    exact ⟨g5, g6, g7, fun X C k => g3 X C (g8 X C k)⟩
theorem kSt_trunc {k : Nat} {s : kSx} (h : kSt M pc pN pB pC s) : kSt M pc pN pB pC (sTrunc k s) := by
  intro L σ r L' σ' hL hS he
  simp only [sTrunc, Option.map_eq_some_iff] at he
  obtain ⟨⟨r1, L1, σ1⟩, q1, q2⟩ := he
  cases q2
  obtain ⟨g1, g2, g3, g4⟩ := h L σ _ _ _ hL hS q1
  refine ⟨kVL_take g1, g2, g3, fun X C k => g4 X C ?_⟩
  rcases r1 with u | ⟨_ | _⟩ | v | t
  · exact kW_take k
  · exact kW_take k
  · exact kW_take k
  · exact k
  · exact kW_take k
theorem kSt_break : kSt M pc pN pc pC sBreak := by
  intro L σ r L' σ' hL hS he
  cases he
  exact ⟨hL, hS, trivial, fun X C k => k⟩
theorem kSt_breakG {off : Int} {tgt : Nat} (hd : decode M.1 pc = .ok (.goto off, 3)) (ht : (pc : Int) + off = (tgt : Int)) : kSt M pc pN tgt pC sBreak := by
  intro L σ r L' σ' hL hS he
  cases he
  exact ⟨hL, hS, trivial, fun X C k => kg_goto C hd ht k⟩
theorem kSt_cont : kSt M pc pN pB pc sCont := by
  intro L σ r L' σ' hL hS he
  cases he
  exact ⟨hL, hS, trivial, fun X C k => k⟩
theorem kSt_contG {off : Int} {tgt : Nat} (hd : decode M.1 pc = .ok (.goto off, 3)) (ht : (pc : Int) + off = (tgt : Int)) : kSt M pc pN pB tgt sCont := by
  intro L σ r L' σ' hL hS he
  cases he
  exact ⟨hL, hS, trivial, fun X C k => kg_goto C hd ht k⟩
theorem kSt_throw : kSt M pc pN pB pC (sThrow pc) := by
  intro L σ r L' σ' hL hS he
  cases he
  exact ⟨hL, hS, trivial, fun X C k => k⟩
def kSet (M : kM) (pc pc' i : Nat) (tag : Nat) : Prop := ∀ X, kC M X → ∀ (L L' : kL) (st : List kV) (σ : kS) (v : kV), (match v with
  | .inl _ => tag = 0
  | .inr (.inl _) => tag = 1
  | .inr (.inr _) => tag = 2) → kset L i v = some L' → kW M X pc' L' st σ → kW M X pc L (v :: st) σ
theorem kSet_istore_n {i : Fin 4} (hd : decode M.1 pc = .ok (.istore_n i, 1)) (hi : (i : Nat) < M.2.2.1) : kSet M pc (pc + 1) i 0 := by
  intro X C L L' st σ v hv hs k
  rcases v with z | o | z
  · exact kg_istore_n C hd hi hs k
  · cases hv
  · cases hv
theorem kSet_istore {i : Nat} (hd : decode M.1 pc = .ok (.istore i, 2)) (hi : i < M.2.2.1) : kSet M pc (pc + 2) i 0 := by
  intro X C L L' st σ v hv hs k
  rcases v with z | o | z
  · exact kg_istore C hd hi hs k
  · cases hv
  · cases hv
theorem kSet_astore_n {i : Fin 4} (hd : decode M.1 pc = .ok (.astore_n i, 1)) (hi : (i : Nat) < M.2.2.1) : kSet M pc (pc + 1) i 1 := by
  intro X C L L' st σ v hv hs k
  rcases v with z | o | z
  · cases hv
  · exact kg_astore_n C hd hi hs k
  · cases hv
theorem kSet_astore {i : Nat} (hd : decode M.1 pc = .ok (.astore i, 2)) (hi : i < M.2.2.1) : kSet M pc (pc + 2) i 1 := by
  intro X C L L' st σ v hv hs k
  rcases v with z | o | z
  · cases hv
  · exact kg_astore C hd hi hs k
  · cases hv
theorem kSet_lstore_n {i : Fin 4} (hd : decode M.1 pc = .ok (.lstore_n i, 1)) (hi : (i : Nat) + 1 < M.2.2.1) : kSet M pc (pc + 1) i 2 := by
  intro X C L L' st σ v hv hs k
  rcases v with z | o | z
  · cases hv
  · cases hv
  · exact kg_lstore_n C hd hi hs k
/-- the statement: the value has the tag that the instruction wants -/
def sLet (tag i : Nat) (e : kEx) : kSx := fun L σ => (e L σ).bind fun p => if ktag p.1 = tag then (kset L i p.1).map fun L' => (rN, L', p.2) else none
theorem kSt_let {tag i : Nat} {e : kEx} (he : kE M 0 pc p1 e) (hs : kSet M p1 p2 i tag) : kSt M pc p2 pB pC (sLet tag i e) := by
  intro L σ r L' σ' hL hS h
  simp only [sLet, Option.bind_eq_some_iff] at h
  obtain ⟨⟨v, σ1⟩, q1, q2⟩ := h
  split at q2
  · rename_i ht
    simp only [Option.map_eq_some_iff] at q2
    obtain ⟨L1, q3, q4⟩ := q2
    cases q4
    obtain ⟨g1, g2, g3⟩ := he L [] σ _ _ hL hS (Nat.zero_le _) q1
    refine ⟨kset_vl q3 hL g1, g2, trivial, fun X C k => g3 X C (hs X C L _ [] _ v ?_ q3 k)⟩
    rcases v with z | o | z <;> exact ht.symm
  · cases q2
theorem kSt_inc {i : Nat} {n : Int} (hd : decode M.1 pc = .ok (.iinc i n, 3)) (hi : i < M.2.2.1) : kSt M pc (pc + 3) pB pC (sInc i n) := by
  intro L σ r L' σ' hL hS h
  unfold sInc at h
  split at h
  · rename_i x hx
    simp only [Option.bind_eq_some_iff, Option.map_eq_some_iff] at h
    obtain ⟨z, hz, L1, q3, q4⟩ := h
    cases q4
    obtain ⟨rfl, hr⟩ := kck_eq hz
    exact ⟨kset_vl q3 hL hr, hS, trivial, fun X C k => kg_iinc C hd hi hx q3 k⟩
  · cases h
theorem kput_vs {ci k : Nat} {v x : kV} {σ σ' : kS} (hS : kVS σ) (hv : kVV x) (h : kput ci k v x σ = some σ') : kVS σ' := by
  unfold kput at h
  split at h
  · rename_i o fl hF
    obtain ⟨rfl, he⟩ := kFO_spec hF
    split at h
    · cases h; exact kup_vs hS (k_6432 hv) (fun _ => hv)
    · rename_i hf
      cases h
      exact kup_vs hS hv (fun q => by simp [kIs64, he, hf] at q)
    · cases h
  · cases h
theorem kast_vs {kind : Nat} {v x : kV} {i : Int} {σ σ' : kS} (hS : kVS σ) (hv : kVV x) (h : kast kind v i x σ = some σ') : kVS σ' := by
  unfold kast at h
  split at h
  · rename_i o n hF
    obtain ⟨rfl, he⟩ := kFA_spec hF
    split at h
    · split at h
      · split at h
        · cases h; exact kup_vs hS (k_6432 hv) (fun _ => hv)
        · cases h
      · split at h
        · rename_i hk
          cases h
          exact kup_vs hS hv (fun q => by simp [kIs64, he, hk] at q)
        · cases h
      · cases h
    · cases h
  · cases h
theorem kSt_put {ci k idx : Nat} {e : kEx} (ha : kE M 0 pc p1 a) (he : kE M 1 p1 p2 e) (hf : kPf M.2.1 idx ci k) (hd : decode M.1 p2 = .ok (.putfield idx, 3)) : kSt M pc (p2 + 3) pB pC (sPut ci k a e) := by
  intro L σ r L' σ' hL hS h
  simp only [sPut, Option.bind_eq_some_iff, Option.map_eq_some_iff] at h
  obtain ⟨⟨v, σ1⟩, q1, ⟨x, σ2⟩, q2, σ3, q3, q4⟩ := h
  cases q4
  obtain ⟨g1, g2, g3⟩ := ha L [] σ _ _ hL hS (Nat.zero_le _) q1
  obtain ⟨g4, g5, g6⟩ := he L [v] σ1 _ _ hL g2 (by simp) q2
  obtain ⟨Cn, T, N, ty0, ref, nm, ty, w1, w2, w3, w4, w5, w6, w7, w8⟩ := hf
  exact ⟨hL, kput_vs g5 g4 q3, trivial, fun X C kk => g3 X C (g6 X C (kg_put w1 w2 w3 w4 w5 w6 w7 w8 C hd q3 kk))⟩
theorem kSt_putOp {ci k ig idx p4 : Nat} {e : kEx} {f : Int → Int → Option Int} (ha : kE M 0 pc p1 a) (hdup : decode M.1 p1 = .ok (.dup, 1)) (hg : kGf M.2.1 ig ci k) (hdg : decode M.1 (p1 + 1) = .ok (.getfield ig, 3)) (he : kE M 2 (p1 + 1 + 3) p4 e) (ho : kOp M p4 f) (hf : kPf M.2.1 idx ci k) (hd : decode M.1 (p4 + 1) = .ok (.putfield idx, 3)) : kSt M pc (p4 + 1 + 3) pB pC (sPutOp ci k a f e) := by
  intro L σ r L' σ' hL hS h
  simp only [sPutOp, Option.bind_eq_some_iff, Option.map_eq_some_iff] at h
  obtain ⟨⟨v, σ1⟩, q1, o, q2, ⟨x, σ2⟩, q3, zo, q4, zx, q5, z, q6, σ3, q7, q8⟩ := h
  cases q8
  dsimp only at q2 q3 q5 q7
  have e1 := kint_eq q4
  have e2 := kint_eq q5
  subst e1; subst e2
  obtain ⟨g1, g2, g3⟩ := ha L [] σ _ _ hL hS (Nat.zero_le _) q1
  have hv : ∀ z, v ≠ .inr (.inr z) := by
    rintro z rfl
    simp [kget, kFO] at q2
  obtain ⟨g4, g5, g6⟩ := he L [.inl zo, v] σ1 _ _ hL g2 (by simp) q3
  obtain ⟨g7, g8⟩ := ho L [v] σ2 zo zx z (kget_vv g2 q2) g4 q6
  obtain ⟨Cn, T, N, ref, nm, ty, u1, u2, u3, u4, u5⟩ := hg
  obtain ⟨Cn', T', N', ty0, ref', nm', ty', w1, w2, w3, w4, w5, w6, w7, w8⟩ := hf
  exact ⟨hL, kput_vs (x := .inl z) g5 g7 q7, trivial, fun X C kk => g3 X C (kg_dup C hdup hv (kg_get u1 u2 u3 u4 u5 C hdg q2 (g6 X C (g8 X C (kg_put w1 w2 w3 w4 w5 w6 w7 w8 C hd q7 kk)))))⟩
theorem kSt_iast {i e : kEx} (ha : kE M 0 pc p1 a) (hi : kE M 1 p1 p2 i) (he : kE M 2 p2 p3 e) (hd : decode M.1 p3 = .ok (.iastore, 1)) : kSt M pc (p3 + 1) pB pC (sAst 0 a i e) := by
  intro L σ r L' σ' hL hS h
  simp only [sAst, Option.bind_eq_some_iff, Option.map_eq_some_iff] at h
  obtain ⟨⟨v, σ1⟩, q1, ⟨x, σ2⟩, q2, ⟨w, σ3⟩, q3, zx, q4, σ4, q5, q6⟩ := h
  cases q6
  dsimp only at q2 q3 q4 q5
  have e1 := kint_eq q4
  subst e1
  obtain ⟨g1, g2, g3⟩ := ha L [] σ _ _ hL hS (Nat.zero_le _) q1
  obtain ⟨g4, g5, g6⟩ := hi L [v] σ1 _ _ hL g2 (by simp) q2
  obtain ⟨g7, g8, g9⟩ := he L [.inl zx, v] σ2 _ _ hL g5 (by simp) q3
  rcases w with z | o | z
  · exact ⟨hL, kast_vs g8 g7 q5, trivial, fun X C k => g3 X C (g6 X C (g9 X C (kg_iast C hd g4 q5 k)))⟩
  · exfalso
    unfold kast at q5
    split at q5
    · split at q5 <;> cases q5
    · cases q5
  · exfalso
    unfold kast at q5
    split at q5
    · split at q5
      · cases q5
      · cases q5
    · cases q5
theorem kSt_zast {i e : kEx} (ha : kE M 0 pc p1 a) (hi : kE M 1 p1 p2 i) (he : kE M 2 p2 p3 e) (hd : decode M.1 p3 = .ok (.bastore, 1)) : kSt M pc (p3 + 1) pB pC (sAst 1 a i e) := by
  intro L σ r L' σ' hL hS h
  simp only [sAst, Option.bind_eq_some_iff, Option.map_eq_some_iff] at h
  obtain ⟨⟨v, σ1⟩, q1, ⟨x, σ2⟩, q2, ⟨w, σ3⟩, q3, zx, q4, σ4, q5, q6⟩ := h
  cases q6
  dsimp only at q2 q3 q4 q5
  have e1 := kint_eq q4
  subst e1
  obtain ⟨g1, g2, g3⟩ := ha L [] σ _ _ hL hS (Nat.zero_le _) q1
  obtain ⟨g4, g5, g6⟩ := hi L [v] σ1 _ _ hL g2 (by simp) q2
  obtain ⟨g7, g8, g9⟩ := he L [.inl zx, v] σ2 _ _ hL g5 (by simp) q3
  rcases w with z | o | z
  · exact ⟨hL, kast_vs g8 g7 q5, trivial, fun X C k => g3 X C (g6 X C (g9 X C (kg_zast C hd g4 q5 k)))⟩
  · exfalso
    unfold kast at q5
    split at q5
    · split at q5 <;> cases q5
    · cases q5
  · exfalso
    unfold kast at q5
    split at q5
    · split at q5
      · cases q5
      · cases q5
    · cases q5
theorem kSt_iastOp {i e : kEx} {f : Int → Int → Option Int} {p4 : Nat} (ha : kE M 0 pc p1 a) (hi : kE M 1 p1 p2 i) (hd2 : decode M.1 p2 = .ok (.dup2, 1)) (hdl : decode M.1 (p2 + 1) = .ok (.iaload, 1)) (he : kE M 3 (p2 + 1 + 1) p4 e) (ho : kOp M p4 f) (hd : decode M.1 (p4 + 1) = .ok (.iastore, 1)) : kSt M pc (p4 + 1 + 1) pB pC (sAstOp a i f e) := by
  intro L σ r L' σ' hL hS h
  simp only [sAstOp, Option.bind_eq_some_iff, Option.map_eq_some_iff] at h
  obtain ⟨⟨v, σ1⟩, q1, ⟨x, σ2⟩, q2, zx, q3, o, q4, ⟨w, σ3⟩, q5, zo, q6, zw, q7, z, q8, σ4, q9, q10⟩ := h
  cases q10
  dsimp only at q2 q3 q4 q5 q7 q9
  have e1 := kint_eq q3
  have e2 := kint_eq q6
  have e3 := kint_eq q7
  subst e1; subst e2; subst e3
  obtain ⟨g1, g2, g3⟩ := ha L [] σ _ _ hL hS (Nat.zero_le _) q1
  obtain ⟨g4, g5, g6⟩ := hi L [v] σ1 _ _ hL g2 (by simp) q2
  have hv : ∃ oo, v = .inr (.inl oo) := by
    unfold kald at q4
    split at q4
    · rename_i hF
      exact ⟨_, (kFA_spec hF).1⟩
    · cases q4
  obtain ⟨oo, rfl⟩ := hv
  obtain ⟨g7, g8, g9⟩ := he L [.inl zo, .inl zx, .inr (.inl oo)] σ2 _ _ hL g5 (by simp) q5
  obtain ⟨g10, g11⟩ := ho L [.inl zx, .inr (.inl oo)] σ3 zo zw z (kald_vv g5 q4) g7 q8
  exact ⟨hL, kast_vs (x := .inl z) g8 g10 q9, trivial, fun X C k => g3 X C (g6 X C (kg_dup2 C hd2 (kg_iald C hdl g4 q4 (g9 X C (g11 X C (kg_iast C hd g4 q9 k))))))⟩
theorem kSt_E {e : kEx} (he : kE M 0 pc p1 e) (hd : decode M.1 p1 = .ok (.pop, 1)) : kSt M pc (p1 + 1) pB pC (sE e) := by
  intro L σ r L' σ' hL hS h
  simp only [sE, Option.bind_eq_some_iff] at h
  obtain ⟨⟨v, σ1⟩, q1, q2⟩ := h
  obtain ⟨g1, g2, g3⟩ := he L [] σ _ _ hL hS (Nat.zero_le _) q1
  rcases v with z | o | z
  · cases q2; exact ⟨hL, g2, trivial, fun X C k => g3 X C (kg_pop C hd (fun _ q => by cases q) k)⟩
  · cases q2; exact ⟨hL, g2, trivial, fun X C k => g3 X C (kg_pop C hd (fun _ q => by cases q) k)⟩
  · cases q2
theorem kSt_call {y : MethodName} {cc : ByteArray} {nL idx ci n : Nat} {rm : Room} {F : kFn} (hes : kEs M 0 (n + 1) pc p1 es) (hd : decode M.1 p1 = .ok (.invokevirtual idx, 3)) (hc : kCon y cc nL none rm F) (hv : kMv y cc nL none ci n) (hl : Cond.methodLink M.2.1 idx y ∈ kTBL)
    (hR : rm.cells = 0 ∧ rm.slots = 0 ∧ rm.frames + 1 ≤ M.2.2.2.1.frames ∧ 8 + (nL + 11) + rm.locals ≤ M.2.2.2.1.locals) : kSt M pc (p1 + 3) pB pC (sCall ci F es) := by
  intro L σ r L' σ' hL hS he
  simp only [sCall, Option.bind_eq_some_iff] at he
  obtain ⟨⟨vs, σ1⟩, h1, h2⟩ := he
  split at h2
  · rename_i ho
    simp only [Option.bind_eq_some_iff] at h2
    obtain ⟨⟨r1, σ2⟩, h3, h4⟩ := h2
    cases r1 with
    | none =>
      cases h4
      obtain ⟨g1, g2, g3, g4⟩ := hes L [] σ _ _ hL hS (Nat.zero_le _) h1
      obtain ⟨g5, g6, g7⟩ := kg_callV hc hv hl hR hd (L := L) (st := []) (by simp) g1 g2 g3 ho h3
      exact ⟨hL, g6, trivial, fun X C k => g4 X C (g7 X C k)⟩
    | some v => cases h4
  · cases h2
theorem kSt_callS {y : MethodName} {cc : ByteArray} {nL idx n : Nat} {rm : Room} {F : kFn} (hes : kEs M 0 n pc p1 es) (hd : decode M.1 p1 = .ok (.invokestatic idx, 3)) (hc : kCon y cc nL none rm F) (hv : kMs y cc nL none n) (hl : Cond.methodLink M.2.1 idx y ∈ kTBL)
    (hR : rm.cells = 0 ∧ rm.slots = 0 ∧ rm.frames + 1 ≤ M.2.2.2.1.frames ∧ 8 + (nL + 11) + rm.locals ≤ M.2.2.2.1.locals) : kSt M pc (p1 + 3) pB pC (sCallS F es) := by
  intro L σ r L' σ' hL hS he
  simp only [sCallS, Option.bind_eq_some_iff] at he
  obtain ⟨⟨vs, σ1⟩, h1, ⟨r1, σ2⟩, h3, h4⟩ := he
  cases r1 with
  | none =>
    cases h4
    obtain ⟨g1, g2, g3, g4⟩ := hes L [] σ _ _ hL hS (Nat.zero_le _) h1
    obtain ⟨g5, g6, g7⟩ := kg_callS hc hv hl hR hd (L := L) (st := []) (by simp) g1 g2 g3 h3
    exact ⟨hL, g6, trivial, fun X C k => g4 X C (g7 X C k)⟩
  | some v => cases h4
theorem kSt_ret {e : kEx} {tag : Nat} (he : kE M 0 pc p1 e) (ht : (tag = 0 → decode M.1 p1 = .ok (.ireturn, 1)) ∧ (tag = 1 → decode M.1 p1 = .ok (.areturn, 1)) ∧ (tag = 2 → decode M.1 p1 = .ok (.lreturn, 1))) : kSt M pc pN pB pC (sRet tag e) := by
  intro L σ r L' σ' hL hS h
  simp only [sRet, Option.bind_eq_some_iff] at h
  obtain ⟨⟨v, σ1⟩, q1, q2⟩ := h
  split at q2
  · rename_i htg
    cases q2
    obtain ⟨g1, g2, g3⟩ := he L [] σ _ _ hL hS (Nat.zero_le _) q1
    refine ⟨hL, g2, g1, fun X C k => g3 X C (k p1 L ?_)⟩
    rcases v with z | o | z
    · exact ht.1 htg.symm
    · exact ht.2.1 htg.symm
    · exact ht.2.2 htg.symm
  · cases q2
theorem kSt_retV (hd : decode M.1 pc = .ok (.return_, 1)) : kSt M pc pN pB pC sRetV := by
  intro L σ r L' σ' hL hS h
  cases h
  exact ⟨hL, hS, trivial, fun X C k => k pc L hd⟩
theorem kSt_for {k h pt pf pu : Nat} {c : kCx} {body upd : kSx} (hc : kCd M 0 h pt pf c) (hb : kSt M pt pu pf pu body) (hu : kSt M pu h pu pu upd) : kSt M h pf pB pC (sFor k c body upd) := by
  intro L σ r L' σ' hL hS he
  obtain ⟨n, hn⟩ := kLoop_iff.mp he
  clear he
  induction n generalizing L σ with
  | zero => cases hn
  | succ n ih =>
    simp only [kIter, kBody, Option.bind_eq_some_iff] at hn
    obtain ⟨x, ⟨⟨tv, σ1⟩, q1, q2⟩, q3⟩ := hn
    obtain ⟨g2, g3⟩ := hc L [] σ _ _ hL hS (Nat.zero_le _) q1
    cases tv
    · simp at q2
      subst q2
      cases q3
      exact ⟨hL, g2, trivial, g3⟩
    · simp only [if_true, Option.bind_eq_some_iff] at q2
      obtain ⟨⟨r1, L1, σ2⟩, q4, q5⟩ := q2
      obtain ⟨g4, g5, g6, g7⟩ := hb L σ1 _ _ _ hL g2 q4
      have step : ∀ (u : kR × kL × kS), (∀ X, kC M X → kW M X pu L1 [] σ2 → kW M X pt L [] σ1) → upd (L1.take k) σ2 = some u → (match u.1 with
          | .inl () => some (Sum.inl (u.2.1, u.2.2))
          | _ => none) = some x → kVL L' ∧ kVS σ' ∧ kRv r ∧ (∀ X, kC M X → kK M X pf pB pC r L' σ' → kW M X h L [] σ) := by
        rintro ⟨r2, L2, σ3⟩ hk hup hm
        obtain ⟨g8, g9, g10, g11⟩ := hu (L1.take k) σ2 _ _ _ (kVL_take g4) g5 hup
        rcases r2 with u | ⟨_ | _⟩ | v | t
        · cases hm
          obtain ⟨g12, g13, g14, g15⟩ := ih L2 σ3 g8 g9 q3
          exact ⟨g12, g13, g14, fun X C kk => g3 X C (hk X C (kW_take (g11 X C (g15 X C kk))))⟩
        all_goals cases hm
      rcases r1 with u | ⟨_ | _⟩ | v | t
      · simp only [Option.bind_eq_some_iff] at q5
        obtain ⟨u2, q6, q7⟩ := q5
        exact step u2 g7 q6 q7
      · cases q5
        cases q3
        exact ⟨kVL_take g4, g5, trivial, fun X C kk => g3 X C (g7 X C (kW_take kk))⟩
      · simp only [Option.bind_eq_some_iff] at q5
        obtain ⟨u2, q6, q7⟩ := q5
        exact step u2 g7 q6 q7
      · cases q5
        cases q3
        exact ⟨g4, g5, g6, fun X C kk => g3 X C (g7 X C kk)⟩
      · cases q5
        cases q3
        exact ⟨g4, g5, g6, fun X C kk => g3 X C (g7 X C kk)⟩
end R3
