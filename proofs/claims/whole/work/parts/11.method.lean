/-! RULES 4: switches, longs compared, Math, a method from its body -/
def kNL (v : kV) : Bool := match v with
  | .inr (.inr _) => false
  | _ => true
/-- a method as a function: n arguments, what it may answer -/
def kF (n : Nat) (chk : Option kV → Bool) (body : kSx) : kFn := fun av σ => if av.length = n ∧ av.all kNL = true then (body (av.map some) σ).bind fun r => match r.1 with
  | .inr (.inr (.inl v)) => if chk v = true then some (v, r.2.2) else none
  | _ => none else none
def kI (v : Option kV) : Bool := match v with
  | some (.inl _) => true
  | _ => false
def kZ (v : Option kV) : Bool := match v with
  | some (.inl z) => z == 0 || z == 1
  | _ => false
def kA (v : Option kV) : Bool := match v with
  | some (.inr (.inl _)) => true
  | _ => false
def kJl (v : Option kV) : Bool := match v with
  | some (.inr (.inr _)) => true
  | _ => false
def kN (v : Option kV) : Bool := v.isNone
theorem k_slots {g : kG} {av : List kV} (h : av.all kNL = true) : lg_sl (av.map (kcv g)) = (av.map (kcv g)).map Slot.val := by
  induction av with
  | nil => rfl
  | cons v t ih =>
    simp only [List.all_cons, Bool.and_eq_true] at h
    have ht := ih h.2
    unfold lg_sl at ht ⊢
    have hv : ¬ (kcv g v).category = 2 := by
      rcases v with z | o | z
      · intro q; cases q
      · intro q; cases q
      · cases h.1
    simp only [List.map_cons, List.flatMap_cons, hv, if_false]
    rw [ht]
    rfl
theorem k_args {g : kG} {av : List kV} (h : av.all kNL = true) : ∀ (i j : Nat) (w : kV), av[j]? = some w → (i + j, kcv g w) ∈ lv_args i (av.map (kcv g)) := by
  induction av with
  | nil => intro i j w hj; simp at hj
  | cons v t ih =>
    simp only [List.all_cons, Bool.and_eq_true] at h
    have hv : ¬ (kcv g v).category = 2 := by
      rcases v with z | o | z
      · intro q; cases q
      · intro q; cases q
      · cases h.1
    intro i j w hj
    simp only [List.map_cons, lv_args, hv, if_false]
    cases j with
    | zero =>
      simp at hj
      subst hj
      exact List.mem_cons_self
    | succ j =>
      simp only [List.getElem?_cons_succ] at hj
      have := ih h.2 (i + 1) j w hj
      rw [show i + 1 + j = i + (j + 1) by omega] at this
      exact List.mem_cons_of_mem _ this
theorem k_entry {g : kG} {av : List kV} {nL : Nat} (h : av.all kNL = true) (hn : av.length ≤ nL) : klh g ((lg_sl (av.map (kcv g)) ++ List.replicate (nL - (lg_sl (av.map (kcv g))).length) Slot.unset).toArray) nL (av.map some) := by
  have hl := lv_entry (av.map (kcv g)) (n := nL) (by rw [k_slots h]; simpa using hn)
  refine ⟨hl.1, hl.2.1, fun i v hi => ?_⟩
  have hi2 : av[i]? = some v := by
    rw [List.getElem?_map] at hi
    cases hq : av[i]? with
    | none => rw [hq] at hi; cases hi
    | some w => rw [hq] at hi; simpa using hi
  have := k_args (g := g) h 0 i v hi2
  rw [Nat.zero_add] at this
  exact hl.2.2 _ this
/-- the ends of a method's walk: by what it answers -/
def kEnds (ret : Option FieldType) (chk : Option kV → Bool) : Prop := ∀ (M : kM) (X : kX) (r : Option kV) (σ : kS), M.2.2.2.2 = ret → kC M X → chk r = true → (match X with
  | (p, l, e, s, m, args, below, meth, c, Q, g, A, H0, cells, slots) => meth.sig.returnType = ret ∧ meth.locks = false ∧ H0 = s.heap ∧ Q = MQ below (fun _ st oc t => (oc = .returned (r.map (kcv g)) ∧ va_P g.1 kcl (kw g σ) t.heap) ∧ va_F A st t) args s cells slots A) → kRet M X r σ
theorem kEnds_I : kEnds (some .int) kI := by
  intro M X r σ hr CC hc hq
  obtain ⟨p, l, e, s, m, args, below, meth, c, Q, g, A, H0, cells, slots⟩ := X
  obtain ⟨hxx, hb, hml, hown, hts, hK, hD, hA, hcs⟩ := CC
  obtain ⟨h1, h2, rfl, rfl⟩ := hq
  rcases r with _ | z | o | z <;> first | cases hc | skip
  intro pc L hd H locs ls hP hS hll
  exact W.iret hxx hb h1 (fun t ht hW => ⟨⟨rfl, by rw [ht]; exact hP⟩, hS.F ht⟩) hS.2.2 hd h2
theorem kEnds_Z : kEnds (some .boolean) kZ := by
  intro M X r σ hr CC hc hq
  obtain ⟨p, l, e, s, m, args, below, meth, c, Q, g, A, H0, cells, slots⟩ := X
  obtain ⟨hxx, hb, hml, hown, hts, hK, hD, hA, hcs⟩ := CC
  obtain ⟨h1, h2, rfl, rfl⟩ := hq
  rcases r with _ | z | o | z <;> first | cases hc | skip
  intro pc L hd H locs ls hP hS hll
  have hz : z = 0 ∨ z = 1 := by simpa [kZ] using hc
  refine W.zret hxx hb h1 ?_ (fun t ht hW => ⟨⟨rfl, by rw [ht]; exact hP⟩, hS.F ht⟩) hS.2.2 hd h2
  rcases hz with rfl | rfl <;> rfl
theorem kEnds_J : kEnds (some .long) kJl := by
  intro M X r σ hr CC hc hq
  obtain ⟨p, l, e, s, m, args, below, meth, c, Q, g, A, H0, cells, slots⟩ := X
  obtain ⟨hxx, hb, hml, hown, hts, hK, hD, hA, hcs⟩ := CC
  obtain ⟨h1, h2, rfl, rfl⟩ := hq
  rcases r with _ | z | o | z <;> first | cases hc | skip
  intro pc L hd H locs ls hP hS hll
  exact W.lret hxx hb h1 (fun t ht hW => ⟨⟨rfl, by rw [ht]; exact hP⟩, hS.F ht⟩) hS.2.2 hd h2
theorem kEnds_A {n : String} : kEnds (some (.object n)) kA := by
  intro M X r σ hr CC hc hq
  obtain ⟨p, l, e, s, m, args, below, meth, c, Q, g, A, H0, cells, slots⟩ := X
  obtain ⟨hxx, hb, hml, hown, hts, hK, hD, hA, hcs⟩ := CC
  obtain ⟨h1, h2, rfl, rfl⟩ := hq
  rcases r with _ | z | o | z <;> first | cases hc | skip
  intro pc L hd H locs ls hP hS hll
  exact W.aret hxx hb h1 (Or.inl ⟨_, rfl⟩) (Or.inr ⟨_, rfl⟩) (fun t ht hW => ⟨⟨rfl, by rw [ht]; exact hP⟩, hS.F ht⟩) hS.2.2 hd h2
theorem kEnds_V : kEnds none kN := by
  intro M X r σ hr CC hc hq
  obtain ⟨p, l, e, s, m, args, below, meth, c, Q, g, A, H0, cells, slots⟩ := X
  obtain ⟨hxx, hb, hml, hown, hts, hK, hD, hA, hcs⟩ := CC
  obtain ⟨h1, h2, rfl, rfl⟩ := hq
  rcases r with _ | z | o | z <;> first | cases hc | skip
  intro pc L hd H locs ls hP hS hll
  exact W.vret hxx hb h1 (fun t ht hW => ⟨⟨rfl, by rw [ht]; exact hP⟩, hS.F ht⟩) hS.2.2 hd h2
theorem kCon_of {y : MethodName} {cc : ByteArray} {nL n : Nat} {ret : Option FieldType} {rm : Room} {chk : Option kV → Bool} {body : kSx} (hends : kEnds ret chk) (hp : plainName y.cls = true) (hn : n ≤ nL)
    (hbody : ∃ pN pB pC, kSt (cc, y.cls, nL, rm, ret) 0 pN pB pC body) : kCon y cc nL ret rm (kF n chk body) := by
  intro av σ r σ' hS hav hF
  unfold kF at hF
  split at hF
  · rename_i hlen
    simp only [Option.bind_eq_some_iff] at hF
    obtain ⟨⟨r1, L1, σ1⟩, hq, hF⟩ := hF
    rcases r1 with u | b | v | t <;> dsimp only at hF <;> first | cases hF | skip
    split at hF
    · rename_i hchk
      cases hF
      obtain ⟨pN, pB, pC, hb⟩ := hbody
      have hVL : kVL (av.map some) := by
        intro v hv
        obtain ⟨w, hw, hwv⟩ := List.mem_map.mp hv
        have e : w = v := by simpa using hwv
        rw [← e]
        exact hav w hw
      obtain ⟨w1, w2, w3, w4⟩ := hb _ _ _ _ _ hVL hS hq
      refine ⟨fun v hv => by subst hv; exact w3, w2, fun l g sz => ?_⟩
      · refine Met.ofW (cc := cc) (maxL := nL) (ret := ret) hp rfl ?_
        intro p e s m args below meth c s₁ B hml hv
        obtain ⟨rfl, hsz, hP, hK, hD0, hN⟩ := hv
        subst hsz
        have hD := hD0.self (sz := s.heap.size)
        have C : kC (cc, y.cls, nL, rm, ret) (p, l, e, s, m, (av.map (kcv g)).toArray, below, meth, c, MQ below (fun _ st oc t => (oc = .returned (r.map (kcv g)) ∧ va_P g.1 kcl (kw g σ') t.heap) ∧ va_F (va_A (kw g σ) s.heap.size) st t) (av.map (kcv g)).toArray s 0 0 (va_A (kw g σ) s.heap.size), g, va_A (kw g σ) s.heap.size, s.heap, 0, 0) := by
          refine ⟨B.exec, B.bytes, hml, findClass_of_methodNamed B.named, fun w hw => atoms_spec (ws := .code y cc nL ret :: kTBL) B.pre w (List.mem_cons_of_mem _ hw), hK, fun σ2 => kD_of hD, fun q hq => Or.inr hq, ⟨Nat.zero_le _, Nat.zero_le _⟩, hN⟩
        have hret := hends (cc, y.cls, nL, rm, ret) _ r σ' rfl C hchk ⟨B.returns, B.notSynchronized, rfl, rfl⟩
        have := w4 _ C hret s.heap [] _ hP va_S.rf (k_entry hlen.2 (Nat.le_trans (Nat.le_of_eq hlen.1) hn))
        rw [lg_entry_eq]
        exact this
    · cases hF
  · cases hF
