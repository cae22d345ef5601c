/-! RULES 2: calls, conditions, statements -/
section R2
variable {M : kM} {d pc p1 p2 p3 : Nat} {a b : kEx} {es : kAx}
theorem kE_call {y : MethodName} {cc : ByteArray} {nL idx ci n : Nat} {rt : FieldType} {rm : Room} {F : kFn} (hes : kEs M d (n + 1) pc p1 es) (hd : decode M.1 p1 = .ok (.invokevirtual idx, 3)) (hc : kCon y cc nL (some rt) rm F) (hv : kMv y cc nL (some rt) ci n) (hl : Cond.methodLink M.2.1 idx y ∈ kTBL)
    (hR : rm.cells = 0 ∧ rm.slots = 0 ∧ rm.frames + 1 ≤ M.2.2.2.1.frames ∧ 8 + (nL + 11) + rm.locals ≤ M.2.2.2.1.locals) (hdd : d ≤ 4) : kE M d pc (p1 + 3) (eCall ci F es) := by
  intro L st σ v σ' hL hS hst he
  simp only [eCall, Option.bind_eq_some_iff] at he
  obtain ⟨⟨vs, σ1⟩, h1, h2⟩ := he
  split at h2
  · rename_i ho
    simp only [Option.bind_eq_some_iff, Option.map_eq_some_iff] at h2
    obtain ⟨⟨r, σ2⟩, h3, w, hw, hq⟩ := h2
    cases hq
    dsimp only at hw
    subst hw
    obtain ⟨g1, g2, g3, g4⟩ := hes L st σ _ _ hL hS hst h1
    obtain ⟨g5, g6, g7⟩ := kg_callV hc hv hl hR hd (L := L) (st := st) (by omega) g1 g2 g3 ho h3
    exact ⟨g5 _ rfl, g6, fun X C k => g4 X C (g7 X C k)⟩
  · cases h2
theorem kg_callS {y : MethodName} {cc : ByteArray} {nL idx n : Nat} {ret : Option FieldType} {rm : Room} {F : kFn} (hc : kCon y cc nL ret rm F) (hv : kMs y cc nL ret n) (hl : Cond.methodLink M.2.1 idx y ∈ kTBL)
    (hR : rm.cells = 0 ∧ rm.slots = 0 ∧ rm.frames + 1 ≤ M.2.2.2.1.frames ∧ 8 + (nL + 11) + rm.locals ≤ M.2.2.2.1.locals) (hd : decode M.1 pc = .ok (.invokestatic idx, 3))
    {L : kL} {st : List kV} {σ σ' : kS} {vs : List kV} {r : Option kV} (hst : st.length ≤ 4) (hvs : vs.length = n) (hvv : ∀ v ∈ vs, kVV v) (hS : kVS σ) (hF : F vs σ = some (r, σ')) :
    (∀ v, r = some v → kVV v) ∧ kVS σ' ∧ (∀ X, kC M X → kW M X (pc + 3) L (r.toList ++ st) σ' → kW M X pc L (vs.reverse ++ st) σ) := by
  have h0 := hc vs σ r σ' hS hvv hF
  refine ⟨h0.1, h0.2.1, fun X CC kk => ?_⟩
  obtain ⟨p, l, e, s, m, args, below, meth, c, Q, g, A, H0, cells, slots⟩ := X
  obtain ⟨hxx, hb, hml, hown, hts, hK, hD, hA, hcs⟩ := CC
  intro H locs ls hP hSS hll
  have hM := h0.2.2 l g H.size
  obtain ⟨hv1, hv2, hv4, hv6, hv7⟩ := hv
  have hfree : ∀ q, va_A (kw g σ) H.size q → A q := by
    intro q hq
    rcases hq with ⟨k, e, h⟩ | h
    · exact (hD σ).2 k (q, e) h
    · exact hA q (Nat.le_trans hSS.1 h)
  have hstk : ((vs.reverse ++ st : List kV).map (kcv g)) = (vs.map (kcv g)).reverse ++ st.map (kcv g) := by
    simp
  refine k_after (r := r) (σ' := σ') (g := g) (σ := σ) (a := (vs.map (kcv g)).toArray) (rest := st.map (kcv g)) ?_ hSS hfree ?_
  · refine va_runS (As := vs.map (kcv g)) (rest := st.map (kcv g)) (own := M.2.1) (Ts := kTBL) (n := n) (index := idx) ⟨hxx, hb, hml, hown, hts⟩ hM ⟨callB_of n hts (kgood_in hv1) rfl hR.1 hR.2.1 (hts _ hv4) (hts _ hl) ⟨hv6.1, hv6.2, hv7⟩ ⟨hR.2.2.1, hR.2.2.2⟩, hts _ hv2⟩ ?_ rfl (by simp [hvs]) hll.1 hstk (by
      have := k_weight (g := g) hst
      show 2 * 0 + _ ≤ 8
      omega) hd ⟨by have := hcs.1.1; omega, by have := hcs.1.2; omega⟩
    refine ⟨fun a U g' mk q => ?_, fun U hU hW => ⟨rfl, by rw [hU], by rw [hU]; exact hP, va_K.moved hW.alike hK, (hD σ).weaken (fun _ _ _ _ => trivial), hcs.2.warm hW⟩⟩
    obtain ⟨q0, q1, qP, qK, qD, qN⟩ := q
    exact ⟨q0, q1, qP, va_K.moved (u := U) (U := U.calling g' mk a) (Vm.Alike.refl U.vm) qK, qD, qN.same (u := U) (U := U.calling g' mk a) rfl⟩
  · intro H1 locs1 hP1 hS1
    have := kk H1 locs1 ls hP1 hS1 hll
    cases r with
    | none => exact this
    | some v => exact this
theorem kE_callS {y : MethodName} {cc : ByteArray} {nL idx n : Nat} {rt : FieldType} {rm : Room} {F : kFn} (hes : kEs M d n pc p1 es) (hd : decode M.1 p1 = .ok (.invokestatic idx, 3)) (hc : kCon y cc nL (some rt) rm F) (hv : kMs y cc nL (some rt) n) (hl : Cond.methodLink M.2.1 idx y ∈ kTBL)
    (hR : rm.cells = 0 ∧ rm.slots = 0 ∧ rm.frames + 1 ≤ M.2.2.2.1.frames ∧ 8 + (nL + 11) + rm.locals ≤ M.2.2.2.1.locals) (hdd : d ≤ 4) : kE M d pc (p1 + 3) (eCallS F es) := by
  intro L st σ v σ' hL hS hst he
  simp only [eCallS, Option.bind_eq_some_iff, Option.map_eq_some_iff] at he
  obtain ⟨⟨vs, σ1⟩, h1, ⟨r, σ2⟩, h3, w, hw, hq⟩ := he
  cases hq
  dsimp only at hw
  subst hw
  obtain ⟨g1, g2, g3, g4⟩ := hes L st σ _ _ hL hS hst h1
  obtain ⟨g5, g6, g7⟩ := kg_callS hc hv hl hR hd (L := L) (st := st) (by omega) g1 g2 g3 h3
  exact ⟨g5 _ rfl, g6, fun X C k => g4 X C (g7 X C k)⟩
/-- a jump on two ints, on one -/
def kJ (M : kM) (pc pt pf op : Nat) : Prop := ∀ X, kC M X → ∀ (L : kL) (st : List kV) (σ : kS) (x y : Int), kR32 x → kR32 y → kW M X (if kcmp op x y then pt else pf) L st σ → kW M X pc L (.inl y :: .inl x :: st) σ
def kJ0 (M : kM) (pc pt pf op : Nat) : Prop := ∀ X, kC M X → ∀ (L : kL) (st : List kV) (σ : kS) (x : Int), kR32 x → kW M X (if kcmp op x 0 then pt else pf) L st σ → kW M X pc L (.inl x :: st) σ
theorem kcmp_neg : (∀ x y, kcmp 1 x y = !kcmp 0 x y) ∧ (∀ x y, kcmp 0 x y = !kcmp 1 x y) ∧ (∀ x y, kcmp 3 x y = !kcmp 2 x y) ∧ (∀ x y, kcmp 2 x y = !kcmp 3 x y) ∧ (∀ x y, kcmp 5 x y = !kcmp 4 x y) ∧ (∀ x y, kcmp 4 x y = !kcmp 5 x y) := by
  refine ⟨?_, ?_, ?_, ?_, ?_, ?_⟩ <;> intro x y <;> by_cases h1 : x = y <;> by_cases h2 : x < y <;> by_cases h3 : y < x <;> simp [kcmp, h1, h2, h3] <;> omega
theorem kJ_neg {op op' : Nat} (hn : ∀ x y, kcmp op x y = !kcmp op' x y) (h : kJ M pc p1 p2 op) : kJ M pc p2 p1 op' := by
  intro X C L st σ x y hx hy k
  refine h X C L st σ x y hx hy ?_
  rw [hn]
  cases hh : kcmp op' x y <;> simp [hh] at k ⊢ <;> exact k
theorem kJ0_neg {op op' : Nat} (hn : ∀ x y, kcmp op x y = !kcmp op' x y) (h : kJ0 M pc p1 p2 op) : kJ0 M pc p2 p1 op' := by
  intro X C L st σ x hx k
  refine h X C L st σ x hx ?_
  rw [hn]
  cases hh : kcmp op' x 0 <;> simp [hh] at k ⊢ <;> exact k
variable {off : Int} {tgt : Nat}
theorem kJt_0 (hd : decode M.1 pc = .ok (.if_icmp .eq off, 3)) (ht : (pc : Int) + off = (tgt : Int)) : kJ M pc tgt (pc + 3) 0 := fun _ C _ _ _ _ _ hx hy k => kg_icmp_eq C hx hy hd ht k
theorem kJt_1 (hd : decode M.1 pc = .ok (.if_icmp .ne off, 3)) (ht : (pc : Int) + off = (tgt : Int)) : kJ M pc tgt (pc + 3) 1 := fun _ C _ _ _ _ _ hx hy k => kg_icmp_ne C hx hy hd ht k
theorem kJt_2 (hd : decode M.1 pc = .ok (.if_icmp .lt off, 3)) (ht : (pc : Int) + off = (tgt : Int)) : kJ M pc tgt (pc + 3) 2 := fun _ C _ _ _ _ _ hx hy k => kg_icmp_lt C hx hy hd ht k
theorem kJt_3 (hd : decode M.1 pc = .ok (.if_icmp .ge off, 3)) (ht : (pc : Int) + off = (tgt : Int)) : kJ M pc tgt (pc + 3) 3 := fun _ C _ _ _ _ _ hx hy k => kg_icmp_ge C hx hy hd ht k
theorem kJt_4 (hd : decode M.1 pc = .ok (.if_icmp .gt off, 3)) (ht : (pc : Int) + off = (tgt : Int)) : kJ M pc tgt (pc + 3) 4 := fun _ C _ _ _ _ _ hx hy k => kg_icmp_gt C hx hy hd ht k
theorem kJt_5 (hd : decode M.1 pc = .ok (.if_icmp .le off, 3)) (ht : (pc : Int) + off = (tgt : Int)) : kJ M pc tgt (pc + 3) 5 := fun _ C _ _ _ _ _ hx hy k => kg_icmp_le C hx hy hd ht k
theorem kJf_0 (hd : decode M.1 pc = .ok (.if_icmp .ne off, 3)) (ht : (pc : Int) + off = (tgt : Int)) : kJ M pc (pc + 3) tgt 0 := kJ_neg kcmp_neg.1 (kJt_1 hd ht)
theorem kJf_1 (hd : decode M.1 pc = .ok (.if_icmp .eq off, 3)) (ht : (pc : Int) + off = (tgt : Int)) : kJ M pc (pc + 3) tgt 1 := kJ_neg kcmp_neg.2.1 (kJt_0 hd ht)
theorem kJf_2 (hd : decode M.1 pc = .ok (.if_icmp .ge off, 3)) (ht : (pc : Int) + off = (tgt : Int)) : kJ M pc (pc + 3) tgt 2 := kJ_neg kcmp_neg.2.2.1 (kJt_3 hd ht)
theorem kJf_3 (hd : decode M.1 pc = .ok (.if_icmp .lt off, 3)) (ht : (pc : Int) + off = (tgt : Int)) : kJ M pc (pc + 3) tgt 3 := kJ_neg kcmp_neg.2.2.2.1 (kJt_2 hd ht)
theorem kJf_4 (hd : decode M.1 pc = .ok (.if_icmp .le off, 3)) (ht : (pc : Int) + off = (tgt : Int)) : kJ M pc (pc + 3) tgt 4 := kJ_neg kcmp_neg.2.2.2.2.1 (kJt_5 hd ht)
theorem kJf_5 (hd : decode M.1 pc = .ok (.if_icmp .gt off, 3)) (ht : (pc : Int) + off = (tgt : Int)) : kJ M pc (pc + 3) tgt 5 := kJ_neg kcmp_neg.2.2.2.2.2 (kJt_4 hd ht)
theorem kZt_0 (hd : decode M.1 pc = .ok (.ifCond .eq off, 3)) (ht : (pc : Int) + off = (tgt : Int)) : kJ0 M pc tgt (pc + 3) 0 := fun _ C _ _ _ _ hx k => kg_if_eq C hx hd ht k
theorem kZt_1 (hd : decode M.1 pc = .ok (.ifCond .ne off, 3)) (ht : (pc : Int) + off = (tgt : Int)) : kJ0 M pc tgt (pc + 3) 1 := fun _ C _ _ _ _ hx k => kg_if_ne C hx hd ht k
theorem kZt_2 (hd : decode M.1 pc = .ok (.ifCond .lt off, 3)) (ht : (pc : Int) + off = (tgt : Int)) : kJ0 M pc tgt (pc + 3) 2 := fun _ C _ _ _ _ hx k => kg_if_lt C hx hd ht k
theorem kZt_3 (hd : decode M.1 pc = .ok (.ifCond .ge off, 3)) (ht : (pc : Int) + off = (tgt : Int)) : kJ0 M pc tgt (pc + 3) 3 := fun _ C _ _ _ _ hx k => kg_if_ge C hx hd ht k
theorem kZt_4 (hd : decode M.1 pc = .ok (.ifCond .gt off, 3)) (ht : (pc : Int) + off = (tgt : Int)) : kJ0 M pc tgt (pc + 3) 4 := fun _ C _ _ _ _ hx k => kg_if_gt C hx hd ht k
theorem kZt_5 (hd : decode M.1 pc = .ok (.ifCond .le off, 3)) (ht : (pc : Int) + off = (tgt : Int)) : kJ0 M pc tgt (pc + 3) 5 := fun _ C _ _ _ _ hx k => kg_if_le C hx hd ht k
theorem kZf_0 (hd : decode M.1 pc = .ok (.ifCond .ne off, 3)) (ht : (pc : Int) + off = (tgt : Int)) : kJ0 M pc (pc + 3) tgt 0 := kJ0_neg kcmp_neg.1 (kZt_1 hd ht)
theorem kZf_1 (hd : decode M.1 pc = .ok (.ifCond .eq off, 3)) (ht : (pc : Int) + off = (tgt : Int)) : kJ0 M pc (pc + 3) tgt 1 := kJ0_neg kcmp_neg.2.1 (kZt_0 hd ht)
theorem kZf_2 (hd : decode M.1 pc = .ok (.ifCond .ge off, 3)) (ht : (pc : Int) + off = (tgt : Int)) : kJ0 M pc (pc + 3) tgt 2 := kJ0_neg kcmp_neg.2.2.1 (kZt_3 hd ht)
theorem kZf_3 (hd : decode M.1 pc = .ok (.ifCond .lt off, 3)) (ht : (pc : Int) + off = (tgt : Int)) : kJ0 M pc (pc + 3) tgt 3 := kJ0_neg kcmp_neg.2.2.2.1 (kZt_2 hd ht)
theorem kZf_4 (hd : decode M.1 pc = .ok (.ifCond .le off, 3)) (ht : (pc : Int) + off = (tgt : Int)) : kJ0 M pc (pc + 3) tgt 4 := kJ0_neg kcmp_neg.2.2.2.2.1 (kZt_5 hd ht)
theorem kZf_5 (hd : decode M.1 pc = .ok (.ifCond .gt off, 3)) (ht : (pc : Int) + off = (tgt : Int)) : kJ0 M pc (pc + 3) tgt 5 := kJ0_neg kcmp_neg.2.2.2.2.2 (kZt_4 hd ht)
variable {pt pf pm op : Nat} {c1 c2 c3 : kCx}
theorem kCd_C (ha : kE M d pc p1 a) (hb : kE M (d + 1) p1 p2 b) (hj : kJ M p2 pt pf op) : kCd M d pc pt pf (cC op a b) := by
  intro L st σ tv σ' hL hS hst he
  simp only [cC, Option.bind_eq_some_iff, Option.map_eq_some_iff] at he
  obtain ⟨⟨v1, σ1⟩, h1, ⟨v2, σ2⟩, h2, x, hx, y, hy, hq⟩ := he
  cases hq
  have e1 := kint_eq hx
  have e2 := kint_eq hy
  dsimp only at e1 e2 h2
  subst e1; subst e2
  obtain ⟨g1, g2, g3⟩ := ha L st σ _ _ hL hS hst h1
  obtain ⟨g4, g5, g6⟩ := hb L (.inl x :: st) _ _ _ hL g2 (by simp; omega) h2
  exact ⟨g5, fun X C k => g3 X C (g6 X C (hj X C L st σ2 x y g1 g4 k))⟩
theorem kCd_Z (ha : kE M d pc p1 a) (hj : kJ0 M p1 pt pf op) : kCd M d pc pt pf (cZ op a) := by
  intro L st σ tv σ' hL hS hst he
  simp only [cZ, Option.bind_eq_some_iff, Option.map_eq_some_iff] at he
  obtain ⟨⟨v1, σ1⟩, h1, x, hx, hq⟩ := he
  cases hq
  have e1 := kint_eq hx
  dsimp only at e1
  subst e1
  obtain ⟨g1, g2, g3⟩ := ha L st σ _ _ hL hS hst h1
  exact ⟨g2, fun X C k => g3 X C (hj X C L st σ1 x g1 k)⟩
theorem kCd_and (h1 : kCd M d pc pm pf c1) (h2 : kCd M d pm pt pf c2) : kCd M d pc pt pf (cAnd c1 c2) := by
  intro L st σ tv σ' hL hS hst he
  simp only [cAnd, Option.bind_eq_some_iff] at he
  obtain ⟨⟨t1, σ1⟩, q1, q2⟩ := he
  obtain ⟨g2, g3⟩ := h1 L st σ _ _ hL hS hst q1
  cases t1
  · simp at q2
    obtain ⟨rfl, rfl⟩ := q2
    exact ⟨g2, g3⟩
  · obtain ⟨g4, g5⟩ := h2 L st σ1 _ _ hL g2 hst (by simpa using q2)
    exact ⟨g4, fun X C k => g3 X C (g5 X C k)⟩
theorem kCd_or (h1 : kCd M d pc pt pm c1) (h2 : kCd M d pm pt pf c2) : kCd M d pc pt pf (cOr c1 c2) := by
  intro L st σ tv σ' hL hS hst he
  simp only [cOr, Option.bind_eq_some_iff] at he
  obtain ⟨⟨t1, σ1⟩, q1, q2⟩ := he
  obtain ⟨g2, g3⟩ := h1 L st σ _ _ hL hS hst q1
  cases t1
  · obtain ⟨g4, g5⟩ := h2 L st σ1 _ _ hL g2 hst (by simpa using q2)
    exact ⟨g4, fun X C k => g3 X C (g5 X C k)⟩
  · simp at q2
    obtain ⟨rfl, rfl⟩ := q2
    exact ⟨g2, g3⟩
theorem kCd_not (h1 : kCd M d pc pf pt c1) : kCd M d pc pt pf (cNot c1) := by
  intro L st σ tv σ' hL hS hst he
  simp only [cNot, Option.map_eq_some_iff] at he
  obtain ⟨⟨t1, σ1⟩, q1, q2⟩ := he
  cases q2
  obtain ⟨g2, g3⟩ := h1 L st σ _ _ hL hS hst q1
  refine ⟨g2, fun X C k => g3 X C ?_⟩
  cases t1 <;> simpa using k
theorem kCd_if {pf2 : Nat} (h0 : kCd M d pc pm pf2 c1) (h1 : kCd M d pm pt pf c2) (h2 : kCd M d pf2 pt pf c3) : kCd M d pc pt pf (cIf c1 c2 c3) := by
  intro L st σ tv σ' hL hS hst he
  simp only [cIf, Option.bind_eq_some_iff] at he
  obtain ⟨⟨t1, σ1⟩, q1, q2⟩ := he
  obtain ⟨g2, g3⟩ := h0 L st σ _ _ hL hS hst q1
  cases t1
  · obtain ⟨g4, g5⟩ := h2 L st σ1 _ _ hL g2 hst (by simpa using q2)
    exact ⟨g4, fun X C k => g3 X C (g5 X C k)⟩
  · obtain ⟨g4, g5⟩ := h1 L st σ1 _ _ hL g2 hst (by simpa using q2)
    exact ⟨g4, fun X C k => g3 X C (g5 X C k)⟩
theorem kCd_gt {c : kCx} (h : kCd M d pc p1 pf c) (hd : decode M.1 p1 = .ok (.goto off, 3)) (ht : (p1 : Int) + off = (tgt : Int)) : kCd M d pc tgt pf c := by
  intro L st σ tv σ' hL hS hst he
  obtain ⟨g2, g3⟩ := h L st σ _ _ hL hS hst he
  refine ⟨g2, fun X C k => g3 X C ?_⟩
  cases tv
  · simpa using k
  · exact kg_goto C hd ht (by simpa using k)
theorem kCd_gf {c : kCx} (h : kCd M d pc pt p1 c) (hd : decode M.1 p1 = .ok (.goto off, 3)) (ht : (p1 : Int) + off = (tgt : Int)) : kCd M d pc pt tgt c := by
  intro L st σ tv σ' hL hS hst he
  obtain ⟨g2, g3⟩ := h L st σ _ _ hL hS hst he
  refine ⟨g2, fun X C k => g3 X C ?_⟩
  cases tv
  · exact kg_goto C hd ht (by simpa using k)
  · simpa using k
end R2
