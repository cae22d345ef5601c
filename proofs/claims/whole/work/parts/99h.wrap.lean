/-! WRAPPERS 1: a call that returns or throws, its handler, a wrapper from its walk -/
def kXp (X : kX) : kX := match X with
  | (p, l, e, s, m, args, below, meth, c, Q, g, A, H0, cells, slots) => (p, l, e, s, m, args, below, meth, c, Q, g, A, H0, cells + 1, slots + 6)
def kXc (X : kX) : Nat := match X with
  | (_, _, _, _, _, _, _, _, _, _, _, _, _, cells, _) => cells
def kXs (X : kX) : Nat := match X with
  | (_, _, _, _, _, _, _, _, _, _, _, _, _, _, slots) => slots
/-- .. and what a throw wants -/
def kCX (M : kM) (X : kX) : Prop := kC M X ∧ match X with
  | (_, l, _, s, _, _, _, _, _, _, _, A, H0, _, _) => l.stackTraces = false ∧ kXt A s H0
/-- q of the class E is thrown here -/
def kH (M : kM) (X : kX) (pc : Nat) (L : kL) (st : List kV) (E : String) (σ : kS) : Prop := match X with
  | (p, l, e, s, m, args, below, meth, c, Q, g, A, H0, cells, slots) =>
    ∀ (H : Heap) (locs : List Loc) (ls : Array Slot) (q : Addr) (ce : Cell), va_P g.1 kcl (kw g σ) H → va_S A H0 H locs → klh g ls M.2.2.1 L → H[q]? = some ce → ce.vm = .none → s.vm.findClass E = some ce.cls →
      vx_W p l e M.2.2.2.1 s m args below meth c H locs cells slots Q (F0 m pc ls (st.map (kcv g))) q
theorem kCX.up {M : kM} {X : kX} (h : kCX M X) (h1 : kXc X + 1 ≤ M.2.2.2.1.cells) (h2 : kXs X + 6 ≤ M.2.2.2.1.slots) : kCX M (kXp X) := by
  obtain ⟨p, l, e, s, m, args, below, meth, c, Q, g, A, H0, cells, slots⟩ := X
  obtain ⟨⟨hxx, hb, hml, hown, hts, hK, hD, hA, hcs, hN⟩, hl, hX⟩ := h
  exact ⟨⟨hxx, hb, hml, hown, hts, hK, hD, hA, ⟨h1, h2⟩, hN⟩, hl, hX⟩
section KX
variable {M : kM} {pc : Nat}
theorem kg_callX {y : MethodName} {cc : ByteArray} {nL idx n : Nat} {ret : Option FieldType} {rm : Room} {chk : Option kV → Bool} {thE : Nat → Option String} {body : kSx} (hc : kConX y cc nL ret rm (n + 1) chk thE body) (hv : kMv y cc nL ret 11 n) (hl : Cond.methodLink M.2.1 idx y ∈ kTBL)
    (hR : rm.cells = 1 ∧ rm.slots = 6 ∧ rm.frames + 1 ≤ M.2.2.2.1.frames ∧ 8 + (nL + 11) + rm.locals ≤ M.2.2.2.1.locals) (hd : decode M.1 pc = .ok (.invokevirtual idx, 3))
    {L L' : kL} {st : List kV} {σ σ' : kS} {vs : List kV} {r : kR} (hst : st.length ≤ 4) (hvs : vs.length = n + 1) (hnl : vs.all kNL = true) (hvv : ∀ v ∈ vs, kVV v) (hS : kVS σ) (ho : kisO 11 vs = true) (hF : body (vs.map some) σ = some (r, L', σ')) :
    kRv r ∧ kVS σ' ∧ (∀ X, kCX M X → kXc X + 1 ≤ M.2.2.2.1.cells → kXs X + 6 ≤ M.2.2.2.1.slots → ((∃ v, r = rR v ∧ chk v = true ∧ kW M (kXp X) (pc + 3) L (v.toList ++ st) σ') ∨ ∃ pcT E, r = rT pcT ∧ thE pcT = some E ∧ kH M (kXp X) pc L st E σ') → kW M X pc L (vs.reverse ++ st) σ) := by
  obtain ⟨g1, g2, g3⟩ := hc vs σ r L' σ' hS hvv hvs hnl hF
  refine ⟨g1, g2, fun X CC hc1 hs1 kk => ?_⟩
  obtain ⟨p, l, e, s, m, args, below, meth, c, Q, g, A, H0, cells, slots⟩ := X
  obtain ⟨⟨hxx, hb, hml, hown, hts, hK, hD, hA, hcs⟩, hlf, hXt⟩ := CC
  intro H locs ls hP hSS hll
  obtain ⟨mR, mT⟩ := g3 l hlf g H.size
  obtain ⟨hv1, hv2, hv3, hv4, ⟨T, N, hv5⟩, hv6, hv7⟩ := hv
  cases vs with
  | nil => cases ho
  | cons v0 vt =>
  obtain ⟨⟨o, fl⟩, hFO⟩ := Option.isSome_iff_exists.mp (show (kFO v0 11).isSome = true from ho)
  obtain ⟨rfl, hY⟩ := kFO_spec hFO
  have hlenV : vt.length = n := by simpa using hvs
  have hfree : ∀ q, va_A (kw g σ) H.size q → A q := by
    intro q hq
    rcases hq with ⟨k, e, h⟩ | h
    · exact (hD σ).2 k (q, e) h
    · exact hA q (Nat.le_trans hSS.1 h)
  have hX2 : kXt (va_A (kw g σ) H.size) s H := (hXt.kept hSS.2.1).narrow hfree
  have hstk : (((Sum.inr (Sum.inl o) :: vt).reverse ++ st : List kV).map (kcv g)) = (vt.map (kcv g)).reverse ++ .ref (g.2.2 o) :: st.map (kcv g) := by
    simp [kcv]
  have run : ∀ (Qc : Array Value → State → Outcome → State → Prop) (XC : String → State → State → Prop), vx_Met l y (.code y cc nL ret :: kTBL) rm (va_Pc ((Sum.inr (Sum.inl o) :: vt : List kV).map (kcv g)) (kPX g σ H.size)) Qc XC 1 6 (va_A (kw g σ) H.size) →
      vx_Run p l e M.2.2.2.1 s m args below meth c H locs cells slots 1 6 (F0 m pc ls (((Sum.inr (Sum.inl o) :: vt).reverse ++ st : List kV).map (kcv g))) (st.map (kcv g)) (Qc (Value.ref (g.2.2 o) :: vt.map (kcv g)).toArray) XC (va_A (kw g σ) H.size) := by
    intro Qc XC hM
    refine vx_runV (As := vt.map (kcv g)) (b := g.2.2 o) (rest := st.map (kcv g)) (own := M.2.1) (C := y.cls) (Ts := kTBL) (n := n) (index := idx) ⟨hxx, hb, hml, hown, hts⟩ hM ⟨callB_of n hts (kgood_in hv1) rfl hR.1 hR.2.1 (hts _ hv4) (hts _ hl) ⟨hv6.1, hv6.2, hv7⟩ ⟨hR.2.2.1, hR.2.2.2⟩, hts _ hv2, hts _ hv3⟩ ?_ rfl (by simp [hlenV]) hll.1 hstk (by
      have := k_weight (g := g) hst
      show 2 * 0 + _ ≤ 8
      omega) hd ⟨hc1, hs1⟩
    exact ⟨kPX.blind, va_recv hK hP (ci := 11) (q0 := o) hv5 (kw_get (g := g) (σ := σ) hY), fun U hU hW => ⟨rfl, by rw [hU], by rw [hU]; exact hP, va_K.moved hW.alike hK, (hD σ).weaken (fun _ _ _ _ => trivial), hcs.2.warm hW, by rw [hU]; exact hX2.warm hW⟩⟩
  have join : ∀ (st₀ t T' : State) (Ls : List Loc), st₀.heap = H → T'.heap = t.heap → va_F (va_A (kw g σ) H.size) st₀ t → (∀ z ∈ Ls, va_A (kw g σ) H.size z.base) → va_S A H0 T'.heap (locs ++ Ls) := by
    intro st₀ t T' Ls h0 e1 hF1 hL
    obtain ⟨hz, hk⟩ := hF1
    rw [h0] at hz hk
    exact ⟨Nat.le_trans hSS.1 (by rw [e1]; exact hz), fun q h1 h2 => by rw [e1, hk q (Nat.lt_of_lt_of_le h1 hSS.1) (fun z => h2 (hfree q z))]; exact hSS.2.1 q h1 h2, fun q hq => by
      rcases List.mem_append.mp hq with h | h
      · exact hSS.2.2 q h
      · exact hfree _ (hL q h)⟩
  rcases kk with ⟨v, hr, hchk, kk⟩ | ⟨pcT, E, hr, hE, kk⟩
  · intro T hT X
    rcases run _ _ (mR v hr hchk) T hT X with ⟨v2, st₀, t, T', Ls, h0, X', hL, e1, e2, ⟨⟨hv0, hp⟩, hF1⟩, go⟩ | ⟨q, st₀, t, T', Ls, E, ce, h0, X', hL, e1, e2, hx, -⟩
    · cases hv0
      obtain ⟨t2, a1, b1⟩ := kk T'.heap (locs ++ Ls) ls (by rw [e1]; exact hp) (join st₀ t T' Ls h0 e1 hF1 hL) hll T' rfl X'
      refine ⟨t2, go t2 ?_, b1⟩
      cases v with
      | none => exact a1
      | some v => exact a1
    · exact hx.elim
  · intro T hT X
    rcases run _ _ (mT pcT E hr hE) T hT X with ⟨v2, st₀, t, T', Ls, h0, X', hL, e1, e2, hx, go⟩ | ⟨q, st₀, t, T', Ls, E2, ce, h0, X', hL, e1, e2, ⟨⟨rfl, hp⟩, hF1⟩, hce, hcv, hcl, go⟩
    · exact hx.elim
    · obtain ⟨t2, a1, b1⟩ := kk T'.heap (locs ++ Ls) ls q ce (by rw [e1]; exact hp) (join st₀ t T' Ls h0 e1 hF1 hL) hll (by rw [e1]; exact hce) hcv hcl T' rfl X'
      exact ⟨t2, go.trans a1, b1⟩
/-- the exception put away into a local -/
def kAs (M : kM) (h h' : Nat) : Prop := (∃ i : Fin 4, decode M.1 h = .ok (.astore_n i, 1) ∧ (i : Nat) < M.2.2.1 ∧ h' = h + 1) ∨ ∃ i : Nat, decode M.1 h = .ok (.astore i, 2) ∧ i < M.2.2.1 ∧ h' = h + 2
theorem kH_at {X : kX} {L : kL} {st : List kV} {E : String} {σ : kS} {h1 h2 : List (Nat × Nat × Nat × Nat)} {q : Nat × Nat × Nat × Nat} {h' : Nat} (CC : kCX M X) (hT : match X with
    | (_, _, _, _, _, _, _, _, c, _, _, _, _, _, _) => c.exceptionTable.toList = tableOf (h1 ++ q :: h2)) (hE : E ∈ eAll)
    (hpass : ∀ z ∈ h1, z.2.2.2 ≠ 0 ∧ ∃ nm, Cond.classLink M.2.1 z.2.2.2 nm ∈ kTBL ∧ (E, nm) ∈ kNcs) (hcov : covers ⟨q.1, q.2.1, q.2.2.1, q.2.2.2⟩ pc = true) (h0 : q.2.2.2 ≠ 0) (hl : Cond.classLink M.2.1 q.2.2.2 E ∈ kTBL) (ha : kAs M q.2.2.1 h')
    (kk : kW M X h' [] [] σ) : kH M X pc L st E σ := by
  obtain ⟨p, l, e, s, m, args, below, meth, c, Q, g, A, H0, cells, slots⟩ := X
  obtain ⟨⟨hxx, hb, hml, hown, hts, hK, hD, hA, hcs⟩, hlf, hXt⟩ := CC
  intro H locs ls qa ce hP hSS hll hce hcv hcl
  refine vx_catch (own := M.2.1) (name := E) (E := E) hown (tableOf h1) ⟨q.1, q.2.1, q.2.2.1, q.2.2.2⟩ (tableOf h2) (by rw [hT]; simp [tableOf]) (fun z hz => ?_) hcov h0 (hts _ hl) (va_Nw.use rfl (hXt.1.2.2.1 _ hE)) hce hcv hcl ?_
  · obtain ⟨z0, hz0, rfl⟩ := List.mem_map.mp hz
    obtain ⟨a1, nm, a2, a3⟩ := hpass z0 hz0
    exact Or.inr ⟨a1, nm, hts _ a2, hXt.1.2.1 _ a3⟩
  · have e0 : ∀ {ls' : Array Slot} {lv : List (Nat × Value)}, lv_has ls' M.2.2.1 lv → klh g ls' M.2.2.1 [] := fun h => ⟨h.1, h.2.1, fun i v hi => by simp at hi⟩
    rcases ha with ⟨i, d, hi, rfl⟩ | ⟨i, d, hi, rfl⟩
    · exact lv_astore_n hxx hb d rfl (klist_has hll) hi rfl (fun ls' hl' => kk H locs ls' hP hSS (e0 hl'))
    · exact lv_astore hxx hb d (klist_has hll) hi rfl (fun ls' hl' => kk H locs ls' hP hSS (e0 hl'))
end KX
/-- the wrapper as a function: what its method of the face does, and where it throws what -/
def fW (body : kSx) (chk : Option kV → Bool) (site : Nat → Option (String × Int)) (vs : List kV) (σ : kS) : Option (Int × kS) := (body (vs.map some) σ).bind fun q => match q.1 with
  | .inr (.inr (.inl (some (.inl z)))) => if chk (some (.inl z)) = true then some (0, kup q.2.2 110 0 z) else none
  | .inr (.inr (.inr pc)) => (site pc).map fun e => (e.2, q.2.2)
  | _ => none
theorem fW_spec {body : kSx} {chk : Option kV → Bool} {site : Nat → Option (String × Int)} {vs : List kV} {σ σ1 : kS} {k : Int} (h : fW body chk site vs σ = some (k, σ1)) : ∃ r L' σ', body (vs.map some) σ = some (r, L', σ') ∧
    ((∃ z, r = rR (some (.inl z)) ∧ chk (some (.inl z)) = true ∧ k = 0 ∧ σ1 = kup σ' 110 0 z) ∨ ∃ pc E, r = rT pc ∧ site pc = some (E, k) ∧ σ1 = σ') := by
  unfold fW at h
  simp only [Option.bind_eq_some_iff] at h
  obtain ⟨⟨r, L', σ'⟩, h1, h2⟩ := h
  refine ⟨r, L', σ', h1, ?_⟩
  dsimp only at h2
  split at h2
  · rename_i _ z
    split at h2
    · cases h2
      exact Or.inl ⟨z, rfl, by assumption, rfl, rfl⟩
    · cases h2
  · rename_i _ pc
    simp only [Option.map_eq_some_iff] at h2
    obtain ⟨⟨E, k2⟩, h3, h4⟩ := h2
    cases h4
    exact Or.inr ⟨pc, E, rfl, h3, rfl⟩
  · cases h2
def kArgs (xs : List Int) : List kV := .inr (.inl 0) :: (xs.map Sum.inl ++ [.inr (.inl 110)])
/-- a wrapper's contract -/
def kConW (y : MethodName) (cc : ByteArray) (nL : Nat) (hh : List (Nat × Nat × Nat × Nat)) (rm : Room) (n : Nat) (body : kSx) (chk : Option kV → Bool) (site : Nat → Option (String × Int)) : Prop :=
  ∀ (xs : List Int) (σ : kS) (k : Int) (σ1 : kS), kVS σ → (∀ x ∈ xs, kR32 x) → xs.length = n → fW body chk site (.inr (.inl 0) :: xs.map Sum.inl) σ = some (k, σ1) → kR32 k ∧ kVS σ1 ∧ ∀ (l : Launch), l.stackTraces = false → ∀ (g : kG) (sz : Nat),
    vx_Met l y (.codeWith y cc nL (some .int) hh :: kTBL) rm (va_Pc ((kArgs xs).map (kcv g)) (kPX g σ sz)) (fun _ st oc t => (oc = .returned (some (.int (Int32.ofInt k))) ∧ va_P g.1 kcl (kw g σ1) t.heap) ∧ va_F (va_A (kw g σ) sz) st t) (fun _ _ _ => False) 1 6 (va_A (kw g σ) sz)
/-- what the walk of a wrapper stands on -/
def kXW (M : kM) (hh : List (Nat × Nat × Nat × Nat)) (X : kX) : Prop := kCX M X ∧ kXc X = 0 ∧ kXs X = 0 ∧ match X with
  | (_, _, _, _, _, _, _, _, c, _, _, _, _, _, _) => c.exceptionTable.toList = tableOf hh
theorem kConW_of {y : MethodName} {cc : ByteArray} {nL n : Nat} {hh : List (Nat × Nat × Nat × Nat)} {rm : Room} {body : kSx} {chk : Option kV → Bool} {site : Nat → Option (String × Int)} (hp : plainName y.cls = true) (hn : n + 2 ≤ nL) (hrm : rm.cells = 1 ∧ rm.slots = 6)
    (hk : ∀ (xs : List Int) (σ : kS) (k : Int) (σ1 : kS), kVS σ → (∀ x ∈ xs, kR32 x) → xs.length = n → fW body chk site (.inr (.inl 0) :: xs.map Sum.inl) σ = some (k, σ1) → kR32 k ∧ kVS σ1 ∧ ∀ X, kXW (cc, y.cls, nL, rm, some .int) hh X → kRet (cc, y.cls, nL, rm, some .int) (kXp X) (some (.inl k)) σ1 → kW (cc, y.cls, nL, rm, some .int) X 0 ((kArgs xs).map some) [] σ) :
    kConW y cc nL hh rm n body chk site := by
  intro xs σ k σ1 hS hxs hlen hF
  obtain ⟨g1, g2, g3⟩ := hk xs σ k σ1 hS hxs hlen hF
  refine ⟨g1, g2, fun l hl g sz => ?_⟩
  refine vx_ofWH (cc := cc) (maxL := nL) (ret := some .int) (hh := hh) hp rfl ?_
  intro p e s m args below meth c s₁ B hml hv
  obtain ⟨rfl, hsz, hP, hK, hD0, hN, hE⟩ := hv
  subst hsz
  have hD := hD0.self (sz := s.heap.size)
  have hts0 := atoms_spec (ws := .codeWith y cc nL (some .int) hh :: kTBL) B.pre
  have htab : c.exceptionTable.toList = tableOf hh := vx_table (x := y) B (hts0 _ List.mem_cons_self)
  have hnl : (kArgs xs).all kNL = true := by
    have : ∀ v ∈ kArgs xs, kNL v = true := by
      intro v hv
      rcases List.mem_cons.mp hv with rfl | hv
      · rfl
      · rcases List.mem_append.mp hv with hv | hv
        · obtain ⟨x, -, rfl⟩ := List.mem_map.mp hv
          rfl
        · rcases List.mem_singleton.mp hv with rfl
          rfl
    exact List.all_eq_true.mpr this
  have hla : (kArgs xs).length ≤ nL := by simp [kArgs, hlen]; omega
  have C : kXW (cc, y.cls, nL, rm, some .int) hh (p, l, e, s, m, ((kArgs xs).map (kcv g)).toArray, below, meth, c, vx_MQ below (fun _ st oc t => (oc = .returned (some (.int (Int32.ofInt k))) ∧ va_P g.1 kcl (kw g σ1) t.heap) ∧ va_F (va_A (kw g σ) s.heap.size) st t) (fun _ _ _ => False) ((kArgs xs).map (kcv g)).toArray s 1 6 (va_A (kw g σ) s.heap.size), g, va_A (kw g σ) s.heap.size, s.heap, 0, 0) := by
    exact ⟨⟨⟨B.exec, B.bytes, hml, findClass_of_methodNamed B.named, fun w hw => hts0 w (List.mem_cons_of_mem _ hw), hK, fun σ2 => kD_of hD, fun q hq => Or.inr hq, ⟨Nat.zero_le _, Nat.zero_le _⟩, hN⟩, hl, hE⟩, rfl, rfl, htab⟩
  have hret : kRet (cc, y.cls, nL, rm, some .int) (kXp (p, l, e, s, m, ((kArgs xs).map (kcv g)).toArray, below, meth, c, vx_MQ below (fun _ st oc t => (oc = .returned (some (.int (Int32.ofInt k))) ∧ va_P g.1 kcl (kw g σ1) t.heap) ∧ va_F (va_A (kw g σ) s.heap.size) st t) (fun _ _ _ => False) ((kArgs xs).map (kcv g)).toArray s 1 6 (va_A (kw g σ) s.heap.size), g, va_A (kw g σ) s.heap.size, s.heap, 0, 0)) (some (.inl k)) σ1 := by
    intro pc L hd H locs ls hP1 hS1 hll
    exact vx_ret (W.iret B.exec B.bytes B.returns (fun t ht hW => ⟨⟨rfl, by rw [ht]; exact hP1⟩, hS1.F ht⟩) hS1.2.2 hd B.notSynchronized)
  have := g3 _ C hret s.heap [] _ hP va_S.rf (k_entry hnl hla)
  rw [lg_entry_eq]
  exact this
/-- the handler of the class E: what it answers -/
def kHh (M : kM) (p1 : Nat) (hh : List (Nat × Nat × Nat × Nat)) (E : String) (k : Int) : Prop := kR32 k ∧ ∃ (h1 : List (Nat × Nat × Nat × Nat)) (q : Nat × Nat × Nat × Nat) (h2 : List (Nat × Nat × Nat × Nat)) (h' : Nat), hh = h1 ++ q :: h2 ∧ E ∈ eAll ∧ (∀ z ∈ h1, z.2.2.2 ≠ 0 ∧ ∃ nm, Cond.classLink M.2.1 z.2.2.2 nm ∈ kTBL ∧ (E, nm) ∈ kNcs) ∧ covers ⟨q.1, q.2.1, q.2.2.1, q.2.2.2⟩ p1 = true ∧ q.2.2.2 ≠ 0 ∧
  Cond.classLink M.2.1 q.2.2.2 E ∈ kTBL ∧ kAs M q.2.2.1 h' ∧ decode M.1 h' = .ok (.iconst k, 1) ∧ decode M.1 (h' + 1) = .ok (.ireturn, 1)
theorem kLen1 {xs : List Int} (h : xs.length = 1) : ∃ a, xs = [a] := by
  rcases xs with _ | ⟨a, _ | ⟨b, t⟩⟩
  · cases h
  · exact ⟨a, rfl⟩
  · simp at h
theorem kLen2 {xs : List Int} (h : xs.length = 2) : ∃ a b, xs = [a, b] := by
  rcases xs with _ | ⟨a, _ | ⟨b, _ | ⟨c, t⟩⟩⟩
  · cases h
  · simp at h
  · exact ⟨a, b, rfl⟩
  · simp at h
theorem kLen3 {xs : List Int} (h : xs.length = 3) : ∃ a b c, xs = [a, b, c] := by
  rcases xs with _ | ⟨a, _ | ⟨b, _ | ⟨c, _ | ⟨d, t⟩⟩⟩⟩
  · cases h
  · simp at h
  · simp at h
  · exact ⟨a, b, c, rfl⟩
  · simp at h
theorem kWr {y yF : MethodName} {cc ccF : ByteArray} {nL nLF n idx p1 pE : Nat} {hh : List (Nat × Nat × Nat × Nat)} {rm rmF : Room} {retF : Option FieldType} {chk : Option kV → Bool} {site : Nat → Option (String × Int)} {body : kSx} (hp : plainName y.cls = true) (hn : n + 2 ≤ nL) (hrm : rm.cells = 1 ∧ rm.slots = 6)
    (hc : kConX yF ccF nLF retF rmF (n + 1) chk (fun pc => (site pc).map (·.1)) body) (hv : kMv yF ccF nLF retF 11 n) (hl : Cond.methodLink y.cls idx yF ∈ kTBL) (hR : rmF.cells = 1 ∧ rmF.slots = 6 ∧ rmF.frames + 1 ≤ rm.frames ∧ 8 + (nLF + 11) + rmF.locals ≤ rm.locals) (hd : decode cc p1 = .ok (.invokevirtual idx, 3))
    (hpush : ∀ (xs : List Int), xs.length = n → ∀ (X : kX) (σ : kS), kC (cc, y.cls, nL, rm, some .int) X → kW (cc, y.cls, nL, rm, some .int) X p1 ((kArgs xs).map some) ((.inr (.inl 0) :: xs.map Sum.inl).reverse ++ [.inl 0, .inr (.inl 110)]) σ → kW (cc, y.cls, nL, rm, some .int) X 0 ((kArgs xs).map some) [] σ)
    (hback : ∀ (X : kX) (L : kL) (z : Int) (σ : kS), kC (cc, y.cls, nL, rm, some .int) X → chk (some (.inl z)) = true → kR32 z → kW (cc, y.cls, nL, rm, some .int) X pE L [] (kup σ 110 0 z) → kW (cc, y.cls, nL, rm, some .int) X (p1 + 3) L [.inl z, .inl 0, .inr (.inl 110)] σ)
    (hd1 : decode cc pE = .ok (.iconst 0, 1)) (hd2 : decode cc (pE + 1) = .ok (.ireturn, 1)) (hH : ∀ (pc : Nat) (E : String) (k : Int), site pc = some (E, k) → kHh (cc, y.cls, nL, rm, some .int) p1 hh E k) : kConW y cc nL hh rm n body chk site := by
  refine kConW_of hp hn hrm ?_
  intro xs σ k σ1 hS hxs hlen hF
  obtain ⟨r, L', σ', hb, hr⟩ := fW_spec hF
  have hvv : ∀ v ∈ (.inr (.inl 0) :: xs.map Sum.inl : List kV), kVV v := by
    intro v hv
    rcases List.mem_cons.mp hv with rfl | hv
    · trivial
    · obtain ⟨x, hx, rfl⟩ := List.mem_map.mp hv
      exact hxs x hx
  have hnl : (.inr (.inl 0) :: xs.map Sum.inl : List kV).all kNL = true := by
    refine List.all_eq_true.mpr (fun v hv => ?_)
    rcases List.mem_cons.mp hv with rfl | hv
    · rfl
    · obtain ⟨x, hx, rfl⟩ := List.mem_map.mp hv
      rfl
  obtain ⟨g1, g2, g3⟩ := kg_callX (M := (cc, y.cls, nL, rm, some .int)) (pc := p1) (L := (kArgs xs).map some) (st := [.inl 0, .inr (.inl 110)]) hc hv hl hR hd (by decide) (by simp [hlen]) hnl hvv hS rfl hb
  rcases hr with ⟨z, rfl, hchk, rfl, rfl⟩ | ⟨pc, E, rfl, hsite, rfl⟩
  · have hz : kR32 z := g1
    refine ⟨k_z32, kup_vs g2 (k_6432 hz) (fun _ => hz), fun X C hret => ?_⟩
    obtain ⟨C1, C2, C3, C4⟩ := C
    have e1 : kXc X + 1 ≤ rm.cells := by omega
    have e2 : kXs X + 6 ≤ rm.slots := by omega
    have Cu : kCX (cc, y.cls, nL, rm, some .int) (kXp X) := C1.up e1 e2
    exact hpush xs hlen X σ C1.1 (g3 X C1 e1 e2 (Or.inl ⟨some (.inl z), rfl, hchk, hback _ _ z σ' Cu.1 hchk hz (kg_iconst Cu.1 hd1 (hret _ _ hd2))⟩))
  · obtain ⟨hk, h1, q, h2, h', q1, q2, q3, q4, q5, q6, q7, q8, q9⟩ := hH pc E k hsite
    refine ⟨hk, g2, fun X C hret => ?_⟩
    obtain ⟨C1, C2, C3, C4⟩ := C
    have e1 : kXc X + 1 ≤ rm.cells := by omega
    have e2 : kXs X + 6 ≤ rm.slots := by omega
    have Cu : kCX (cc, y.cls, nL, rm, some .int) (kXp X) := C1.up e1 e2
    refine hpush xs hlen X σ C1.1 (g3 X C1 e1 e2 (Or.inr ⟨pc, E, rfl, by rw [hsite]; rfl, kH_at Cu (h1 := h1) (q := q) (h2 := h2) (h' := h') ?_ q2 q3 q4 q5 q6 q7 (kg_iconst Cu.1 q8 (hret _ _ q9))⟩))
    obtain ⟨p, l, e, s, m, args, below, meth, c, Q, g, A, H0, cells, slots⟩ := X
    rw [← q1]
    exact C4
