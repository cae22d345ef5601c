/-! THROWS: a method of the face that returns or throws -/
def kNames : List String := ["java/lang/RuntimeException", "java/lang/Exception"]
def kStrs : List (Nat × String) := [(101, "no room for a node"), (116, "a chain has 1 to 300 nodes"), (123, "no room for the chain"), (134, "no such node"), (137, "no room for an arc"), (146, "no such arc"), (204, "no such what"), (220, "no such place"), (225, "no such node, or k is below 0"), (230, "k is below 0"), (242, "no room for a step"), (250, "no such arc, or no such step that puts one"), (257, "a step ahead takes it already"), (266, "not so many steps"), (283, "not so many steps, or no such node")]
def eUO : String := "java/lang/UnsupportedOperationException"
def eIA : String := "java/lang/IllegalArgumentException"
def eIO : String := "java/lang/IndexOutOfBoundsException"
def eIS : String := "java/lang/IllegalStateException"
def eAll : List String := [eUO, eIA, eIO, eIS]
def kNcs : List (String × String) := [(eUO, eIA), (eUO, eIO), (eUO, eIS), (eIA, eUO), (eIA, eIO), (eIA, eIS), (eIO, eUO), (eIO, eIA), (eIO, eIS), (eIS, eUO), (eIS, eIA), (eIS, eIO)]
def kDcl : List MethodName := [Bundle.initS "java/lang/RuntimeException", Bundle.initS "java/lang/Exception", Bundle.initS Bundle.tN]
def kVm (U : State) : Prop := (∀ q ∈ kStrs, ∃ sa, vk_R RX11 q.1 q.2 sa U) ∧ (∀ q ∈ kNcs, va_Nc q.1 q.2 U) ∧ (∀ q ∈ eAll, va_Nw (.castable q q) U) ∧ ∀ q ∈ kDcl, va_Nw (.declares q) U
def kXt (A : Nat → Prop) (U : State) (H : Heap) : Prop := kVm U ∧ vx_Zq Bundle.tN "UNASSIGNED_STACK" Bundle.steD A U H ∧ vx_Zq Bundle.tN "SUPPRESSED_SENTINEL" Bundle.listD A U H
theorem kVm.warm {s U : State} (hW : s.WarmedH U.vm) (h : kVm s) : kVm U := ⟨fun q hq => by obtain ⟨sa, h1⟩ := h.1 q hq; exact ⟨sa, vk_R.warm hW h1⟩, fun q hq => (h.2.1 q hq).moved hW.alike, fun q hq => va_Nw.warmC hW (h.2.2.1 q hq), fun q hq => va_Nw.warmD hW (h.2.2.2 q hq)⟩
theorem kVm.same {u U : State} (hv : U.vm = u.vm) (h : kVm u) : kVm U := ⟨fun q hq => by obtain ⟨sa, h1⟩ := h.1 q hq; exact ⟨sa, vk_R.same hv h1⟩, fun q hq => (h.2.1 q hq).moved (by rw [hv]; exact Vm.Alike.refl _), fun q hq => va_Nw.same rfl hv.symm (h.2.2.1 q hq), fun q hq => va_Nw.same rfl hv.symm (h.2.2.2 q hq)⟩
theorem kXt.warm {A : Nat → Prop} {s U : State} {H : Heap} (hW : s.WarmedH U.vm) (h : kXt A s H) : kXt A U H := ⟨h.1.warm hW, h.2.1.moved hW.alike, h.2.2.moved hW.alike⟩
theorem kXt.same {A : Nat → Prop} {u U : State} {H : Heap} (hv : U.vm = u.vm) (h : kXt A u H) : kXt A U H := ⟨h.1.same hv, h.2.1.moved (by rw [hv]; exact Vm.Alike.refl _), h.2.2.moved (by rw [hv]; exact Vm.Alike.refl _)⟩
theorem kXt.kept {A : Nat → Prop} {U : State} {H H1 : Heap} (h : kXt A U H) (hq : ∀ a : Nat, a < H.size → ¬ A a → H1[a]? = H[a]?) : kXt A U H1 := ⟨h.1, h.2.1.kept hq, h.2.2.kept hq⟩
theorem kXt.narrow {A B : Nat → Prop} {U : State} {H : Heap} (h : kXt A U H) (hAB : ∀ q, B q → A q) : kXt B U H := ⟨h.1, h.2.1.narrow hAB, h.2.2.narrow hAB⟩
/-- a throw at a place: what it stands on, what it gives -/
def kTh (M : kM) (pc : Nat) (E : String) : Prop := ∀ (X : kX) (L : kL) (σ : kS), kC M X → (match X with
  | (_, l, _, s, _, args, below, meth, c, Q, g, A, H0, cells, slots) => l.stackTraces = false ∧ (∀ x ∈ c.exceptionTable.toList, False) ∧ meth.locks = false ∧ H0 = s.heap ∧ cells = 0 ∧ slots = 0 ∧ kXt A s s.heap ∧
    Q = vx_MQ below (fun _ _ _ _ => False) (fun E' st t => (E' = E ∧ va_P g.1 kcl (kw g σ) t.heap) ∧ va_F A st t) args s 1 6 A) → kW M X pc L [] σ
/-- the words of a throw of the class cls, by its constructor's number -/
def kTw (ic : Nat) (cls : String) : Prop := cls ∈ eAll ∧ Bundle.fit cls = true ∧ Cond.initialized cls ∈ kTBL ∧ (∀ w ∈ (vx_atS RX11 ic cls kNames).filter goodWord, w ∈ kTBL) ∧ (∀ w ∈ (vx_atS RX11 ic cls kNames).filter (fun w => !goodWord w), w ∈ Cond.castable cls cls :: kDcl.map Cond.declares) ∧ ∀ w ∈ vx_atS RX11 ic cls kNames, vx_ot w = true
theorem tw_103 : kTw 103 eUO := ⟨by decide, by decide +kernel, by decide +kernel, by decide +kernel, by decide +kernel, by decide +kernel⟩
theorem tw_118 : kTw 118 eIA := ⟨by decide, by decide +kernel, by decide +kernel, by decide +kernel, by decide +kernel, by decide +kernel⟩
theorem tw_136 : kTw 136 eIO := ⟨by decide, by decide +kernel, by decide +kernel, by decide +kernel, by decide +kernel, by decide +kernel⟩
theorem tw_259 : kTw 259 eIS := ⟨by decide, by decide +kernel, by decide +kernel, by decide +kernel, by decide +kernel, by decide +kernel⟩
theorem kTh_S {M : kM} {pc ik is ic : Nat} {cls text : String} (hM : M.2.1 = RX11) (hw : kTw ic cls) (hk : Cond.classLink RX11 ik cls ∈ kTBL) (hs : (is, text) ∈ kStrs) (d0 : decode M.1 pc = .ok (.new ik, 3)) (d3 : decode M.1 (pc + 3) = .ok (.dup, 1)) (d4 : decode M.1 (pc + 4) = .ok (.ldc is, 2)) (d6 : decode M.1 (pc + 6) = .ok (.invokespecial ic, 3)) (d9 : decode M.1 (pc + 9) = .ok (.athrow, 1))
    (hR : 6 ≤ M.2.2.2.1.frames ∧ 90 ≤ M.2.2.2.1.locals ∧ 1 ≤ M.2.2.2.1.cells ∧ 6 ≤ M.2.2.2.1.slots) : kTh M pc cls := by
  intro X L σ CC hX
  obtain ⟨p, l, e, s, m, args, below, meth, c, Q, g, A, H0, cells, slots⟩ := X
  obtain ⟨hxx, hb, hml, hown, hts, hK, hD, hA, hcs⟩ := CC
  obtain ⟨h1, h2, h3, rfl, rfl, rfl, ⟨hV, hU, hN⟩, rfl⟩ := hX
  intro H locs ls hP hS hll
  obtain ⟨sa, hsa⟩ := hV.1 _ hs
  obtain ⟨w1, w2, w3, w4, w5, w6⟩ := hw
  rw [hM] at hown
  refine vx_throwS (A := A) (names := kNames) (sa := sa) (text := text) (is := is) hxx hb h1 hown w2 (by decide +kernel) (hts _ hk) (hts _ w3) hsa (vx_hat (fun w hw => hts w (w4 w hw)) w5 (vx_c (va_Nw.use rfl (hV.2.2.1 _ w1)) (fun w hw => by obtain ⟨x, hx, rfl⟩ := List.mem_map.mp hw; exact va_Nw.use rfl (hV.2.2.2 x hx)))) (fun w hw => ?_) hU hN hS (by rw [hll.1, hml]) d0 d3 d4 d6 d9 (fun x hx => (h2 x hx).elim) ?_ ?_ ?_ ?_ h3 (fun t hv hz hk2 => ⟨⟨rfl, hP.kept (fun k q hq => hk2 q.1 ((hP k q hq).lt))⟩, Nat.le_trans hS.1 hz, fun q h1 h2 => (hk2 q (Nat.lt_of_lt_of_le h1 hS.1)).trans (hS.2.1 q h1 h2)⟩) hS.2.2 (by omega) (by omega)
  · rcases List.mem_cons.mp hw with rfl | hw
    · show vx_ot _ = true
      rw [vx_ot, kTBL_good hk]; simp
    · rcases List.mem_cons.mp hw with rfl | hw
      · rw [vx_ot, kTBL_good w3]; simp
      · exact w6 w hw
  · show 2 + 3 < M.2.2.2.1.frames
    omega
  · show 0 + (13 * (2 + 1) + 43) ≤ M.2.2.2.1.locals
    omega
  · omega
  · omega
theorem kTh_SW {M : kM} {pc ik is ic : Nat} {cls text : String} (hM : M.2.1 = RX11) (hw : kTw ic cls) (hk : Cond.classLink RX11 ik cls ∈ kTBL) (hs : (is, text) ∈ kStrs) (d0 : decode M.1 pc = .ok (.new ik, 3)) (d3 : decode M.1 (pc + 3) = .ok (.dup, 1)) (d4 : decode M.1 (pc + 4) = .ok (.ldc_w is, 3)) (d6 : decode M.1 (pc + 7) = .ok (.invokespecial ic, 3)) (d9 : decode M.1 (pc + 10) = .ok (.athrow, 1))
    (hR : 6 ≤ M.2.2.2.1.frames ∧ 90 ≤ M.2.2.2.1.locals ∧ 1 ≤ M.2.2.2.1.cells ∧ 6 ≤ M.2.2.2.1.slots) : kTh M pc cls := by
  intro X L σ CC hX
  obtain ⟨p, l, e, s, m, args, below, meth, c, Q, g, A, H0, cells, slots⟩ := X
  obtain ⟨hxx, hb, hml, hown, hts, hK, hD, hA, hcs⟩ := CC
  obtain ⟨h1, h2, h3, rfl, rfl, rfl, ⟨hV, hU, hN⟩, rfl⟩ := hX
  intro H locs ls hP hS hll
  obtain ⟨sa, hsa⟩ := hV.1 _ hs
  obtain ⟨w1, w2, w3, w4, w5, w6⟩ := hw
  rw [hM] at hown
  refine vx_throwSW (A := A) (names := kNames) (sa := sa) (text := text) (is := is) hxx hb h1 hown w2 (by decide +kernel) (hts _ hk) (hts _ w3) hsa (vx_hat (fun w hw => hts w (w4 w hw)) w5 (vx_c (va_Nw.use rfl (hV.2.2.1 _ w1)) (fun w hw => by obtain ⟨x, hx, rfl⟩ := List.mem_map.mp hw; exact va_Nw.use rfl (hV.2.2.2 x hx)))) (fun w hw => ?_) hU hN hS (by rw [hll.1, hml]) d0 d3 d4 d6 d9 (fun x hx => (h2 x hx).elim) ?_ ?_ ?_ ?_ h3 (fun t hv hz hk2 => ⟨⟨rfl, hP.kept (fun k q hq => hk2 q.1 ((hP k q hq).lt))⟩, Nat.le_trans hS.1 hz, fun q h1 h2 => (hk2 q (Nat.lt_of_lt_of_le h1 hS.1)).trans (hS.2.1 q h1 h2)⟩) hS.2.2 (by omega) (by omega)
  · rcases List.mem_cons.mp hw with rfl | hw
    · rw [vx_ot, kTBL_good hk]; simp
    · rcases List.mem_cons.mp hw with rfl | hw
      · rw [vx_ot, kTBL_good w3]; simp
      · exact w6 w hw
  · show 2 + 3 < M.2.2.2.1.frames
    omega
  · show 0 + (13 * (2 + 1) + 43) ≤ M.2.2.2.1.locals
    omega
  · omega
  · omega
def kPX (g : kG) (σ : kS) (sz : Nat) (U : State) : Prop := U.heap.size = sz ∧ va_P g.1 kcl (kw g σ) U.heap ∧ va_K g.1 kcl (ktys g) U ∧ va_D (fun _ => True) (kw g σ) ∧ kNest U ∧ kXt (va_A (kw g σ) sz) U U.heap
theorem kPX.blind {g : kG} {σ : kS} {sz : Nat} {av : List Value} : FrameBlind (va_Pc av (kPX g σ sz)) := by
  intro a U g' mk q
  obtain ⟨q0, q1, qP, qK, qD, qN, qX⟩ := q
  exact ⟨q0, q1, qP, va_K.moved (u := U) (U := U.calling g' mk a) (Vm.Alike.refl U.vm) qK, qD, qN.same (u := U) (U := U.calling g' mk a) rfl, qX.same (u := U) (U := U.calling g' mk a) rfl⟩
/-- a method that returns or throws: on every state on which its body says what becomes of it -/
def kConX (y : MethodName) (cc : ByteArray) (nL : Nat) (ret : Option FieldType) (rm : Room) (n : Nat) (chk : Option kV → Bool) (thE : Nat → Option String) (body : kSx) : Prop :=
  ∀ (av : List kV) (σ : kS) (r : kR) (L' : kL) (σ' : kS), kVS σ → (∀ v ∈ av, kVV v) → av.length = n → av.all kNL = true → body (av.map some) σ = some (r, L', σ') →
    kRv r ∧ kVS σ' ∧ ∀ (l : Launch), l.stackTraces = false → ∀ (g : kG) (sz : Nat),
    (∀ v, r = rR v → chk v = true → vx_Met l y (.code y cc nL ret :: kTBL) rm (va_Pc (av.map (kcv g)) (kPX g σ sz)) (fun _ st oc t => (oc = .returned (v.map (kcv g)) ∧ va_P g.1 kcl (kw g σ') t.heap) ∧ va_F (va_A (kw g σ) sz) st t) (fun _ _ _ => False) 1 6 (va_A (kw g σ) sz)) ∧
    (∀ pc E, r = rT pc → thE pc = some E → vx_Met l y (.code y cc nL ret :: kTBL) rm (va_Pc (av.map (kcv g)) (kPX g σ sz)) (fun _ _ _ _ => False) (fun E' st t => (E' = E ∧ va_P g.1 kcl (kw g σ') t.heap) ∧ va_F (va_A (kw g σ) sz) st t) 1 6 (va_A (kw g σ) sz))
theorem kConX_of {y : MethodName} {cc : ByteArray} {nL n : Nat} {ret : Option FieldType} {rm : Room} {chk : Option kV → Bool} {thE : Nat → Option String} {body : kSx} (hends : kEnds ret chk) (hp : plainName y.cls = true) (hn : n ≤ nL) (hrm : rm.cells = 1 ∧ rm.slots = 6)
    (hbody : ∃ pN pB pC, kSt (cc, y.cls, nL, rm, ret) 0 pN pB pC body) (hth : ∀ pc E, thE pc = some E → kTh (cc, y.cls, nL, rm, ret) pc E) : kConX y cc nL ret rm n chk thE body := by
  intro av σ r L' σ' hS hav hlen hnl hq
  obtain ⟨pN, pB, pC, hb⟩ := hbody
  have hVL : kVL (av.map some) := by
    intro v hv
    obtain ⟨w, hw, hwv⟩ := List.mem_map.mp hv
    have e : w = v := by simpa using hwv
    rw [← e]
    exact hav w hw
  obtain ⟨w1, w2, w3, w4⟩ := hb _ _ _ _ _ hVL hS hq
  refine ⟨w3, w2, fun l hl g sz => ⟨?_, ?_⟩⟩
  · rintro v rfl hchk
    refine vx_ofW (cc := cc) (maxL := nL) (ret := ret) hp rfl ?_
    intro p e s m args below meth c s₁ B hml ht hv
    obtain ⟨rfl, hsz, hP, hK, hD0, hN, hE⟩ := hv
    subst hsz
    refine W.widen (k := 1) (n := 6) (by omega) (by omega) (vx_ret ?_)
    have hD := hD0.self (sz := s.heap.size)
    have C : kC (cc, y.cls, nL, rm, ret) (p, l, e, s, m, (av.map (kcv g)).toArray, below, meth, c, MQ below (fun _ st oc t => (oc = .returned (v.map (kcv g)) ∧ va_P g.1 kcl (kw g σ') t.heap) ∧ va_F (va_A (kw g σ) s.heap.size) st t) (av.map (kcv g)).toArray s 1 6 (va_A (kw g σ) s.heap.size), g, va_A (kw g σ) s.heap.size, s.heap, 1, 6) := by
      refine ⟨B.exec, B.bytes, hml, findClass_of_methodNamed B.named, fun w hw => atoms_spec (ws := .code y cc nL ret :: kTBL) B.pre w (List.mem_cons_of_mem _ hw), hK, fun σ2 => kD_of hD, fun q hq => Or.inr hq, ⟨Nat.le_of_eq hrm.1.symm, Nat.le_of_eq hrm.2.symm⟩, hN⟩
    have hret := hends (cc, y.cls, nL, rm, ret) _ v σ' rfl C hchk ⟨B.returns, B.notSynchronized, rfl, rfl⟩
    have := w4 _ C hret s.heap [] _ hP va_S.rf (k_entry hnl (Nat.le_trans (Nat.le_of_eq hlen) hn))
    rw [lg_entry_eq]
    exact this
  · rintro pc E rfl hE0
    refine vx_ofW (cc := cc) (maxL := nL) (ret := ret) hp rfl ?_
    intro p e s m args below meth c s₁ B hml ht hv
    obtain ⟨rfl, hsz, hP, hK, hD0, hN, hE⟩ := hv
    subst hsz
    have hD := hD0.self (sz := s.heap.size)
    have C : kC (cc, y.cls, nL, rm, ret) (p, l, e, s, m, (av.map (kcv g)).toArray, below, meth, c, vx_MQ below (fun _ _ _ _ => False) (fun E' st t => (E' = E ∧ va_P g.1 kcl (kw g σ') t.heap) ∧ va_F (va_A (kw g σ) s.heap.size) st t) (av.map (kcv g)).toArray s 1 6 (va_A (kw g σ) s.heap.size), g, va_A (kw g σ) s.heap.size, s.heap, 0, 0) := by
      refine ⟨B.exec, B.bytes, hml, findClass_of_methodNamed B.named, fun w hw => atoms_spec (ws := .code y cc nL ret :: kTBL) B.pre w (List.mem_cons_of_mem _ hw), hK, fun σ2 => kD_of hD, fun q hq => Or.inr hq, ⟨Nat.zero_le _, Nat.zero_le _⟩, hN⟩
    have hret := hth pc E hE0 _ L' σ' C ⟨hl, ht, B.notSynchronized, rfl, rfl, rfl, hE, rfl⟩
    have := w4 _ C hret s.heap [] _ hP va_S.rf (k_entry hnl (Nat.le_trans (Nat.le_of_eq hlen) hn))
    rw [lg_entry_eq]
    exact this
