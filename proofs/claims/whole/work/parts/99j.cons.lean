/-! CONSTRUCTORS 1: the world as a list, this ahead -/
/-- private constructors that nest mates call -/
def kNWI : List (String × Nat × MethodName × String) := [(RX11, 15, yX10_init, RX11), (RX11, 75, yX2_init, RX11), (RX10, 23, yX1_init, RX11)]
def kNestI (U : State) : Prop := ∀ q ∈ kNWI, va_Nw (Cond.methodLinkNest q.1 q.2.1 q.2.2.1 q.2.2.2) U
theorem kNestI.same {u U : State} (h : u.vm = U.vm) (hN : kNestI u) : kNestI U := fun q hq => va_Nw.same rfl h (hN q hq)
theorem kNestI.warm {s U : State} (h : s.WarmedH U.vm) (hN : kNestI s) : kNestI U := fun q hq => va_Nw.warmM h (hN q hq)
abbrev nB : Type := Program × Launch × Env × State × MethodId × Array Value × List Frame × Method × Code × (State → Prop) × kG × (Nat → Prop) × Heap
def nW (M : kM) (B : nB) (k n pc : Nat) (L : List (Nat × Value)) (st : List Value) (ws : va_W) : Prop := match B with
  | (p, l, e, s, m, args, below, meth, c, Q, g, A, H0) =>
    ∀ (H : Heap) (locs : List Loc) (ls : Array Slot), va_P g.1 kcl ws H → va_D A ws → va_S A H0 H locs → lv_has ls M.2.2.1 L → W p l e M.2.2.2.1 s m args below meth c H locs k n Q (F0 m pc ls st)
def nC (M : kM) (B : nB) : Prop := match B with
  | (p, l, e, s, m, args, below, meth, c, Q, g, A, H0) =>
    p.tables.exec = Jvm.exec ∧ c.code = M.1 ∧ c.maxLocals = M.2.2.1 ∧ s.vm.findClass M.2.1 = some m.cls ∧ (∀ w ∈ kTBL, w.before args s = true) ∧ va_K g.1 kcl (ktys g) s ∧ (∀ q, H0.size ≤ q → A q) ∧ kNest s ∧ kNestI s
def nN (B : nB) : Prop := match B with
  | (_, _, _, _, _, _, _, meth, _, _, _, _, _) => meth.name = "<init>"
def nGof (B : nB) : kG := match B with
  | (_, _, _, _, _, _, _, _, _, _, g, _, _) => g
theorem nW_eq {M : kM} {B : nB} {k n pc : Nat} {L : List (Nat × Value)} {st : List Value} {ws ws' : va_W} (h : ws = ws') (kk : nW M B k n pc L st ws') : nW M B k n pc L st ws := by rw [h]; exact kk
section NR
variable {M : kM} {B : nB} {k n k' n' pc : Nat} {L : List (Nat × Value)} {st : List Value} {ws : va_W}
theorem n_aload {i : Fin 4} {a : Nat} (C : nC M B) (j : Nat) (hd : decode M.1 pc = .ok (.aload_n i, 1)) (hL : L[j]? = some ((i : Nat), .ref a)) (kk : nW M B k n (pc + 1) L (.ref a :: st) ws) : nW M B k n pc L st ws := by
  obtain ⟨p, l, e, s, m, args, below, meth, c, Q, g, A, H0⟩ := B
  obtain ⟨hx, hb, hml, hown, hts, hK, hA, hN⟩ := C
  intro H locs ls hP hD hS hl
  exact lv_aload_n hx hb hd rfl (lv_at hl j hL) (kk H locs ls hP hD hS hl)
theorem n_iload {i : Fin 4} {x : Int32} (C : nC M B) (j : Nat) (hd : decode M.1 pc = .ok (.iload_n i, 1)) (hL : L[j]? = some ((i : Nat), .int x)) (kk : nW M B k n (pc + 1) L (.int x :: st) ws) : nW M B k n pc L st ws := by
  obtain ⟨p, l, e, s, m, args, below, meth, c, Q, g, A, H0⟩ := B
  obtain ⟨hx, hb, hml, hown, hts, hK, hA, hN⟩ := C
  intro H locs ls hP hD hS hl
  exact lv_iload_n hx hb hd rfl (lv_at hl j hL) (kk H locs ls hP hD hS hl)
theorem n_iconst {z : Int} {v : Int32} (C : nC M B) (hd : decode M.1 pc = .ok (.iconst z, 1)) (hv : Int32.ofInt z = v) (kk : nW M B k n (pc + 1) L (.int v :: st) ws) : nW M B k n pc L st ws := by
  obtain ⟨p, l, e, s, m, args, below, meth, c, Q, g, A, H0⟩ := B
  obtain ⟨hx, hb, hml, hown, hts, hK, hA, hN⟩ := C
  intro H locs ls hP hD hS hl
  exact lv_iconst hx hb hd hv (kk H locs ls hP hD hS hl)
theorem n_sipush {z : Int} {v : Int32} (C : nC M B) (hd : decode M.1 pc = .ok (.sipush z, 3)) (hv : (Int16.ofInt z).toInt32 = v) (kk : nW M B k n (pc + 3) L (.int v :: st) ws) : nW M B k n pc L st ws := by
  obtain ⟨p, l, e, s, m, args, below, meth, c, Q, g, A, H0⟩ := B
  obtain ⟨hx, hb, hml, hown, hts, hK, hA, hN⟩ := C
  intro H locs ls hP hD hS hl
  exact lv_sipush hx hb hd hv (kk H locs ls hP hD hS hl)
theorem n_bipush {z : Int} {v : Int32} (C : nC M B) (hd : decode M.1 pc = .ok (.bipush z, 2)) (hv : (Int8.ofInt z).toInt32 = v) (kk : nW M B k n (pc + 2) L (.int v :: st) ws) : nW M B k n pc L st ws := by
  obtain ⟨p, l, e, s, m, args, below, meth, c, Q, g, A, H0⟩ := B
  obtain ⟨hx, hb, hml, hown, hts, hK, hA, hN⟩ := C
  intro H locs ls hP hD hS hl
  exact lv_bipush hx hb hd hv (kk H locs ls hP hD hS hl)
theorem n_ldc {idx : Nat} {v : Int32} (C : nC M B) (hd : decode M.1 pc = .ok (.ldc idx, 2)) (hw : Cond.constant M.2.1 idx v ∈ kTBL) (kk : nW M B k n (pc + 2) L (.int v :: st) ws) : nW M B k n pc L st ws := by
  obtain ⟨p, l, e, s, m, args, below, meth, c, Q, g, A, H0⟩ := B
  obtain ⟨hx, hb, hml, hown, hts, hK, hA, hN⟩ := C
  intro H locs ls hP hD hS hl
  exact lv_ldc hx hb hown (hts _ hw) hd (kk H locs ls hP hD hS hl)
theorem n_dup {v : Value} (C : nC M B) (hd : decode M.1 pc = .ok (.dup, 1)) (hv : v.category = 1) (kk : nW M B k n (pc + 1) L (v :: v :: st) ws) : nW M B k n pc L (v :: st) ws := by
  obtain ⟨p, l, e, s, m, args, below, meth, c, Q, g, A, H0⟩ := B
  obtain ⟨hx, hb, hml, hown, hts, hK, hA, hN⟩ := C
  intro H locs ls hP hD hS hl
  exact lv_dup hx hb hd hv (kk H locs ls hP hD hS hl)
theorem n_goto {off : Int} {tgt : Nat} (C : nC M B) (hd : decode M.1 pc = .ok (.goto off, 3)) (ht : (pc : Int) + off = (tgt : Int)) (kk : nW M B k n tgt L st ws) : nW M B k n pc L st ws := by
  obtain ⟨p, l, e, s, m, args, below, meth, c, Q, g, A, H0⟩ := B
  obtain ⟨hx, hb, hml, hown, hts, hK, hA, hN⟩ := C
  intro H locs ls hP hD hS hl
  exact lv_goto hx hb hd ht (kk H locs ls hP hD hS hl)
theorem n_icmp_ne {x y : Int32} {off : Int} {tgt : Nat} (C : nC M B) (hd : decode M.1 pc = .ok (.if_icmp .ne off, 3)) (ht : (pc : Int) + off = (tgt : Int)) (kt : ¬ x = y → nW M B k n tgt L st ws) (kf : x = y → nW M B k n (pc + 3) L st ws) : nW M B k n pc L (.int y :: .int x :: st) ws := by
  obtain ⟨p, l, e, s, m, args, below, meth, c, Q, g, A, H0⟩ := B
  obtain ⟨hx, hb, hml, hown, hts, hK, hA, hN⟩ := C
  intro H locs ls hP hD hS hl
  exact lv_icmp_ne hx hb hd ht (fun h => kt h H locs ls hP hD hS hl) (fun h => kf h H locs ls hP hD hS hl)
theorem n_objInit {a idx : Nat} (C : nC M B) (hd : decode M.1 pc = .ok (.invokespecial idx, 3)) (hw : Cond.methodLink M.2.1 idx objectInit ∈ kTBL ∧ Cond.instanceMethod objectInit ∈ kTBL ∧ Cond.code objectInit ⟨#[0xb1]⟩ 1 none ∈ kTBL) (hR : 1 ≤ M.2.2.2.1.frames ∧ (st.map fun v => v.category).sum + 12 ≤ M.2.2.2.1.locals) (kk : nW M B k n (pc + 3) L st ws) : nW M B k n pc L (.ref a :: st) ws := by
  obtain ⟨p, l, e, s, m, args, below, meth, c, Q, g, A, H0⟩ := B
  obtain ⟨hx, hb, hml, hown, hts, hK, hA, hN⟩ := C
  intro H locs ls hP hD hS hl
  refine W.objInit hx hb hown (hts _ hw.1) (hts _ hw.2.1) (hts _ hw.2.2) rfl (by rw [hml]; exact hl.1) rfl hd hR.1 (by show 2 * 0 + _ + 12 ≤ _; omega) ?_
  exact kk H locs ls hP hD hS hl
/-- what the tables say of the class of the number ci -/
def nCl (ci : Nat) (R : String) (T : u_T) (N : Nat) (ty : Nat → FieldType) : Prop := kcl[ci]? = some (R, T, N) ∧ (∀ w ∈ u_ws R T N, w ∈ kTBL) ∧ (∀ k, k < N → parseFieldDescriptor (T k).2.2.1 = some (ty k)) ∧ (∀ a, a < N → ∀ b, b < N → a ≠ b → (T a).2.1 ≠ (T b).2.1)
def nDef (N : Nat) (ty : Nat → FieldType) : List Value := (List.range N).map (fun j => defaultValue (ty j))
theorem nDef_at {N : Nat} {ty : Nat → FieldType} : ∀ j, j < N → defaultValue (ty j) = vp_V (nDef N ty) j := by
  intro j hj
  unfold vp_V nDef
  rw [List.getD_eq_getElem?_getD, List.getElem?_map, List.getElem?_range hj]
  rfl
theorem n_new {ci N idx : Nat} {R : String} {T : u_T} {ty : Nat → FieldType} (C : nC M B) (hc : nCl ci R T N ty) (hd : decode M.1 pc = .ok (.new idx, 3)) (hw : Cond.classLink M.2.1 idx R ∈ kTBL ∧ Cond.instantiable R N ∈ kTBL ∧ Cond.initialized R ∈ kTBL) (hk : k + 1 = k' ∧ n + N = n' ∧ k' ≤ M.2.2.2.1.cells ∧ n' ≤ M.2.2.2.1.slots)
    (kk : ∀ q : Nat, nW M B k' n' (pc + 3) L (.ref q :: st) (ws ++ [(q, .inr (ci, nDef N ty))])) : nW M B k n pc L st ws := by
  obtain ⟨p, l, e, s, m, args, below, meth, c, Q, g, A, H0⟩ := B
  obtain ⟨hx, hb, hml, hown, hts, hK, hA, hN⟩ := C
  obtain ⟨c1, c2, c3, c4⟩ := hc
  obtain ⟨rfl, rfl, h3, h4⟩ := hk
  intro H locs ls hP hD hS hl
  exact va_new hx hb hts c2 ty c3 hown (hts _ hw.1) (hts _ hw.2.1) (hts _ hw.2.2) hK hP hD hS hA c1 nDef_at h3 h4 hd (fun q H1 hP1 hD1 hS1 => kk q H1 locs ls hP1 hD1 hS1 hl)
theorem va_RA_nm {U : State} {a b : ClassId} {ty : FieldType} (hty : ∀ C, ty ≠ .object C) (h1 : va_RA U a ty) (h2 : va_RA U b ty) : a = b := by
  cases ty with
  | object C => exact absurd rfl (hty C)
  | _ => exact Option.some.inj ((show U.vm.findClass _ = some a from h1).symm.trans (show U.vm.findClass _ = some b from h2))
theorem n_newi {N : Nat} {x : Int32} (C : nC M B) (hd : decode M.1 pc = .ok (.newarray .int, 2)) (hw : Cond.arrayClass .int ∈ kTBL) (hz : ¬ x < 0 ∧ x.toNatClampNeg = N ∧ N * componentBytes .int ≤ 536870912) (hk : k + 1 = k' ∧ n + N = n' ∧ k' ≤ M.2.2.2.1.cells ∧ n' ≤ M.2.2.2.1.slots)
    (kk : ∀ q : Nat, nW M B k' n' (pc + 2) L (.ref q :: st) (ws ++ [(q, .inl ((nGof B).2.1.1, N, .inl (fun _ => Int32.ofInt 0)))])) : nW M B k n pc L (.int x :: st) ws := by
  obtain ⟨p, l, e, s, m, args, below, meth, c, Q, g, A, H0⟩ := B
  obtain ⟨hx, hb, hml, hown, hts, hK, hA, hN⟩ := C
  obtain ⟨rfl, rfl, h3, h4⟩ := hk
  intro H locs ls hP hD hS hl
  refine va_newa (atype := .int) (a0 := (N, .inl (fun _ => Int32.ofInt 0))) hx hb (hts _ hw) rfl hK hP hD hS hA (fun _ => rfl) hz.1 hz.2.1 hz.2.2 h3 h4 hd (fun q cA H1 hK1 hP1 hD1 hS1 => ?_)
  have e1 : cA = g.2.1.1 := va_RA_nm (by intro C q; cases q) (hK1.2 3 (cA, .int) rfl).2 (hK1.2 0 (g.2.1.1, .int) rfl).2
  subst e1
  exact kk q H1 locs ls hP1 hD1 hS1 hl
theorem n_newb {N : Nat} {x : Int32} (C : nC M B) (hd : decode M.1 pc = .ok (.newarray .boolean, 2)) (hw : Cond.arrayClass .boolean ∈ kTBL) (hz : ¬ x < 0 ∧ x.toNatClampNeg = N ∧ N * componentBytes .boolean ≤ 536870912) (hk : k + 1 = k' ∧ n + N = n' ∧ k' ≤ M.2.2.2.1.cells ∧ n' ≤ M.2.2.2.1.slots)
    (kk : ∀ q : Nat, nW M B k' n' (pc + 2) L (.ref q :: st) (ws ++ [(q, .inl ((nGof B).2.1.2.1, N, .inl (fun _ => Int32.ofInt 0)))])) : nW M B k n pc L (.int x :: st) ws := by
  obtain ⟨p, l, e, s, m, args, below, meth, c, Q, g, A, H0⟩ := B
  obtain ⟨hx, hb, hml, hown, hts, hK, hA, hN⟩ := C
  obtain ⟨rfl, rfl, h3, h4⟩ := hk
  intro H locs ls hP hD hS hl
  refine va_newa (atype := .boolean) (a0 := (N, .inl (fun _ => Int32.ofInt 0))) hx hb (hts _ hw) rfl hK hP hD hS hA (fun _ => rfl) hz.1 hz.2.1 hz.2.2 h3 h4 hd (fun q cA H1 hK1 hP1 hD1 hS1 => ?_)
  have e1 : cA = g.2.1.2.1 := va_RA_nm (by intro C q; cases q) (hK1.2 3 (cA, .boolean) rfl).2 (hK1.2 1 (g.2.1.2.1, .boolean) rfl).2
  subst e1
  exact kk q H1 locs ls hP1 hD1 hS1 hl
theorem n_newl {N : Nat} {x : Int32} (C : nC M B) (hd : decode M.1 pc = .ok (.newarray .long, 2)) (hw : Cond.arrayClass .long ∈ kTBL) (hz : ¬ x < 0 ∧ x.toNatClampNeg = N ∧ N * componentBytes .long ≤ 536870912) (hk : k + 1 = k' ∧ n + N = n' ∧ k' ≤ M.2.2.2.1.cells ∧ n' ≤ M.2.2.2.1.slots)
    (kk : ∀ q : Nat, nW M B k' n' (pc + 2) L (.ref q :: st) (ws ++ [(q, .inl ((nGof B).2.1.2.2, N, .inr (.inl (fun _ => Int64.ofInt 0))))])) : nW M B k n pc L (.int x :: st) ws := by
  obtain ⟨p, l, e, s, m, args, below, meth, c, Q, g, A, H0⟩ := B
  obtain ⟨hx, hb, hml, hown, hts, hK, hA, hN⟩ := C
  obtain ⟨rfl, rfl, h3, h4⟩ := hk
  intro H locs ls hP hD hS hl
  refine va_newa (atype := .long) (a0 := (N, .inr (.inl (fun _ => Int64.ofInt 0)))) hx hb (hts _ hw) rfl hK hP hD hS hA (fun _ => rfl) hz.1 hz.2.1 hz.2.2 h3 h4 hd (fun q cA H1 hK1 hP1 hD1 hS1 => ?_)
  have e1 : cA = g.2.1.2.2 := va_RA_nm (by intro C q; cases q) (hK1.2 3 (cA, .long) rfl).2 (hK1.2 2 (g.2.1.2.2, .long) rfl).2
  subst e1
  exact kk q H1 locs ls hP1 hD1 hS1 hl
theorem n_putF {ci N idx j a : Nat} {T : u_T} {ty : Nat → FieldType} {fs : List Value} {v : Value} (C : nC M B) (hN : nN B) (hc : nCl ci M.2.1 T N ty) (hd : decode M.1 pc = .ok (.putfield idx, 3)) (hw : Cond.fieldLink M.2.1 idx (T j).1 (T j).2.1 (T j).2.2.1 ∈ kTBL) (hj : j < N ∧ j < fs.length ∧ (T j).2.2.2 = true ∧ (T j).1 = M.2.1) (hn : narrow (ty j) v = v) (hf : fits (ty j) v = true)
    (kk : nW M B k n (pc + 3) L st ((a, .inr (ci, fs.set j v)) :: ws)) : nW M B k n pc L (v :: .ref a :: st) ((a, .inr (ci, fs)) :: ws) := by
  obtain ⟨p, l, e, s, m, args, below, meth, c, Q, g, A, H0⟩ := B
  obtain ⟨hx, hb, hml, hown, hts, hK, hA, hNN⟩ := C
  obtain ⟨c1, c2, c3, c4⟩ := hc
  intro H locs ls hP hD hS hl
  exact va_putF hx hb hts c2 ty c3 c4 hown hK hP hD hS 0 rfl c1 j hj.1 (hts _ hw) (fun _ h => h) hj.2.2.1 hN hj.2.2.2 (c3 j hj.1) hn hf hj.2.1 hd (fun H1 locs1 hP1 hD1 hS1 => kk H1 locs1 ls hP1 hD1 hS1 hl)
theorem n_put {ci N idx j a : Nat} {T : u_T} {ty : Nat → FieldType} {fs : List Value} {v : Value} (C : nC M B) (hc : nCl ci M.2.1 T N ty) (hd : decode M.1 pc = .ok (.putfield idx, 3)) (hw : Cond.fieldLink M.2.1 idx (T j).1 (T j).2.1 (T j).2.2.1 ∈ kTBL) (hj : j < N ∧ j < fs.length ∧ (T j).2.2.2 = false) (hn : narrow (ty j) v = v) (hf : fits (ty j) v = true)
    (kk : nW M B k n (pc + 3) L st ((a, .inr (ci, fs.set j v)) :: ws)) : nW M B k n pc L (v :: .ref a :: st) ((a, .inr (ci, fs)) :: ws) := by
  obtain ⟨p, l, e, s, m, args, below, meth, c, Q, g, A, H0⟩ := B
  obtain ⟨hx, hb, hml, hown, hts, hK, hA, hNN⟩ := C
  obtain ⟨c1, c2, c3, c4⟩ := hc
  intro H locs ls hP hD hS hl
  exact va_put hx hb hts c2 ty c3 c4 hown hK hP hD hS 0 rfl c1 j hj.1 (hts _ hw) (fun _ h => h) hj.2.2 (c3 j hj.1) hn hf hj.2.1 hd (fun H1 locs1 hP1 hD1 hS1 => kk H1 locs1 ls hP1 hD1 hS1 hl)
theorem n_get {ci N idx j a : Nat} {R : String} {T : u_T} {ty : Nat → FieldType} {fs : List Value} {v : Value} (C : nC M B) (hc : nCl ci R T N ty) (hd : decode M.1 pc = .ok (.getfield idx, 3)) (hw : Cond.fieldLink M.2.1 idx (T j).1 (T j).2.1 (T j).2.2.1 ∈ kTBL) (hj : j < N) (hv : fs[j]? = some v)
    (kk : nW M B k n (pc + 3) L (v :: st) ((a, .inr (ci, fs)) :: ws)) : nW M B k n pc L (.ref a :: st) ((a, .inr (ci, fs)) :: ws) := by
  obtain ⟨p, l, e, s, m, args, below, meth, c, Q, g, A, H0⟩ := B
  obtain ⟨hx, hb, hml, hown, hts, hK, hA, hNN⟩ := C
  obtain ⟨c1, c2, c3, c4⟩ := hc
  intro H locs ls hP hD hS hl
  exact va_get hx hb hts c2 hown hK hP 0 rfl c1 j hj (hts _ hw) (fun _ h => h) hv hd (kk H locs ls hP hD hS hl)
/-- a constructor's contract: the object that is born, and what it makes -/
def nCon (y : MethodName) (cc : ByteArray) (nL : Nat) (rm : Room) (ci : Nat) (fs0 : List Value) (mc ms : Nat) (okA : List Value → Prop) (F : kG → List Value → Nat → List Nat → va_W) : Prop :=
  ∀ (l : Launch) (g : kG) (a sz : Nat) (av : List Value), okA av → Met l y (.code y cc nL none :: kTBL) rm (va_Pc (.ref a :: av) (fun U => U.heap.size = sz ∧ va_P g.1 kcl [(a, .inr (ci, fs0))] U.heap ∧ va_K g.1 kcl (ktys g) U ∧ va_D (fun _ => True) [(a, .inr (ci, fs0))] ∧ kNest U ∧ kNestI U))
    (va_Qv (fun _ : List Nat => True) (fun qs t => va_P g.1 kcl (F g av a qs) t.heap ∧ va_D (va_A [(a, .inr (ci, fs0))] sz) (F g av a qs)) (va_A [(a, .inr (ci, fs0))] sz)) mc ms (va_A [(a, .inr (ci, fs0))] sz)
theorem n_join {A0 : Nat → Prop} {D : va_G} {x : Nat × va_E} {w1 : va_W} {H H1 : Heap} (hP : va_P D kcl (ws ++ [x]) H) (hD : va_D A0 (ws ++ [x])) (hk : ∀ q : Nat, q < H.size → ¬ va_A [x] H.size q → H1[q]? = H[q]?) (hF : ∀ q, va_A [x] H.size q → A0 q) (hP1 : va_P D kcl w1 H1) (hD1 : va_D (va_A [x] H.size) w1) : va_P D kcl (ws ++ w1) H1 ∧ va_D A0 (ws ++ w1) := by
  have up : ∀ (k : Nat) (q : Nat × va_E), ws[k]? = some q → (ws ++ [x])[k]? = some q := fun k q hq => by rw [List.getElem?_append_left (List.getElem?_eq_some_iff.mp hq).1]; exact hq
  have apart : ∀ (k : Nat) (q : Nat × va_E), ws[k]? = some q → q.1 < H.size ∧ ¬ va_A [x] H.size q.1 := by
    intro k q hq
    have hkl : k < ws.length := (List.getElem?_eq_some_iff.mp hq).1
    have hl := (hP k q (up k q hq)).lt
    refine ⟨hl, fun h => ?_⟩
    rcases h with ⟨k2, e, h⟩ | h
    · cases k2 with
      | zero =>
        have hx : x = (q.1, e) := by simpa using h
        have := hD.1 k ws.length q x (up k q hq) (by simp) (by rw [hx])
        omega
      | succ k2 => simp at h
    · omega
  refine ⟨va_P.app (fun k q hq => (hP k q (up k q hq)).kept (hk q.1 (apart k q hq).1 (apart k q hq).2)) hP1, va_D.app ⟨fun i j p q hp hq hpq => hD.1 i j p q (up i p hp) (up j q hq) hpq, fun k q hq => hD.2 k q (up k q hq)⟩ (hD1.weaken (fun k q _ h => hF q.1 h)) (fun i j p q hp hq hpq => ?_)⟩
  exact (apart i p hp).2 (by rw [hpq]; exact hD1.2 j q hq)
def nPc (g : kG) (a sz ci : Nat) (fs0 : List Value) (U : State) : Prop := U.heap.size = sz ∧ va_P g.1 kcl [(a, .inr (ci, fs0))] U.heap ∧ va_K g.1 kcl (ktys g) U ∧ va_D (fun _ => True) [(a, .inr (ci, fs0))] ∧ kNest U ∧ kNestI U
theorem n_one {A0 : Nat → Prop} {D : va_G} {x : Nat × va_E} {H : Heap} (hP : va_P D kcl (ws ++ [x]) H) (hD : va_D A0 (ws ++ [x])) : va_P D kcl [x] H ∧ va_D (fun _ => True) [x] ∧ A0 x.1 := by
  have hx : (ws ++ [x])[ws.length]? = some x := by simp
  refine ⟨fun k q hq => ?_, ⟨fun i j p q hp hq _ => ?_, fun _ _ _ => trivial⟩, hD.2 _ _ hx⟩
  · cases k with
    | zero =>
      have : x = q := by simpa using hq
      rw [← this]
      exact hP _ _ hx
    | succ k => simp at hq
  · have hi := (List.getElem?_eq_some_iff.mp hp).1
    have hj := (List.getElem?_eq_some_iff.mp hq).1
    simp at hi hj
    omega
theorem n_free {A0 : Nat → Prop} {x : Nat × va_E} {H0 H : Heap} {locs : List Loc} (hx : A0 x.1) (hS : va_S A0 H0 H locs) (hA : ∀ q, H0.size ≤ q → A0 q) : ∀ q, va_A [x] H.size q → A0 q := by
  intro q hq
  rcases hq with ⟨k, e, h⟩ | h
  · cases k with
    | zero =>
      have : x = (q, e) := by simpa using h
      rw [this] at hx
      exact hx
    | succ k => simp at h
  · exact hA q (Nat.le_trans hS.1 h)
theorem nPc.blind {g : kG} {a sz ci : Nat} {fs0 av : List Value} : FrameBlind (va_Pc av (nPc g a sz ci fs0)) := by
  intro A U g' mk q
  obtain ⟨q0, q1, qP, qK, qD, qN, qI⟩ := q
  exact ⟨q0, q1, qP, va_K.moved (u := U) (U := U.calling g' mk A) (Vm.Alike.refl U.vm) qK, qD, qN.same (u := U) (U := U.calling g' mk A) rfl, qI.same (u := U) (U := U.calling g' mk A) rfl⟩
theorem n_callI {y : MethodName} {cc : ByteArray} {nL idx ci mc ms nA a : Nat} {rm : Room} {fs0 av : List Value} {okA : List Value → Prop} {F : kG → List Value → Nat → List Nat → va_W} (C : nC M B) (hc : nCon y cc nL rm ci fs0 mc ms okA F) (hd : decode M.1 pc = .ok (.invokespecial idx, 3)) (hw : Cond.code y cc nL none ∈ kTBL ∧ Cond.instanceMethod y ∈ kTBL ∧ Cond.initialized y.cls ∈ kTBL) (hl : Cond.methodLink M.2.1 idx y ∈ kTBL)
    (hy : y.name = "<init>" ∧ y.cls ≠ "java/lang/invoke/MethodHandle" ∧ y.cls ≠ "java/lang/invoke/VarHandle" ∧ (parseMethodDescriptor y.desc).map (fun d => d.parameters.length) = some nA) (hR : rm.cells = mc ∧ rm.slots = ms ∧ rm.frames + 1 ≤ M.2.2.2.1.frames ∧ 8 + (nL + 11) + rm.locals ≤ M.2.2.2.1.locals) (hk : k + mc = k' ∧ n + ms = n' ∧ k' ≤ M.2.2.2.1.cells ∧ n' ≤ M.2.2.2.1.slots) (hav : av.length = nA) (hok : okA av) (hst : (st.map fun v => v.category).sum ≤ 8)
    (kk : ∀ qs, nW M B k' n' (pc + 3) L st (ws ++ F (nGof B) av a qs)) : nW M B k n pc L (av.reverse ++ .ref a :: st) (ws ++ [(a, .inr (ci, fs0))]) := by
  obtain ⟨p, l, e, s, m, args, below, meth, c, Q, g, A, H0⟩ := B
  obtain ⟨hx, hb, hml, hown, hts, hK, hA, hN, hI⟩ := C
  obtain ⟨rfl, rfl, h3, h4⟩ := hk
  intro H locs ls hP hD hS hll
  obtain ⟨o1, o2, o3⟩ := n_one hP hD
  have hfr := n_free o3 hS hA
  refine va_callv (va_runI (As := av) (rest := st) (own := M.2.1) (Ts := kTBL) (n := nA) ⟨hx, hb, hml, hown, hts⟩ (hc l g a H.size av hok) (cwI nA hts (kgood_in hw.1) rfl hR.1 hR.2.1 (hts _ hw.2.2) (hts _ hl) (hts _ hw.2.1) hy.1 hy.2 ⟨hR.2.2.1, hR.2.2.2⟩) ⟨nPc.blind, fun U hU hW => ⟨rfl, by rw [hU], by rw [hU]; exact o1, va_K.moved hW.alike hK, o2, hN.warm hW, hI.warm hW⟩⟩ rfl hav hll.1 rfl (lv_room hst) hd ⟨h3, h4⟩) hS (fun q _ h => hfr q h) hfr (fun u t H1 locs1 ht hvm _ hB hz1 hk1 hS1 => ?_)
  obtain ⟨b1, b2⟩ := hB
  rw [ht] at b1
  obtain ⟨j1, j2⟩ := n_join hP hD hk1 hfr b1 b2
  exact kk u H1 locs1 ls j1 j2 hS1 hll
theorem n_callIN {y : MethodName} {cc : ByteArray} {nL idx ci mc ms nA a : Nat} {host : String} {rm : Room} {fs0 av : List Value} {okA : List Value → Prop} {F : kG → List Value → Nat → List Nat → va_W} (C : nC M B) (hc : nCon y cc nL rm ci fs0 mc ms okA F) (hd : decode M.1 pc = .ok (.invokespecial idx, 3)) (hw : Cond.code y cc nL none ∈ kTBL ∧ Cond.instanceMethod y ∈ kTBL ∧ Cond.initialized y.cls ∈ kTBL) (hl : (M.2.1, idx, y, host) ∈ kNWI)
    (hy : y.name = "<init>" ∧ y.cls ≠ "java/lang/invoke/MethodHandle" ∧ y.cls ≠ "java/lang/invoke/VarHandle" ∧ (parseMethodDescriptor y.desc).map (fun d => d.parameters.length) = some nA) (hR : rm.cells = mc ∧ rm.slots = ms ∧ rm.frames + 1 ≤ M.2.2.2.1.frames ∧ 8 + (nL + 11) + rm.locals ≤ M.2.2.2.1.locals) (hk : k + mc = k' ∧ n + ms = n' ∧ k' ≤ M.2.2.2.1.cells ∧ n' ≤ M.2.2.2.1.slots) (hav : av.length = nA) (hok : okA av) (hst : (st.map fun v => v.category).sum ≤ 8)
    (kk : ∀ qs, nW M B k' n' (pc + 3) L st (ws ++ F (nGof B) av a qs)) : nW M B k n pc L (av.reverse ++ .ref a :: st) (ws ++ [(a, .inr (ci, fs0))]) := by
  obtain ⟨p, l, e, s, m, args, below, meth, c, Q, g, A, H0⟩ := B
  obtain ⟨hx, hb, hml, hown, hts, hK, hA, hN, hI⟩ := C
  obtain ⟨rfl, rfl, h3, h4⟩ := hk
  intro H locs ls hP hD hS hll
  obtain ⟨o1, o2, o3⟩ := n_one hP hD
  have hfr := n_free o3 hS hA
  refine va_callv (va_runIN (As := av) (rest := st) (own := M.2.1) (host := host) (Ts := kTBL) (n := nA) ⟨hx, hb, hml, hown, hts⟩ (hc l g a H.size av hok) ⟨va_cnB nA hts (kgood_in hw.1) rfl hR.1 hR.2.1 (hI _ hl) (hts _ hw.2.2) hy.2 ⟨hR.2.2.1, hR.2.2.2⟩, hy.1, hts _ hw.2.1⟩ ⟨nPc.blind, fun U hU hW => ⟨rfl, by rw [hU], by rw [hU]; exact o1, va_K.moved hW.alike hK, o2, hN.warm hW, hI.warm hW⟩⟩ rfl hav hll.1 rfl (lv_room hst) hd ⟨h3, h4⟩) hS (fun q _ h => hfr q h) hfr (fun u t H1 locs1 ht hvm _ hB hz1 hk1 hS1 => ?_)
  obtain ⟨b1, b2⟩ := hB
  rw [ht] at b1
  obtain ⟨j1, j2⟩ := n_join hP hD hk1 hfr b1 b2
  exact kk u H1 locs1 ls j1 j2 hS1 hll
/-- the end of a constructor's walk -/
def nEnd (M : kM) (B : nB) (mc ms a : Nat) (av : List Value) (F : kG → List Value → Nat → List Nat → va_W) : Prop := ∀ (qs : List Nat) (pc : Nat) (L : List (Nat × Value)), decode M.1 pc = .ok (.return_, 1) → nW M B mc ms pc L [] (F (nGof B) av a qs)
theorem nCon_of {y : MethodName} {cc : ByteArray} {nL ci mc ms : Nat} {rm : Room} {fs0 : List Value} {okA : List Value → Prop} {F : kG → List Value → Nat → List Nat → va_W} (hp : plainName y.cls = true) (hn : y.name = "<init>") (hl : ∀ (a : Nat) (av : List Value), okA av → (lg_sl (.ref a :: av)).length ≤ nL)
    (hbody : ∀ (B : nB) (a : Nat) (av : List Value), okA av → nC (cc, y.cls, nL, rm, none) B → nN B → nEnd (cc, y.cls, nL, rm, none) B mc ms a av F → nW (cc, y.cls, nL, rm, none) B 0 0 0 (lv_args 0 (.ref a :: av)) [] [(a, .inr (ci, fs0))]) : nCon y cc nL rm ci fs0 mc ms okA F := by
  intro l g a sz av hok
  refine Met.ofW (cc := cc) (maxL := nL) (ret := none) hp rfl ?_
  intro p e s m args below meth c s₁ B hml hv
  obtain ⟨rfl, hsz, hP, hK, hD0, hN, hI⟩ := hv
  subst hsz
  have hD := hD0.self (sz := s.heap.size)
  have C : nC (cc, y.cls, nL, rm, none) (p, l, e, s, m, (Value.ref a :: av).toArray, below, meth, c, MQ below (va_Qv (fun _ : List Nat => True) (fun qs t => va_P g.1 kcl (F g av a qs) t.heap ∧ va_D (va_A [(a, .inr (ci, fs0))] s.heap.size) (F g av a qs)) (va_A [(a, .inr (ci, fs0))] s.heap.size)) (Value.ref a :: av).toArray s mc ms (va_A [(a, .inr (ci, fs0))] s.heap.size), g, va_A [(a, .inr (ci, fs0))] s.heap.size, s.heap) :=
    ⟨B.exec, B.bytes, hml, findClass_of_methodNamed B.named, fun w hw => atoms_spec (ws := .code y cc nL none :: kTBL) B.pre w (List.mem_cons_of_mem _ hw), hK, fun q hq => Or.inr hq, hN, hI⟩
  have hname : nN (p, l, e, s, m, (Value.ref a :: av).toArray, below, meth, c, MQ below (va_Qv (fun _ : List Nat => True) (fun qs t => va_P g.1 kcl (F g av a qs) t.heap ∧ va_D (va_A [(a, .inr (ci, fs0))] s.heap.size) (F g av a qs)) (va_A [(a, .inr (ci, fs0))] s.heap.size)) (Value.ref a :: av).toArray s mc ms (va_A [(a, .inr (ci, fs0))] s.heap.size), g, va_A [(a, .inr (ci, fs0))] s.heap.size, s.heap) := by
    show meth.name = "<init>"
    rw [(name_of_methodNamed B.named B.method).1]
    exact hn
  have := hbody _ a av hok C hname (fun qs pc L hd H locs ls hP1 hD1 hS1 hll => W.vret B.exec B.bytes B.returns (fun t ht hW => ⟨⟨qs, rfl, trivial, by rw [ht]; exact hP1, hD1⟩, hS1.F ht⟩) hS1.2.2 hd B.notSynchronized) s.heap [] _ hP hD va_S.rf (lv_entry (.ref a :: av) (hl a av hok))
  rw [lg_entry_eq]
  exact this
end NR
